theorem dX0_init_0 : decode cX0_init 0 = .ok (.aload_n 0, 1) := by decide +kernel
theorem dX0_init_1 : decode cX0_init 1 = .ok (.invokespecial 1, 3) := by decide +kernel
theorem dX0_init_4 : decode cX0_init 4 = .ok (.aload_n 0, 1) := by decide +kernel
theorem dX0_init_5 : decode cX0_init 5 = .ok (.bipush 24, 2) := by decide +kernel
theorem dX0_init_7 : decode cX0_init 7 = .ok (.anewarray 9, 3) := by decide +kernel
theorem dX0_init_10 : decode cX0_init 10 = .ok (.putfield 11, 3) := by decide +kernel
theorem dX0_init_13 : decode cX0_init 13 = .ok (.iconst 0, 1) := by decide +kernel
theorem dX0_init_14 : decode cX0_init 14 = .ok (.istore_n 1, 1) := by decide +kernel
theorem dX0_init_15 : decode cX0_init 15 = .ok (.iload_n 1, 1) := by decide +kernel
theorem dX0_init_16 : decode cX0_init 16 = .ok (.bipush 24, 2) := by decide +kernel
theorem dX0_init_18 : decode cX0_init 18 = .ok (.if_icmp .ge 22, 3) := by decide +kernel
theorem dX0_init_21 : decode cX0_init 21 = .ok (.aload_n 0, 1) := by decide +kernel
theorem dX0_init_22 : decode cX0_init 22 = .ok (.getfield 11, 3) := by decide +kernel
theorem dX0_init_25 : decode cX0_init 25 = .ok (.iload_n 1, 1) := by decide +kernel
theorem dX0_init_26 : decode cX0_init 26 = .ok (.new 9, 3) := by decide +kernel
theorem dX0_init_29 : decode cX0_init 29 = .ok (.dup, 1) := by decide +kernel
theorem dX0_init_30 : decode cX0_init 30 = .ok (.invokespecial 15, 3) := by decide +kernel
theorem dX0_init_33 : decode cX0_init 33 = .ok (.aastore, 1) := by decide +kernel
theorem dX0_init_34 : decode cX0_init 34 = .ok (.iinc 1 1, 3) := by decide +kernel
theorem dX0_init_37 : decode cX0_init 37 = .ok (.goto (-22), 3) := by decide +kernel
theorem dX0_init_40 : decode cX0_init 40 = .ok (.return_, 1) := by decide +kernel
theorem dX0_forget_0 : decode cX0_forget 0 = .ok (.aload_n 0, 1) := by decide +kernel
theorem dX0_forget_1 : decode cX0_forget 1 = .ok (.iconst 0, 1) := by decide +kernel
theorem dX0_forget_2 : decode cX0_forget 2 = .ok (.putfield 16, 3) := by decide +kernel
theorem dX0_forget_5 : decode cX0_forget 5 = .ok (.return_, 1) := by decide +kernel
theorem dX0_keep_0 : decode cX0_keep 0 = .ok (.aload_n 0, 1) := by decide +kernel
theorem dX0_keep_1 : decode cX0_keep 1 = .ok (.getfield 11, 3) := by decide +kernel
theorem dX0_keep_4 : decode cX0_keep 4 = .ok (.aload_n 0, 1) := by decide +kernel
theorem dX0_keep_5 : decode cX0_keep 5 = .ok (.getfield 20, 3) := by decide +kernel
theorem dX0_keep_8 : decode cX0_keep 8 = .ok (.aaload, 1) := by decide +kernel
theorem dX0_keep_9 : decode cX0_keep 9 = .ok (.aload_n 1, 1) := by decide +kernel
theorem dX0_keep_10 : decode cX0_keep 10 = .ok (.invokevirtual 23, 3) := by decide +kernel
theorem dX0_keep_13 : decode cX0_keep 13 = .ok (.aload_n 0, 1) := by decide +kernel
theorem dX0_keep_14 : decode cX0_keep 14 = .ok (.aload_n 0, 1) := by decide +kernel
theorem dX0_keep_15 : decode cX0_keep 15 = .ok (.getfield 20, 3) := by decide +kernel
theorem dX0_keep_18 : decode cX0_keep 18 = .ok (.iconst 1, 1) := by decide +kernel
theorem dX0_keep_19 : decode cX0_keep 19 = .ok (.iadd, 1) := by decide +kernel
theorem dX0_keep_20 : decode cX0_keep 20 = .ok (.bipush 24, 2) := by decide +kernel
theorem dX0_keep_22 : decode cX0_keep 22 = .ok (.irem, 1) := by decide +kernel
theorem dX0_keep_23 : decode cX0_keep 23 = .ok (.putfield 20, 3) := by decide +kernel
theorem dX0_keep_26 : decode cX0_keep 26 = .ok (.aload_n 0, 1) := by decide +kernel
theorem dX0_keep_27 : decode cX0_keep 27 = .ok (.aload_n 0, 1) := by decide +kernel
theorem dX0_keep_28 : decode cX0_keep 28 = .ok (.getfield 16, 3) := by decide +kernel
theorem dX0_keep_31 : decode cX0_keep 31 = .ok (.iconst 1, 1) := by decide +kernel
theorem dX0_keep_32 : decode cX0_keep 32 = .ok (.iadd, 1) := by decide +kernel
theorem dX0_keep_33 : decode cX0_keep 33 = .ok (.bipush 24, 2) := by decide +kernel
theorem dX0_keep_35 : decode cX0_keep 35 = .ok (.invokestatic 27, 3) := by decide +kernel
theorem dX0_keep_38 : decode cX0_keep 38 = .ok (.putfield 16, 3) := by decide +kernel
theorem dX0_keep_41 : decode cX0_keep 41 = .ok (.return_, 1) := by decide +kernel
theorem dX0_takeBack_0 : decode cX0_takeBack 0 = .ok (.aload_n 0, 1) := by decide +kernel
theorem dX0_takeBack_1 : decode cX0_takeBack 1 = .ok (.aload_n 0, 1) := by decide +kernel
theorem dX0_takeBack_2 : decode cX0_takeBack 2 = .ok (.getfield 20, 3) := by decide +kernel
theorem dX0_takeBack_5 : decode cX0_takeBack 5 = .ok (.bipush 24, 2) := by decide +kernel
theorem dX0_takeBack_7 : decode cX0_takeBack 7 = .ok (.iadd, 1) := by decide +kernel
theorem dX0_takeBack_8 : decode cX0_takeBack 8 = .ok (.iconst 1, 1) := by decide +kernel
theorem dX0_takeBack_9 : decode cX0_takeBack 9 = .ok (.isub, 1) := by decide +kernel
theorem dX0_takeBack_10 : decode cX0_takeBack 10 = .ok (.bipush 24, 2) := by decide +kernel
theorem dX0_takeBack_12 : decode cX0_takeBack 12 = .ok (.irem, 1) := by decide +kernel
theorem dX0_takeBack_13 : decode cX0_takeBack 13 = .ok (.putfield 20, 3) := by decide +kernel
theorem dX0_takeBack_16 : decode cX0_takeBack 16 = .ok (.aload_n 0, 1) := by decide +kernel
theorem dX0_takeBack_17 : decode cX0_takeBack 17 = .ok (.dup, 1) := by decide +kernel
theorem dX0_takeBack_18 : decode cX0_takeBack 18 = .ok (.getfield 16, 3) := by decide +kernel
theorem dX0_takeBack_21 : decode cX0_takeBack 21 = .ok (.iconst 1, 1) := by decide +kernel
theorem dX0_takeBack_22 : decode cX0_takeBack 22 = .ok (.isub, 1) := by decide +kernel
theorem dX0_takeBack_23 : decode cX0_takeBack 23 = .ok (.putfield 16, 3) := by decide +kernel
theorem dX0_takeBack_26 : decode cX0_takeBack 26 = .ok (.aload_n 1, 1) := by decide +kernel
theorem dX0_takeBack_27 : decode cX0_takeBack 27 = .ok (.aload_n 0, 1) := by decide +kernel
theorem dX0_takeBack_28 : decode cX0_takeBack 28 = .ok (.getfield 11, 3) := by decide +kernel
theorem dX0_takeBack_31 : decode cX0_takeBack 31 = .ok (.aload_n 0, 1) := by decide +kernel
theorem dX0_takeBack_32 : decode cX0_takeBack 32 = .ok (.getfield 20, 3) := by decide +kernel
theorem dX0_takeBack_35 : decode cX0_takeBack 35 = .ok (.aaload, 1) := by decide +kernel
theorem dX0_takeBack_36 : decode cX0_takeBack 36 = .ok (.invokevirtual 23, 3) := by decide +kernel
theorem dX0_takeBack_39 : decode cX0_takeBack 39 = .ok (.return_, 1) := by decide +kernel
theorem dX1_init_0 : decode cX1_init 0 = .ok (.aload_n 0, 1) := by decide +kernel
theorem dX1_init_1 : decode cX1_init 1 = .ok (.invokespecial 1, 3) := by decide +kernel
theorem dX1_init_4 : decode cX1_init 4 = .ok (.return_, 1) := by decide +kernel
theorem dX1_size_0 : decode cX1_size 0 = .ok (.aload_n 3, 1) := by decide +kernel
theorem dX1_size_1 : decode cX1_size 1 = .ok (.bipush 13, 2) := by decide +kernel
theorem dX1_size_3 : decode cX1_size 3 = .ok (.invokevirtual 7, 3) := by decide +kernel
theorem dX1_size_6 : decode cX1_size 6 = .ok (.aload_n 0, 1) := by decide +kernel
theorem dX1_size_7 : decode cX1_size 7 = .ok (.aload_n 1, 1) := by decide +kernel
theorem dX1_size_8 : decode cX1_size 8 = .ok (.iload_n 2, 1) := by decide +kernel
theorem dX1_size_9 : decode cX1_size 9 = .ok (.aload_n 3, 1) := by decide +kernel
theorem dX1_size_10 : decode cX1_size 10 = .ok (.invokespecial 13, 3) := by decide +kernel
theorem dX1_size_13 : decode cX1_size 13 = .ok (.bipush 100, 2) := by decide +kernel
theorem dX1_size_15 : decode cX1_size 15 = .ok (.isub, 1) := by decide +kernel
theorem dX1_size_16 : decode cX1_size 16 = .ok (.ireturn, 1) := by decide +kernel
theorem dX1_mark_0 : decode cX1_mark 0 = .ok (.aload_n 3, 1) := by decide +kernel
theorem dX1_mark_1 : decode cX1_mark 1 = .ok (.bipush 23, 2) := by decide +kernel
theorem dX1_mark_3 : decode cX1_mark 3 = .ok (.invokevirtual 7, 3) := by decide +kernel
theorem dX1_mark_6 : decode cX1_mark 6 = .ok (.aload_n 0, 1) := by decide +kernel
theorem dX1_mark_7 : decode cX1_mark 7 = .ok (.aload_n 1, 1) := by decide +kernel
theorem dX1_mark_8 : decode cX1_mark 8 = .ok (.iload_n 2, 1) := by decide +kernel
theorem dX1_mark_9 : decode cX1_mark 9 = .ok (.aload_n 3, 1) := by decide +kernel
theorem dX1_mark_10 : decode cX1_mark 10 = .ok (.invokespecial 17, 3) := by decide +kernel
theorem dX1_mark_13 : decode cX1_mark 13 = .ok (.aload_n 0, 1) := by decide +kernel
theorem dX1_mark_14 : decode cX1_mark 14 = .ok (.aload_n 1, 1) := by decide +kernel
theorem dX1_mark_15 : decode cX1_mark 15 = .ok (.iload_n 2, 1) := by decide +kernel
theorem dX1_mark_16 : decode cX1_mark 16 = .ok (.aload_n 3, 1) := by decide +kernel
theorem dX1_mark_17 : decode cX1_mark 17 = .ok (.invokevirtual 20, 3) := by decide +kernel
theorem dX1_mark_20 : decode cX1_mark 20 = .ok (.isub, 1) := by decide +kernel
theorem dX1_mark_21 : decode cX1_mark 21 = .ok (.ireturn, 1) := by decide +kernel
theorem dX2_init_0 : decode cX2_init 0 = .ok (.aload_n 0, 1) := by decide +kernel
theorem dX2_init_1 : decode cX2_init 1 = .ok (.invokespecial 1, 3) := by decide +kernel
theorem dX2_init_4 : decode cX2_init 4 = .ok (.return_, 1) := by decide +kernel
theorem dX2_size_0 : decode cX2_size 0 = .ok (.aload_n 3, 1) := by decide +kernel
theorem dX2_size_1 : decode cX2_size 1 = .ok (.bipush 11, 2) := by decide +kernel
theorem dX2_size_3 : decode cX2_size 3 = .ok (.invokevirtual 7, 3) := by decide +kernel
theorem dX2_size_6 : decode cX2_size 6 = .ok (.aload_n 0, 1) := by decide +kernel
theorem dX2_size_7 : decode cX2_size 7 = .ok (.aload_n 1, 1) := by decide +kernel
theorem dX2_size_8 : decode cX2_size 8 = .ok (.iload_n 2, 1) := by decide +kernel
theorem dX2_size_9 : decode cX2_size 9 = .ok (.aload_n 3, 1) := by decide +kernel
theorem dX2_size_10 : decode cX2_size 10 = .ok (.invokespecial 13, 3) := by decide +kernel
theorem dX2_size_13 : decode cX2_size 13 = .ok (.aload_n 0, 1) := by decide +kernel
theorem dX2_size_14 : decode cX2_size 14 = .ok (.aload_n 1, 1) := by decide +kernel
theorem dX2_size_15 : decode cX2_size 15 = .ok (.iload_n 2, 1) := by decide +kernel
theorem dX2_size_16 : decode cX2_size 16 = .ok (.aload_n 3, 1) := by decide +kernel
theorem dX2_size_17 : decode cX2_size 17 = .ok (.invokevirtual 17, 3) := by decide +kernel
theorem dX2_size_20 : decode cX2_size 20 = .ok (.iadd, 1) := by decide +kernel
theorem dX2_size_21 : decode cX2_size 21 = .ok (.ireturn, 1) := by decide +kernel
theorem dX2_mark_0 : decode cX2_mark 0 = .ok (.aload_n 3, 1) := by decide +kernel
theorem dX2_mark_1 : decode cX2_mark 1 = .ok (.bipush 21, 2) := by decide +kernel
theorem dX2_mark_3 : decode cX2_mark 3 = .ok (.invokevirtual 7, 3) := by decide +kernel
theorem dX2_mark_6 : decode cX2_mark 6 = .ok (.aload_n 0, 1) := by decide +kernel
theorem dX2_mark_7 : decode cX2_mark 7 = .ok (.aload_n 1, 1) := by decide +kernel
theorem dX2_mark_8 : decode cX2_mark 8 = .ok (.iload_n 2, 1) := by decide +kernel
theorem dX2_mark_9 : decode cX2_mark 9 = .ok (.aload_n 3, 1) := by decide +kernel
theorem dX2_mark_10 : decode cX2_mark 10 = .ok (.invokespecial 22, 3) := by decide +kernel
theorem dX2_mark_13 : decode cX2_mark 13 = .ok (.aload_n 1, 1) := by decide +kernel
theorem dX2_mark_14 : decode cX2_mark 14 = .ok (.iload_n 2, 1) := by decide +kernel
theorem dX2_mark_15 : decode cX2_mark 15 = .ok (.invokevirtual 23, 3) := by decide +kernel
theorem dX2_mark_18 : decode cX2_mark 18 = .ok (.iadd, 1) := by decide +kernel
theorem dX2_mark_19 : decode cX2_mark 19 = .ok (.ireturn, 1) := by decide +kernel
theorem dX3_init_0 : decode cX3_init 0 = .ok (.aload_n 0, 1) := by decide +kernel
theorem dX3_init_1 : decode cX3_init 1 = .ok (.invokespecial 1, 3) := by decide +kernel
theorem dX3_init_4 : decode cX3_init 4 = .ok (.return_, 1) := by decide +kernel
theorem dX3_size_0 : decode cX3_size 0 = .ok (.aload_n 3, 1) := by decide +kernel
theorem dX3_size_1 : decode cX3_size 1 = .ok (.bipush 14, 2) := by decide +kernel
theorem dX3_size_3 : decode cX3_size 3 = .ok (.invokevirtual 7, 3) := by decide +kernel
theorem dX3_size_6 : decode cX3_size 6 = .ok (.aload_n 0, 1) := by decide +kernel
theorem dX3_size_7 : decode cX3_size 7 = .ok (.aload_n 1, 1) := by decide +kernel
theorem dX3_size_8 : decode cX3_size 8 = .ok (.iload_n 2, 1) := by decide +kernel
theorem dX3_size_9 : decode cX3_size 9 = .ok (.aload_n 3, 1) := by decide +kernel
theorem dX3_size_10 : decode cX3_size 10 = .ok (.invokespecial 13, 3) := by decide +kernel
theorem dX3_size_13 : decode cX3_size 13 = .ok (.iconst 2, 1) := by decide +kernel
theorem dX3_size_14 : decode cX3_size 14 = .ok (.imul, 1) := by decide +kernel
theorem dX3_size_15 : decode cX3_size 15 = .ok (.ireturn, 1) := by decide +kernel
theorem dX4_init_0 : decode cX4_init 0 = .ok (.aload_n 0, 1) := by decide +kernel
theorem dX4_init_1 : decode cX4_init 1 = .ok (.invokespecial 1, 3) := by decide +kernel
theorem dX4_init_4 : decode cX4_init 4 = .ok (.aload_n 0, 1) := by decide +kernel
theorem dX4_init_5 : decode cX4_init 5 = .ok (.bipush 6, 2) := by decide +kernel
theorem dX4_init_7 : decode cX4_init 7 = .ok (.newarray .int, 2) := by decide +kernel
theorem dX4_init_9 : decode cX4_init 9 = .ok (.putfield 9, 3) := by decide +kernel
theorem dX4_init_12 : decode cX4_init 12 = .ok (.aload_n 0, 1) := by decide +kernel
theorem dX4_init_13 : decode cX4_init 13 = .ok (.bipush 6, 2) := by decide +kernel
theorem dX4_init_15 : decode cX4_init 15 = .ok (.newarray .int, 2) := by decide +kernel
theorem dX4_init_17 : decode cX4_init 17 = .ok (.putfield 13, 3) := by decide +kernel
theorem dX4_init_20 : decode cX4_init 20 = .ok (.aload_n 0, 1) := by decide +kernel
theorem dX4_init_21 : decode cX4_init 21 = .ok (.bipush 6, 2) := by decide +kernel
theorem dX4_init_23 : decode cX4_init 23 = .ok (.newarray .int, 2) := by decide +kernel
theorem dX4_init_25 : decode cX4_init 25 = .ok (.putfield 16, 3) := by decide +kernel
theorem dX4_init_28 : decode cX4_init 28 = .ok (.aload_n 0, 1) := by decide +kernel
theorem dX4_init_29 : decode cX4_init 29 = .ok (.bipush 6, 2) := by decide +kernel
theorem dX4_init_31 : decode cX4_init 31 = .ok (.newarray .int, 2) := by decide +kernel
theorem dX4_init_33 : decode cX4_init 33 = .ok (.putfield 19, 3) := by decide +kernel
theorem dX4_init_36 : decode cX4_init 36 = .ok (.aload_n 0, 1) := by decide +kernel
theorem dX4_init_37 : decode cX4_init 37 = .ok (.bipush 6, 2) := by decide +kernel
theorem dX4_init_39 : decode cX4_init 39 = .ok (.newarray .int, 2) := by decide +kernel
theorem dX4_init_41 : decode cX4_init 41 = .ok (.putfield 22, 3) := by decide +kernel
theorem dX4_init_44 : decode cX4_init 44 = .ok (.aload_n 0, 1) := by decide +kernel
theorem dX4_init_45 : decode cX4_init 45 = .ok (.iconst (-1), 1) := by decide +kernel
theorem dX4_init_46 : decode cX4_init 46 = .ok (.putfield 25, 3) := by decide +kernel
theorem dX4_init_49 : decode cX4_init 49 = .ok (.aload_n 0, 1) := by decide +kernel
theorem dX4_init_50 : decode cX4_init 50 = .ok (.bipush (-2), 2) := by decide +kernel
theorem dX4_init_52 : decode cX4_init 52 = .ok (.putfield 29, 3) := by decide +kernel
theorem dX4_init_55 : decode cX4_init 55 = .ok (.return_, 1) := by decide +kernel
theorem dX4_begin_0 : decode cX4_begin 0 = .ok (.aload_n 0, 1) := by decide +kernel
theorem dX4_begin_1 : decode cX4_begin 1 = .ok (.iconst 0, 1) := by decide +kernel
theorem dX4_begin_2 : decode cX4_begin 2 = .ok (.putfield 32, 3) := by decide +kernel
theorem dX4_begin_5 : decode cX4_begin 5 = .ok (.aload_n 0, 1) := by decide +kernel
theorem dX4_begin_6 : decode cX4_begin 6 = .ok (.iload_n 1, 1) := by decide +kernel
theorem dX4_begin_7 : decode cX4_begin 7 = .ok (.putfield 35, 3) := by decide +kernel
theorem dX4_begin_10 : decode cX4_begin 10 = .ok (.aload_n 0, 1) := by decide +kernel
theorem dX4_begin_11 : decode cX4_begin 11 = .ok (.iload_n 2, 1) := by decide +kernel
theorem dX4_begin_12 : decode cX4_begin 12 = .ok (.putfield 38, 3) := by decide +kernel
theorem dX4_begin_15 : decode cX4_begin 15 = .ok (.aload_n 0, 1) := by decide +kernel
theorem dX4_begin_16 : decode cX4_begin 16 = .ok (.iconst (-1), 1) := by decide +kernel
theorem dX4_begin_17 : decode cX4_begin 17 = .ok (.putfield 25, 3) := by decide +kernel
theorem dX4_begin_20 : decode cX4_begin 20 = .ok (.aload_n 0, 1) := by decide +kernel
theorem dX4_begin_21 : decode cX4_begin 21 = .ok (.iconst 0, 1) := by decide +kernel
theorem dX4_begin_22 : decode cX4_begin 22 = .ok (.putfield 41, 3) := by decide +kernel
theorem dX4_begin_25 : decode cX4_begin 25 = .ok (.aload_n 0, 1) := by decide +kernel
theorem dX4_begin_26 : decode cX4_begin 26 = .ok (.iconst 0, 1) := by decide +kernel
theorem dX4_begin_27 : decode cX4_begin 27 = .ok (.putfield 44, 3) := by decide +kernel
theorem dX4_begin_30 : decode cX4_begin 30 = .ok (.aload_n 0, 1) := by decide +kernel
theorem dX4_begin_31 : decode cX4_begin 31 = .ok (.bipush (-2), 2) := by decide +kernel
theorem dX4_begin_33 : decode cX4_begin 33 = .ok (.putfield 29, 3) := by decide +kernel
theorem dX4_begin_36 : decode cX4_begin 36 = .ok (.return_, 1) := by decide +kernel
theorem dX4_become_0 : decode cX4_become 0 = .ok (.aload_n 1, 1) := by decide +kernel
theorem dX4_become_1 : decode cX4_become 1 = .ok (.getfield 9, 3) := by decide +kernel
theorem dX4_become_4 : decode cX4_become 4 = .ok (.iconst 0, 1) := by decide +kernel
theorem dX4_become_5 : decode cX4_become 5 = .ok (.aload_n 0, 1) := by decide +kernel
theorem dX4_become_6 : decode cX4_become 6 = .ok (.getfield 9, 3) := by decide +kernel
theorem dX4_become_9 : decode cX4_become 9 = .ok (.iconst 0, 1) := by decide +kernel
theorem dX4_become_10 : decode cX4_become 10 = .ok (.bipush 6, 2) := by decide +kernel
theorem dX4_become_12 : decode cX4_become 12 = .ok (.invokestatic 47, 3) := by decide +kernel
theorem dX4_become_15 : decode cX4_become 15 = .ok (.aload_n 1, 1) := by decide +kernel
theorem dX4_become_16 : decode cX4_become 16 = .ok (.getfield 13, 3) := by decide +kernel
theorem dX4_become_19 : decode cX4_become 19 = .ok (.iconst 0, 1) := by decide +kernel
theorem dX4_become_20 : decode cX4_become 20 = .ok (.aload_n 0, 1) := by decide +kernel
theorem dX4_become_21 : decode cX4_become 21 = .ok (.getfield 13, 3) := by decide +kernel
theorem dX4_become_24 : decode cX4_become 24 = .ok (.iconst 0, 1) := by decide +kernel
theorem dX4_become_25 : decode cX4_become 25 = .ok (.bipush 6, 2) := by decide +kernel
theorem dX4_become_27 : decode cX4_become 27 = .ok (.invokestatic 47, 3) := by decide +kernel
theorem dX4_become_30 : decode cX4_become 30 = .ok (.aload_n 1, 1) := by decide +kernel
theorem dX4_become_31 : decode cX4_become 31 = .ok (.getfield 16, 3) := by decide +kernel
theorem dX4_become_34 : decode cX4_become 34 = .ok (.iconst 0, 1) := by decide +kernel
theorem dX4_become_35 : decode cX4_become 35 = .ok (.aload_n 0, 1) := by decide +kernel
theorem dX4_become_36 : decode cX4_become 36 = .ok (.getfield 16, 3) := by decide +kernel
theorem dX4_become_39 : decode cX4_become 39 = .ok (.iconst 0, 1) := by decide +kernel
theorem dX4_become_40 : decode cX4_become 40 = .ok (.bipush 6, 2) := by decide +kernel
theorem dX4_become_42 : decode cX4_become 42 = .ok (.invokestatic 47, 3) := by decide +kernel
theorem dX4_become_45 : decode cX4_become 45 = .ok (.aload_n 1, 1) := by decide +kernel
theorem dX4_become_46 : decode cX4_become 46 = .ok (.getfield 19, 3) := by decide +kernel
theorem dX4_become_49 : decode cX4_become 49 = .ok (.iconst 0, 1) := by decide +kernel
theorem dX4_become_50 : decode cX4_become 50 = .ok (.aload_n 0, 1) := by decide +kernel
theorem dX4_become_51 : decode cX4_become 51 = .ok (.getfield 19, 3) := by decide +kernel
theorem dX4_become_54 : decode cX4_become 54 = .ok (.iconst 0, 1) := by decide +kernel
theorem dX4_become_55 : decode cX4_become 55 = .ok (.bipush 6, 2) := by decide +kernel
theorem dX4_become_57 : decode cX4_become 57 = .ok (.invokestatic 47, 3) := by decide +kernel
theorem dX4_become_60 : decode cX4_become 60 = .ok (.aload_n 1, 1) := by decide +kernel
theorem dX4_become_61 : decode cX4_become 61 = .ok (.getfield 22, 3) := by decide +kernel
theorem dX4_become_64 : decode cX4_become 64 = .ok (.iconst 0, 1) := by decide +kernel
theorem dX4_become_65 : decode cX4_become 65 = .ok (.aload_n 0, 1) := by decide +kernel
theorem dX4_become_66 : decode cX4_become 66 = .ok (.getfield 22, 3) := by decide +kernel
theorem dX4_become_69 : decode cX4_become 69 = .ok (.iconst 0, 1) := by decide +kernel
theorem dX4_become_70 : decode cX4_become 70 = .ok (.bipush 6, 2) := by decide +kernel
theorem dX4_become_72 : decode cX4_become 72 = .ok (.invokestatic 47, 3) := by decide +kernel
theorem dX4_become_75 : decode cX4_become 75 = .ok (.aload_n 0, 1) := by decide +kernel
theorem dX4_become_76 : decode cX4_become 76 = .ok (.aload_n 1, 1) := by decide +kernel
theorem dX4_become_77 : decode cX4_become 77 = .ok (.getfield 32, 3) := by decide +kernel
theorem dX4_become_80 : decode cX4_become 80 = .ok (.putfield 32, 3) := by decide +kernel
theorem dX4_become_83 : decode cX4_become 83 = .ok (.aload_n 0, 1) := by decide +kernel
theorem dX4_become_84 : decode cX4_become 84 = .ok (.aload_n 1, 1) := by decide +kernel
theorem dX4_become_85 : decode cX4_become 85 = .ok (.getfield 35, 3) := by decide +kernel
theorem dX4_become_88 : decode cX4_become 88 = .ok (.putfield 35, 3) := by decide +kernel
theorem dX4_become_91 : decode cX4_become 91 = .ok (.aload_n 0, 1) := by decide +kernel
theorem dX4_become_92 : decode cX4_become 92 = .ok (.aload_n 1, 1) := by decide +kernel
theorem dX4_become_93 : decode cX4_become 93 = .ok (.getfield 38, 3) := by decide +kernel
theorem dX4_become_96 : decode cX4_become 96 = .ok (.putfield 38, 3) := by decide +kernel
theorem dX4_become_99 : decode cX4_become 99 = .ok (.aload_n 0, 1) := by decide +kernel
theorem dX4_become_100 : decode cX4_become 100 = .ok (.aload_n 1, 1) := by decide +kernel
theorem dX4_become_101 : decode cX4_become 101 = .ok (.getfield 25, 3) := by decide +kernel
theorem dX4_become_104 : decode cX4_become 104 = .ok (.putfield 25, 3) := by decide +kernel
theorem dX4_become_107 : decode cX4_become 107 = .ok (.aload_n 0, 1) := by decide +kernel
theorem dX4_become_108 : decode cX4_become 108 = .ok (.aload_n 1, 1) := by decide +kernel
theorem dX4_become_109 : decode cX4_become 109 = .ok (.getfield 41, 3) := by decide +kernel
theorem dX4_become_112 : decode cX4_become 112 = .ok (.putfield 41, 3) := by decide +kernel
theorem dX4_become_115 : decode cX4_become 115 = .ok (.aload_n 0, 1) := by decide +kernel
theorem dX4_become_116 : decode cX4_become 116 = .ok (.aload_n 1, 1) := by decide +kernel
theorem dX4_become_117 : decode cX4_become 117 = .ok (.getfield 44, 3) := by decide +kernel
theorem dX4_become_120 : decode cX4_become 120 = .ok (.putfield 44, 3) := by decide +kernel
theorem dX4_become_123 : decode cX4_become 123 = .ok (.aload_n 0, 1) := by decide +kernel
theorem dX4_become_124 : decode cX4_become 124 = .ok (.aload_n 1, 1) := by decide +kernel
theorem dX4_become_125 : decode cX4_become 125 = .ok (.getfield 29, 3) := by decide +kernel
theorem dX4_become_128 : decode cX4_become 128 = .ok (.putfield 29, 3) := by decide +kernel
theorem dX4_become_131 : decode cX4_become 131 = .ok (.return_, 1) := by decide +kernel
theorem dX4_put_0 : decode cX4_put 0 = .ok (.iload_n 1, 1) := by decide +kernel
theorem dX4_put_1 : decode cX4_put 1 = .ok (.tableswitch 57 0 2 #[27, 37, 47], 27) := by decide +kernel
theorem dX4_put_28 : decode cX4_put 28 = .ok (.aload_n 0, 1) := by decide +kernel
theorem dX4_put_29 : decode cX4_put 29 = .ok (.getfield 9, 3) := by decide +kernel
theorem dX4_put_32 : decode cX4_put 32 = .ok (.iload_n 2, 1) := by decide +kernel
theorem dX4_put_33 : decode cX4_put 33 = .ok (.iload_n 3, 1) := by decide +kernel
theorem dX4_put_34 : decode cX4_put 34 = .ok (.iastore, 1) := by decide +kernel
theorem dX4_put_35 : decode cX4_put 35 = .ok (.goto 30, 3) := by decide +kernel
theorem dX4_put_38 : decode cX4_put 38 = .ok (.aload_n 0, 1) := by decide +kernel
theorem dX4_put_39 : decode cX4_put 39 = .ok (.getfield 13, 3) := by decide +kernel
theorem dX4_put_42 : decode cX4_put 42 = .ok (.iload_n 2, 1) := by decide +kernel
theorem dX4_put_43 : decode cX4_put 43 = .ok (.iload_n 3, 1) := by decide +kernel
theorem dX4_put_44 : decode cX4_put 44 = .ok (.iastore, 1) := by decide +kernel
theorem dX4_put_45 : decode cX4_put 45 = .ok (.goto 20, 3) := by decide +kernel
theorem dX4_put_48 : decode cX4_put 48 = .ok (.aload_n 0, 1) := by decide +kernel
theorem dX4_put_49 : decode cX4_put 49 = .ok (.getfield 16, 3) := by decide +kernel
theorem dX4_put_52 : decode cX4_put 52 = .ok (.iload_n 2, 1) := by decide +kernel
theorem dX4_put_53 : decode cX4_put 53 = .ok (.iload_n 3, 1) := by decide +kernel
theorem dX4_put_54 : decode cX4_put 54 = .ok (.iastore, 1) := by decide +kernel
theorem dX4_put_55 : decode cX4_put 55 = .ok (.goto 10, 3) := by decide +kernel
theorem dX4_put_58 : decode cX4_put 58 = .ok (.aload_n 0, 1) := by decide +kernel
theorem dX4_put_59 : decode cX4_put 59 = .ok (.getfield 19, 3) := by decide +kernel
theorem dX4_put_62 : decode cX4_put 62 = .ok (.iload_n 2, 1) := by decide +kernel
theorem dX4_put_63 : decode cX4_put 63 = .ok (.iload_n 3, 1) := by decide +kernel
theorem dX4_put_64 : decode cX4_put 64 = .ok (.iastore, 1) := by decide +kernel
theorem dX4_put_65 : decode cX4_put 65 = .ok (.aload_n 0, 1) := by decide +kernel
theorem dX4_put_66 : decode cX4_put 66 = .ok (.bipush (-2), 2) := by decide +kernel
theorem dX4_put_68 : decode cX4_put 68 = .ok (.putfield 29, 3) := by decide +kernel
theorem dX4_put_71 : decode cX4_put 71 = .ok (.return_, 1) := by decide +kernel
theorem dX4_mostOf_0 : decode cX4_mostOf 0 = .ok (.iload_n 1, 1) := by decide +kernel
theorem dX4_mostOf_1 : decode cX4_mostOf 1 = .ok (.lookupswitch 32 #[(0, 27), (3, 29)], 27) := by decide +kernel
theorem dX4_mostOf_28 : decode cX4_mostOf 28 = .ok (.iconst 5, 1) := by decide +kernel
theorem dX4_mostOf_29 : decode cX4_mostOf 29 = .ok (.ireturn, 1) := by decide +kernel
theorem dX4_mostOf_30 : decode cX4_mostOf 30 = .ok (.bipush 9, 2) := by decide +kernel
theorem dX4_mostOf_32 : decode cX4_mostOf 32 = .ok (.ireturn, 1) := by decide +kernel
theorem dX4_mostOf_33 : decode cX4_mostOf 33 = .ok (.aload_n 0, 1) := by decide +kernel
theorem dX4_mostOf_34 : decode cX4_mostOf 34 = .ok (.getfield 35, 3) := by decide +kernel
theorem dX4_mostOf_37 : decode cX4_mostOf 37 = .ok (.ireturn, 1) := by decide +kernel
theorem dX4_conceal_0 : decode cX4_conceal 0 = .ok (.iconst 0, 1) := by decide +kernel
theorem dX4_conceal_1 : decode cX4_conceal 1 = .ok (.istore_n 2, 1) := by decide +kernel
theorem dX4_conceal_2 : decode cX4_conceal 2 = .ok (.iload_n 2, 1) := by decide +kernel
theorem dX4_conceal_3 : decode cX4_conceal 3 = .ok (.aload_n 0, 1) := by decide +kernel
theorem dX4_conceal_4 : decode cX4_conceal 4 = .ok (.getfield 32, 3) := by decide +kernel
theorem dX4_conceal_7 : decode cX4_conceal 7 = .ok (.if_icmp .ge 24, 3) := by decide +kernel
theorem dX4_conceal_10 : decode cX4_conceal 10 = .ok (.iload_n 1, 1) := by decide +kernel
theorem dX4_conceal_11 : decode cX4_conceal 11 = .ok (.iload_n 2, 1) := by decide +kernel
theorem dX4_conceal_12 : decode cX4_conceal 12 = .ok (.ishr, 1) := by decide +kernel
theorem dX4_conceal_13 : decode cX4_conceal 13 = .ok (.iconst 1, 1) := by decide +kernel
theorem dX4_conceal_14 : decode cX4_conceal 14 = .ok (.iand, 1) := by decide +kernel
theorem dX4_conceal_15 : decode cX4_conceal 15 = .ok (.ifCond .eq 10, 3) := by decide +kernel
theorem dX4_conceal_18 : decode cX4_conceal 18 = .ok (.aload_n 0, 1) := by decide +kernel
theorem dX4_conceal_19 : decode cX4_conceal 19 = .ok (.iconst 3, 1) := by decide +kernel
theorem dX4_conceal_20 : decode cX4_conceal 20 = .ok (.iload_n 2, 1) := by decide +kernel
theorem dX4_conceal_21 : decode cX4_conceal 21 = .ok (.iconst 0, 1) := by decide +kernel
theorem dX4_conceal_22 : decode cX4_conceal 22 = .ok (.invokevirtual 53, 3) := by decide +kernel
theorem dX4_conceal_25 : decode cX4_conceal 25 = .ok (.iinc 2 1, 3) := by decide +kernel
theorem dX4_conceal_28 : decode cX4_conceal 28 = .ok (.goto (-26), 3) := by decide +kernel
theorem dX4_conceal_31 : decode cX4_conceal 31 = .ok (.return_, 1) := by decide +kernel
theorem dX4_showing_0 : decode cX4_showing 0 = .ok (.iconst 0, 1) := by decide +kernel
theorem dX4_showing_1 : decode cX4_showing 1 = .ok (.istore_n 1, 1) := by decide +kernel
theorem dX4_showing_2 : decode cX4_showing 2 = .ok (.iconst 0, 1) := by decide +kernel
theorem dX4_showing_3 : decode cX4_showing 3 = .ok (.istore_n 2, 1) := by decide +kernel
theorem dX4_showing_4 : decode cX4_showing 4 = .ok (.iload_n 2, 1) := by decide +kernel
theorem dX4_showing_5 : decode cX4_showing 5 = .ok (.aload_n 0, 1) := by decide +kernel
theorem dX4_showing_6 : decode cX4_showing 6 = .ok (.getfield 32, 3) := by decide +kernel
theorem dX4_showing_9 : decode cX4_showing 9 = .ok (.if_icmp .ge 28, 3) := by decide +kernel
theorem dX4_showing_12 : decode cX4_showing 12 = .ok (.iload_n 1, 1) := by decide +kernel
theorem dX4_showing_13 : decode cX4_showing 13 = .ok (.aload_n 0, 1) := by decide +kernel
theorem dX4_showing_14 : decode cX4_showing 14 = .ok (.getfield 19, 3) := by decide +kernel
theorem dX4_showing_17 : decode cX4_showing 17 = .ok (.iload_n 2, 1) := by decide +kernel
theorem dX4_showing_18 : decode cX4_showing 18 = .ok (.iaload, 1) := by decide +kernel
theorem dX4_showing_19 : decode cX4_showing 19 = .ok (.ifCond .le 9, 3) := by decide +kernel
theorem dX4_showing_22 : decode cX4_showing 22 = .ok (.iconst 1, 1) := by decide +kernel
theorem dX4_showing_23 : decode cX4_showing 23 = .ok (.iload_n 2, 1) := by decide +kernel
theorem dX4_showing_24 : decode cX4_showing 24 = .ok (.ishl, 1) := by decide +kernel
theorem dX4_showing_25 : decode cX4_showing 25 = .ok (.goto 4, 3) := by decide +kernel
theorem dX4_showing_28 : decode cX4_showing 28 = .ok (.iconst 0, 1) := by decide +kernel
theorem dX4_showing_29 : decode cX4_showing 29 = .ok (.ior, 1) := by decide +kernel
theorem dX4_showing_30 : decode cX4_showing 30 = .ok (.istore_n 1, 1) := by decide +kernel
theorem dX4_showing_31 : decode cX4_showing 31 = .ok (.iinc 2 1, 3) := by decide +kernel
theorem dX4_showing_34 : decode cX4_showing 34 = .ok (.goto (-30), 3) := by decide +kernel
theorem dX4_showing_37 : decode cX4_showing 37 = .ok (.iload_n 1, 1) := by decide +kernel
theorem dX4_showing_38 : decode cX4_showing 38 = .ok (.ireturn, 1) := by decide +kernel
theorem dX4_isBrought_0 : decode cX4_isBrought 0 = .ok (.aload_n 0, 1) := by decide +kernel
theorem dX4_isBrought_1 : decode cX4_isBrought 1 = .ok (.getfield 41, 3) := by decide +kernel
theorem dX4_isBrought_4 : decode cX4_isBrought 4 = .ok (.iload_n 1, 1) := by decide +kernel
theorem dX4_isBrought_5 : decode cX4_isBrought 5 = .ok (.ishr, 1) := by decide +kernel
theorem dX4_isBrought_6 : decode cX4_isBrought 6 = .ok (.iconst 1, 1) := by decide +kernel
theorem dX4_isBrought_7 : decode cX4_isBrought 7 = .ok (.iand, 1) := by decide +kernel
theorem dX4_isBrought_8 : decode cX4_isBrought 8 = .ok (.ifCond .eq 7, 3) := by decide +kernel
theorem dX4_isBrought_11 : decode cX4_isBrought 11 = .ok (.iconst 1, 1) := by decide +kernel
theorem dX4_isBrought_12 : decode cX4_isBrought 12 = .ok (.goto 4, 3) := by decide +kernel
theorem dX4_isBrought_15 : decode cX4_isBrought 15 = .ok (.iconst 0, 1) := by decide +kernel
theorem dX4_isBrought_16 : decode cX4_isBrought 16 = .ok (.ireturn, 1) := by decide +kernel
theorem dX4_minding_0 : decode cX4_minding 0 = .ok (.aload_n 0, 1) := by decide +kernel
theorem dX4_minding_1 : decode cX4_minding 1 = .ok (.getfield 19, 3) := by decide +kernel
theorem dX4_minding_4 : decode cX4_minding 4 = .ok (.iload_n 2, 1) := by decide +kernel
theorem dX4_minding_5 : decode cX4_minding 5 = .ok (.iaload, 1) := by decide +kernel
theorem dX4_minding_6 : decode cX4_minding 6 = .ok (.aload_n 0, 1) := by decide +kernel
theorem dX4_minding_7 : decode cX4_minding 7 = .ok (.getfield 19, 3) := by decide +kernel
theorem dX4_minding_10 : decode cX4_minding 10 = .ok (.iload_n 1, 1) := by decide +kernel
theorem dX4_minding_11 : decode cX4_minding 11 = .ok (.iaload, 1) := by decide +kernel
theorem dX4_minding_12 : decode cX4_minding 12 = .ok (.if_icmp .le 19, 3) := by decide +kernel
theorem dX4_minding_15 : decode cX4_minding 15 = .ok (.aload_n 0, 1) := by decide +kernel
theorem dX4_minding_16 : decode cX4_minding 16 = .ok (.getfield 19, 3) := by decide +kernel
theorem dX4_minding_19 : decode cX4_minding 19 = .ok (.iload_n 2, 1) := by decide +kernel
theorem dX4_minding_20 : decode cX4_minding 20 = .ok (.iaload, 1) := by decide +kernel
theorem dX4_minding_21 : decode cX4_minding 21 = .ok (.aload_n 0, 1) := by decide +kernel
theorem dX4_minding_22 : decode cX4_minding 22 = .ok (.getfield 19, 3) := by decide +kernel
theorem dX4_minding_25 : decode cX4_minding 25 = .ok (.iload_n 1, 1) := by decide +kernel
theorem dX4_minding_26 : decode cX4_minding 26 = .ok (.iaload, 1) := by decide +kernel
theorem dX4_minding_27 : decode cX4_minding 27 = .ok (.isub, 1) := by decide +kernel
theorem dX4_minding_28 : decode cX4_minding 28 = .ok (.goto 4, 3) := by decide +kernel
theorem dX4_minding_31 : decode cX4_minding 31 = .ok (.iconst 0, 1) := by decide +kernel
theorem dX4_minding_32 : decode cX4_minding 32 = .ok (.istore_n 3, 1) := by decide +kernel
theorem dX4_minding_33 : decode cX4_minding 33 = .ok (.aload_n 0, 1) := by decide +kernel
theorem dX4_minding_34 : decode cX4_minding 34 = .ok (.getfield 9, 3) := by decide +kernel
theorem dX4_minding_37 : decode cX4_minding 37 = .ok (.iload_n 1, 1) := by decide +kernel
theorem dX4_minding_38 : decode cX4_minding 38 = .ok (.iaload, 1) := by decide +kernel
theorem dX4_minding_39 : decode cX4_minding 39 = .ok (.tableswitch 100 1 5 #[33, 35, 39, 100, 62], 33) := by decide +kernel
theorem dX4_minding_72 : decode cX4_minding 72 = .ok (.iload_n 3, 1) := by decide +kernel
theorem dX4_minding_73 : decode cX4_minding 73 = .ok (.ireturn, 1) := by decide +kernel
theorem dX4_minding_74 : decode cX4_minding 74 = .ok (.iconst 2, 1) := by decide +kernel
theorem dX4_minding_75 : decode cX4_minding 75 = .ok (.iload_n 3, 1) := by decide +kernel
theorem dX4_minding_76 : decode cX4_minding 76 = .ok (.imul, 1) := by decide +kernel
theorem dX4_minding_77 : decode cX4_minding 77 = .ok (.ireturn, 1) := by decide +kernel
theorem dX4_minding_78 : decode cX4_minding 78 = .ok (.iload_n 3, 1) := by decide +kernel
theorem dX4_minding_79 : decode cX4_minding 79 = .ok (.aload_n 0, 1) := by decide +kernel
theorem dX4_minding_80 : decode cX4_minding 80 = .ok (.getfield 22, 3) := by decide +kernel
theorem dX4_minding_83 : decode cX4_minding 83 = .ok (.iload_n 1, 1) := by decide +kernel
theorem dX4_minding_84 : decode cX4_minding 84 = .ok (.iaload, 1) := by decide +kernel
theorem dX4_minding_85 : decode cX4_minding 85 = .ok (.if_icmp .le 14, 3) := by decide +kernel
theorem dX4_minding_88 : decode cX4_minding 88 = .ok (.iload_n 3, 1) := by decide +kernel
theorem dX4_minding_89 : decode cX4_minding 89 = .ok (.aload_n 0, 1) := by decide +kernel
theorem dX4_minding_90 : decode cX4_minding 90 = .ok (.getfield 22, 3) := by decide +kernel
theorem dX4_minding_93 : decode cX4_minding 93 = .ok (.iload_n 1, 1) := by decide +kernel
theorem dX4_minding_94 : decode cX4_minding 94 = .ok (.iaload, 1) := by decide +kernel
theorem dX4_minding_95 : decode cX4_minding 95 = .ok (.isub, 1) := by decide +kernel
theorem dX4_minding_96 : decode cX4_minding 96 = .ok (.goto 4, 3) := by decide +kernel
theorem dX4_minding_99 : decode cX4_minding 99 = .ok (.iconst 0, 1) := by decide +kernel
theorem dX4_minding_100 : decode cX4_minding 100 = .ok (.ireturn, 1) := by decide +kernel
theorem dX4_minding_101 : decode cX4_minding 101 = .ok (.aload_n 0, 1) := by decide +kernel
theorem dX4_minding_102 : decode cX4_minding 102 = .ok (.getfield 16, 3) := by decide +kernel
theorem dX4_minding_105 : decode cX4_minding 105 = .ok (.iload_n 1, 1) := by decide +kernel
theorem dX4_minding_106 : decode cX4_minding 106 = .ok (.iaload, 1) := by decide +kernel
theorem dX4_minding_107 : decode cX4_minding 107 = .ok (.aload_n 0, 1) := by decide +kernel
theorem dX4_minding_108 : decode cX4_minding 108 = .ok (.getfield 16, 3) := by decide +kernel
theorem dX4_minding_111 : decode cX4_minding 111 = .ok (.iload_n 2, 1) := by decide +kernel
theorem dX4_minding_112 : decode cX4_minding 112 = .ok (.iaload, 1) := by decide +kernel
theorem dX4_minding_113 : decode cX4_minding 113 = .ok (.if_icmp .ne 6, 3) := by decide +kernel
theorem dX4_minding_116 : decode cX4_minding 116 = .ok (.bipush 9, 2) := by decide +kernel
theorem dX4_minding_118 : decode cX4_minding 118 = .ok (.ireturn, 1) := by decide +kernel
theorem dX4_minding_119 : decode cX4_minding 119 = .ok (.aload_n 0, 1) := by decide +kernel
theorem dX4_minding_120 : decode cX4_minding 120 = .ok (.getfield 19, 3) := by decide +kernel
theorem dX4_minding_123 : decode cX4_minding 123 = .ok (.iload_n 2, 1) := by decide +kernel
theorem dX4_minding_124 : decode cX4_minding 124 = .ok (.iaload, 1) := by decide +kernel
theorem dX4_minding_125 : decode cX4_minding 125 = .ok (.ifCond .le 12, 3) := by decide +kernel
theorem dX4_minding_128 : decode cX4_minding 128 = .ok (.aload_n 0, 1) := by decide +kernel
theorem dX4_minding_129 : decode cX4_minding 129 = .ok (.getfield 22, 3) := by decide +kernel
theorem dX4_minding_132 : decode cX4_minding 132 = .ok (.iload_n 1, 1) := by decide +kernel
theorem dX4_minding_133 : decode cX4_minding 133 = .ok (.iaload, 1) := by decide +kernel
theorem dX4_minding_134 : decode cX4_minding 134 = .ok (.goto 4, 3) := by decide +kernel
theorem dX4_minding_137 : decode cX4_minding 137 = .ok (.iconst 0, 1) := by decide +kernel
theorem dX4_minding_138 : decode cX4_minding 138 = .ok (.ireturn, 1) := by decide +kernel
theorem dX4_minding_139 : decode cX4_minding 139 = .ok (.aload_n 0, 1) := by decide +kernel
theorem dX4_minding_140 : decode cX4_minding 140 = .ok (.getfield 19, 3) := by decide +kernel
theorem dX4_minding_143 : decode cX4_minding 143 = .ok (.iload_n 2, 1) := by decide +kernel
theorem dX4_minding_144 : decode cX4_minding 144 = .ok (.iaload, 1) := by decide +kernel
theorem dX4_minding_145 : decode cX4_minding 145 = .ok (.ifCond .le 12, 3) := by decide +kernel
theorem dX4_minding_148 : decode cX4_minding 148 = .ok (.aload_n 0, 1) := by decide +kernel
theorem dX4_minding_149 : decode cX4_minding 149 = .ok (.getfield 22, 3) := by decide +kernel
theorem dX4_minding_152 : decode cX4_minding 152 = .ok (.iload_n 1, 1) := by decide +kernel
theorem dX4_minding_153 : decode cX4_minding 153 = .ok (.iaload, 1) := by decide +kernel
theorem dX4_minding_154 : decode cX4_minding 154 = .ok (.goto 4, 3) := by decide +kernel
theorem dX4_minding_157 : decode cX4_minding 157 = .ok (.iconst 0, 1) := by decide +kernel
theorem dX4_minding_158 : decode cX4_minding 158 = .ok (.ireturn, 1) := by decide +kernel
theorem dX4_envy_0 : decode cX4_envy 0 = .ok (.iconst 0, 1) := by decide +kernel
theorem dX4_envy_1 : decode cX4_envy 1 = .ok (.istore_n 2, 1) := by decide +kernel
theorem dX4_envy_2 : decode cX4_envy 2 = .ok (.iload_n 1, 1) := by decide +kernel
theorem dX4_envy_3 : decode cX4_envy 3 = .ok (.aload_n 0, 1) := by decide +kernel
theorem dX4_envy_4 : decode cX4_envy 4 = .ok (.getfield 25, 3) := by decide +kernel
theorem dX4_envy_7 : decode cX4_envy 7 = .ok (.if_icmp .ne 5, 3) := by decide +kernel
theorem dX4_envy_10 : decode cX4_envy 10 = .ok (.iload_n 2, 1) := by decide +kernel
theorem dX4_envy_11 : decode cX4_envy 11 = .ok (.ireturn, 1) := by decide +kernel
theorem dX4_envy_12 : decode cX4_envy 12 = .ok (.iconst 0, 1) := by decide +kernel
theorem dX4_envy_13 : decode cX4_envy 13 = .ok (.istore_n 3, 1) := by decide +kernel
theorem dX4_envy_14 : decode cX4_envy 14 = .ok (.iload_n 3, 1) := by decide +kernel
theorem dX4_envy_15 : decode cX4_envy 15 = .ok (.aload_n 0, 1) := by decide +kernel
theorem dX4_envy_16 : decode cX4_envy 16 = .ok (.getfield 32, 3) := by decide +kernel
theorem dX4_envy_19 : decode cX4_envy 19 = .ok (.if_icmp .ge 46, 3) := by decide +kernel
theorem dX4_envy_22 : decode cX4_envy 22 = .ok (.iload_n 3, 1) := by decide +kernel
theorem dX4_envy_23 : decode cX4_envy 23 = .ok (.iload_n 1, 1) := by decide +kernel
theorem dX4_envy_24 : decode cX4_envy 24 = .ok (.if_icmp .eq 35, 3) := by decide +kernel
theorem dX4_envy_27 : decode cX4_envy 27 = .ok (.iload_n 3, 1) := by decide +kernel
theorem dX4_envy_28 : decode cX4_envy 28 = .ok (.aload_n 0, 1) := by decide +kernel
theorem dX4_envy_29 : decode cX4_envy 29 = .ok (.getfield 25, 3) := by decide +kernel
theorem dX4_envy_32 : decode cX4_envy 32 = .ok (.if_icmp .eq 27, 3) := by decide +kernel
theorem dX4_envy_35 : decode cX4_envy 35 = .ok (.aload_n 0, 1) := by decide +kernel
theorem dX4_envy_36 : decode cX4_envy 36 = .ok (.getfield 13, 3) := by decide +kernel
theorem dX4_envy_39 : decode cX4_envy 39 = .ok (.iload_n 3, 1) := by decide +kernel
theorem dX4_envy_40 : decode cX4_envy 40 = .ok (.iaload, 1) := by decide +kernel
theorem dX4_envy_41 : decode cX4_envy 41 = .ok (.aload_n 0, 1) := by decide +kernel
theorem dX4_envy_42 : decode cX4_envy 42 = .ok (.getfield 13, 3) := by decide +kernel
theorem dX4_envy_45 : decode cX4_envy 45 = .ok (.iload_n 1, 1) := by decide +kernel
theorem dX4_envy_46 : decode cX4_envy 46 = .ok (.iaload, 1) := by decide +kernel
theorem dX4_envy_47 : decode cX4_envy 47 = .ok (.if_icmp .ne 12, 3) := by decide +kernel
theorem dX4_envy_50 : decode cX4_envy 50 = .ok (.iload_n 2, 1) := by decide +kernel
theorem dX4_envy_51 : decode cX4_envy 51 = .ok (.aload_n 0, 1) := by decide +kernel
theorem dX4_envy_52 : decode cX4_envy 52 = .ok (.iload_n 3, 1) := by decide +kernel
theorem dX4_envy_53 : decode cX4_envy 53 = .ok (.iload_n 1, 1) := by decide +kernel
theorem dX4_envy_54 : decode cX4_envy 54 = .ok (.invokevirtual 57, 3) := by decide +kernel
theorem dX4_envy_57 : decode cX4_envy 57 = .ok (.iadd, 1) := by decide +kernel
theorem dX4_envy_58 : decode cX4_envy 58 = .ok (.istore_n 2, 1) := by decide +kernel
theorem dX4_envy_59 : decode cX4_envy 59 = .ok (.iinc 3 1, 3) := by decide +kernel
theorem dX4_envy_62 : decode cX4_envy 62 = .ok (.goto (-48), 3) := by decide +kernel
theorem dX4_envy_65 : decode cX4_envy 65 = .ok (.iload_n 2, 1) := by decide +kernel
theorem dX4_envy_66 : decode cX4_envy 66 = .ok (.ireturn, 1) := by decide +kernel
theorem dX4_goal_0 : decode cX4_goal 0 = .ok (.aload_n 0, 1) := by decide +kernel
theorem dX4_goal_1 : decode cX4_goal 1 = .ok (.getfield 29, 3) := by decide +kernel
theorem dX4_goal_4 : decode cX4_goal 4 = .ok (.bipush (-2), 2) := by decide +kernel
theorem dX4_goal_6 : decode cX4_goal 6 = .ok (.if_icmp .eq 8, 3) := by decide +kernel
theorem dX4_goal_9 : decode cX4_goal 9 = .ok (.aload_n 0, 1) := by decide +kernel
theorem dX4_goal_10 : decode cX4_goal 10 = .ok (.getfield 29, 3) := by decide +kernel
theorem dX4_goal_13 : decode cX4_goal 13 = .ok (.ireturn, 1) := by decide +kernel
theorem dX4_goal_14 : decode cX4_goal 14 = .ok (.iconst 0, 1) := by decide +kernel
theorem dX4_goal_15 : decode cX4_goal 15 = .ok (.istore_n 1, 1) := by decide +kernel
theorem dX4_goal_16 : decode cX4_goal 16 = .ok (.aload_n 0, 1) := by decide +kernel
theorem dX4_goal_17 : decode cX4_goal 17 = .ok (.iconst (-1), 1) := by decide +kernel
theorem dX4_goal_18 : decode cX4_goal 18 = .ok (.putfield 29, 3) := by decide +kernel
theorem dX4_goal_21 : decode cX4_goal 21 = .ok (.iconst 0, 1) := by decide +kernel
theorem dX4_goal_22 : decode cX4_goal 22 = .ok (.istore_n 2, 1) := by decide +kernel
theorem dX4_goal_23 : decode cX4_goal 23 = .ok (.iload_n 2, 1) := by decide +kernel
theorem dX4_goal_24 : decode cX4_goal 24 = .ok (.aload_n 0, 1) := by decide +kernel
theorem dX4_goal_25 : decode cX4_goal 25 = .ok (.getfield 32, 3) := by decide +kernel
theorem dX4_goal_28 : decode cX4_goal 28 = .ok (.if_icmp .ge 39, 3) := by decide +kernel
theorem dX4_goal_31 : decode cX4_goal 31 = .ok (.aload_n 0, 1) := by decide +kernel
theorem dX4_goal_32 : decode cX4_goal 32 = .ok (.iload_n 2, 1) := by decide +kernel
theorem dX4_goal_33 : decode cX4_goal 33 = .ok (.invokevirtual 61, 3) := by decide +kernel
theorem dX4_goal_36 : decode cX4_goal 36 = .ok (.ifCond .eq 7, 3) := by decide +kernel
theorem dX4_goal_39 : decode cX4_goal 39 = .ok (.iconst 0, 1) := by decide +kernel
theorem dX4_goal_40 : decode cX4_goal 40 = .ok (.goto 8, 3) := by decide +kernel
theorem dX4_goal_43 : decode cX4_goal 43 = .ok (.aload_n 0, 1) := by decide +kernel
theorem dX4_goal_44 : decode cX4_goal 44 = .ok (.iload_n 2, 1) := by decide +kernel
theorem dX4_goal_45 : decode cX4_goal 45 = .ok (.invokevirtual 65, 3) := by decide +kernel
theorem dX4_goal_48 : decode cX4_goal 48 = .ok (.istore_n 3, 1) := by decide +kernel
theorem dX4_goal_49 : decode cX4_goal 49 = .ok (.iload_n 3, 1) := by decide +kernel
theorem dX4_goal_50 : decode cX4_goal 50 = .ok (.iload_n 1, 1) := by decide +kernel
theorem dX4_goal_51 : decode cX4_goal 51 = .ok (.if_icmp .le 10, 3) := by decide +kernel
theorem dX4_goal_54 : decode cX4_goal 54 = .ok (.aload_n 0, 1) := by decide +kernel
theorem dX4_goal_55 : decode cX4_goal 55 = .ok (.iload_n 2, 1) := by decide +kernel
theorem dX4_goal_56 : decode cX4_goal 56 = .ok (.putfield 29, 3) := by decide +kernel
theorem dX4_goal_59 : decode cX4_goal 59 = .ok (.iload_n 3, 1) := by decide +kernel
theorem dX4_goal_60 : decode cX4_goal 60 = .ok (.istore_n 1, 1) := by decide +kernel
theorem dX4_goal_61 : decode cX4_goal 61 = .ok (.iinc 2 1, 3) := by decide +kernel
theorem dX4_goal_64 : decode cX4_goal 64 = .ok (.goto (-41), 3) := by decide +kernel
theorem dX4_goal_67 : decode cX4_goal 67 = .ok (.aload_n 0, 1) := by decide +kernel
theorem dX4_goal_68 : decode cX4_goal 68 = .ok (.getfield 29, 3) := by decide +kernel
theorem dX4_goal_71 : decode cX4_goal 71 = .ok (.ireturn, 1) := by decide +kernel
theorem dX4_advance_0 : decode cX4_advance 0 = .ok (.aload_n 0, 1) := by decide +kernel
theorem dX4_advance_1 : decode cX4_advance 1 = .ok (.dup, 1) := by decide +kernel
theorem dX4_advance_2 : decode cX4_advance 2 = .ok (.getfield 44, 3) := by decide +kernel
theorem dX4_advance_5 : decode cX4_advance 5 = .ok (.iconst 1, 1) := by decide +kernel
theorem dX4_advance_6 : decode cX4_advance 6 = .ok (.iadd, 1) := by decide +kernel
theorem dX4_advance_7 : decode cX4_advance 7 = .ok (.putfield 44, 3) := by decide +kernel
theorem dX4_advance_10 : decode cX4_advance 10 = .ok (.aload_n 0, 1) := by decide +kernel
theorem dX4_advance_11 : decode cX4_advance 11 = .ok (.getfield 25, 3) := by decide +kernel
theorem dX4_advance_14 : decode cX4_advance 14 = .ok (.iconst (-1), 1) := by decide +kernel
theorem dX4_advance_15 : decode cX4_advance 15 = .ok (.if_icmp .eq 8, 3) := by decide +kernel
theorem dX4_advance_18 : decode cX4_advance 18 = .ok (.aload_n 0, 1) := by decide +kernel
theorem dX4_advance_19 : decode cX4_advance 19 = .ok (.invokevirtual 69, 3) := by decide +kernel
theorem dX4_advance_22 : decode cX4_advance 22 = .ok (.return_, 1) := by decide +kernel
theorem dX4_advance_23 : decode cX4_advance 23 = .ok (.aload_n 0, 1) := by decide +kernel
theorem dX4_advance_24 : decode cX4_advance 24 = .ok (.invokevirtual 72, 3) := by decide +kernel
theorem dX4_advance_27 : decode cX4_advance 27 = .ok (.istore_n 1, 1) := by decide +kernel
theorem dX4_advance_28 : decode cX4_advance 28 = .ok (.iload_n 1, 1) := by decide +kernel
theorem dX4_advance_29 : decode cX4_advance 29 = .ok (.iconst (-1), 1) := by decide +kernel
theorem dX4_advance_30 : decode cX4_advance 30 = .ok (.if_icmp .ne 4, 3) := by decide +kernel
theorem dX4_advance_33 : decode cX4_advance 33 = .ok (.return_, 1) := by decide +kernel
theorem dX4_advance_34 : decode cX4_advance 34 = .ok (.aload_n 0, 1) := by decide +kernel
theorem dX4_advance_35 : decode cX4_advance 35 = .ok (.getfield 38, 3) := by decide +kernel
theorem dX4_advance_38 : decode cX4_advance 38 = .ok (.aload_n 0, 1) := by decide +kernel
theorem dX4_advance_39 : decode cX4_advance 39 = .ok (.getfield 13, 3) := by decide +kernel
theorem dX4_advance_42 : decode cX4_advance 42 = .ok (.iload_n 1, 1) := by decide +kernel
theorem dX4_advance_43 : decode cX4_advance 43 = .ok (.iaload, 1) := by decide +kernel
theorem dX4_advance_44 : decode cX4_advance 44 = .ok (.if_icmp .eq 26, 3) := by decide +kernel
theorem dX4_advance_47 : decode cX4_advance 47 = .ok (.aload_n 0, 1) := by decide +kernel
theorem dX4_advance_48 : decode cX4_advance 48 = .ok (.dup, 1) := by decide +kernel
theorem dX4_advance_49 : decode cX4_advance 49 = .ok (.getfield 38, 3) := by decide +kernel
theorem dX4_advance_52 : decode cX4_advance 52 = .ok (.aload_n 0, 1) := by decide +kernel
theorem dX4_advance_53 : decode cX4_advance 53 = .ok (.getfield 13, 3) := by decide +kernel
theorem dX4_advance_56 : decode cX4_advance 56 = .ok (.iload_n 1, 1) := by decide +kernel
theorem dX4_advance_57 : decode cX4_advance 57 = .ok (.iaload, 1) := by decide +kernel
theorem dX4_advance_58 : decode cX4_advance 58 = .ok (.aload_n 0, 1) := by decide +kernel
theorem dX4_advance_59 : decode cX4_advance 59 = .ok (.getfield 38, 3) := by decide +kernel
theorem dX4_advance_62 : decode cX4_advance 62 = .ok (.invokestatic 75, 3) := by decide +kernel
theorem dX4_advance_65 : decode cX4_advance 65 = .ok (.iadd, 1) := by decide +kernel
theorem dX4_advance_66 : decode cX4_advance 66 = .ok (.putfield 38, 3) := by decide +kernel
theorem dX4_advance_69 : decode cX4_advance 69 = .ok (.return_, 1) := by decide +kernel
theorem dX4_advance_70 : decode cX4_advance 70 = .ok (.aload_n 0, 1) := by decide +kernel
theorem dX4_advance_71 : decode cX4_advance 71 = .ok (.iload_n 1, 1) := by decide +kernel
theorem dX4_advance_72 : decode cX4_advance 72 = .ok (.putfield 25, 3) := by decide +kernel
theorem dX4_advance_75 : decode cX4_advance 75 = .ok (.return_, 1) := by decide +kernel
theorem dX4_carry_0 : decode cX4_carry 0 = .ok (.aload_n 0, 1) := by decide +kernel
theorem dX4_carry_1 : decode cX4_carry 1 = .ok (.getfield 38, 3) := by decide +kernel
theorem dX4_carry_4 : decode cX4_carry 4 = .ok (.aload_n 0, 1) := by decide +kernel
theorem dX4_carry_5 : decode cX4_carry 5 = .ok (.getfield 16, 3) := by decide +kernel
theorem dX4_carry_8 : decode cX4_carry 8 = .ok (.aload_n 0, 1) := by decide +kernel
theorem dX4_carry_9 : decode cX4_carry 9 = .ok (.getfield 25, 3) := by decide +kernel
theorem dX4_carry_12 : decode cX4_carry 12 = .ok (.iaload, 1) := by decide +kernel
theorem dX4_carry_13 : decode cX4_carry 13 = .ok (.if_icmp .eq 42, 3) := by decide +kernel
theorem dX4_carry_16 : decode cX4_carry 16 = .ok (.aload_n 0, 1) := by decide +kernel
theorem dX4_carry_17 : decode cX4_carry 17 = .ok (.dup, 1) := by decide +kernel
theorem dX4_carry_18 : decode cX4_carry 18 = .ok (.getfield 38, 3) := by decide +kernel
theorem dX4_carry_21 : decode cX4_carry 21 = .ok (.aload_n 0, 1) := by decide +kernel
theorem dX4_carry_22 : decode cX4_carry 22 = .ok (.getfield 16, 3) := by decide +kernel
theorem dX4_carry_25 : decode cX4_carry 25 = .ok (.aload_n 0, 1) := by decide +kernel
theorem dX4_carry_26 : decode cX4_carry 26 = .ok (.getfield 25, 3) := by decide +kernel
theorem dX4_carry_29 : decode cX4_carry 29 = .ok (.iaload, 1) := by decide +kernel
theorem dX4_carry_30 : decode cX4_carry 30 = .ok (.aload_n 0, 1) := by decide +kernel
theorem dX4_carry_31 : decode cX4_carry 31 = .ok (.getfield 38, 3) := by decide +kernel
theorem dX4_carry_34 : decode cX4_carry 34 = .ok (.invokestatic 75, 3) := by decide +kernel
theorem dX4_carry_37 : decode cX4_carry 37 = .ok (.iadd, 1) := by decide +kernel
theorem dX4_carry_38 : decode cX4_carry 38 = .ok (.putfield 38, 3) := by decide +kernel
theorem dX4_carry_41 : decode cX4_carry 41 = .ok (.aload_n 0, 1) := by decide +kernel
theorem dX4_carry_42 : decode cX4_carry 42 = .ok (.getfield 13, 3) := by decide +kernel
theorem dX4_carry_45 : decode cX4_carry 45 = .ok (.aload_n 0, 1) := by decide +kernel
theorem dX4_carry_46 : decode cX4_carry 46 = .ok (.getfield 25, 3) := by decide +kernel
theorem dX4_carry_49 : decode cX4_carry 49 = .ok (.aload_n 0, 1) := by decide +kernel
theorem dX4_carry_50 : decode cX4_carry 50 = .ok (.getfield 38, 3) := by decide +kernel
theorem dX4_carry_53 : decode cX4_carry 53 = .ok (.iastore, 1) := by decide +kernel
theorem dX4_carry_54 : decode cX4_carry 54 = .ok (.return_, 1) := by decide +kernel
theorem dX4_carry_55 : decode cX4_carry 55 = .ok (.aload_n 0, 1) := by decide +kernel
theorem dX4_carry_56 : decode cX4_carry 56 = .ok (.dup, 1) := by decide +kernel
theorem dX4_carry_57 : decode cX4_carry 57 = .ok (.getfield 41, 3) := by decide +kernel
theorem dX4_carry_60 : decode cX4_carry 60 = .ok (.iconst 1, 1) := by decide +kernel
theorem dX4_carry_61 : decode cX4_carry 61 = .ok (.aload_n 0, 1) := by decide +kernel
theorem dX4_carry_62 : decode cX4_carry 62 = .ok (.getfield 25, 3) := by decide +kernel
theorem dX4_carry_65 : decode cX4_carry 65 = .ok (.ishl, 1) := by decide +kernel
theorem dX4_carry_66 : decode cX4_carry 66 = .ok (.ior, 1) := by decide +kernel
theorem dX4_carry_67 : decode cX4_carry 67 = .ok (.putfield 41, 3) := by decide +kernel
theorem dX4_carry_70 : decode cX4_carry 70 = .ok (.aload_n 0, 1) := by decide +kernel
theorem dX4_carry_71 : decode cX4_carry 71 = .ok (.iconst (-1), 1) := by decide +kernel
theorem dX4_carry_72 : decode cX4_carry 72 = .ok (.putfield 25, 3) := by decide +kernel
theorem dX4_carry_75 : decode cX4_carry 75 = .ok (.aload_n 0, 1) := by decide +kernel
theorem dX4_carry_76 : decode cX4_carry 76 = .ok (.bipush (-2), 2) := by decide +kernel
theorem dX4_carry_78 : decode cX4_carry 78 = .ok (.putfield 29, 3) := by decide +kernel
theorem dX4_carry_81 : decode cX4_carry 81 = .ok (.return_, 1) := by decide +kernel
theorem dX4_rests_0 : decode cX4_rests 0 = .ok (.aload_n 0, 1) := by decide +kernel
theorem dX4_rests_1 : decode cX4_rests 1 = .ok (.getfield 25, 3) := by decide +kernel
theorem dX4_rests_4 : decode cX4_rests 4 = .ok (.iconst (-1), 1) := by decide +kernel
theorem dX4_rests_5 : decode cX4_rests 5 = .ok (.if_icmp .ne 15, 3) := by decide +kernel
theorem dX4_rests_8 : decode cX4_rests 8 = .ok (.aload_n 0, 1) := by decide +kernel
theorem dX4_rests_9 : decode cX4_rests 9 = .ok (.invokevirtual 72, 3) := by decide +kernel
theorem dX4_rests_12 : decode cX4_rests 12 = .ok (.iconst (-1), 1) := by decide +kernel
theorem dX4_rests_13 : decode cX4_rests 13 = .ok (.if_icmp .ne 7, 3) := by decide +kernel
theorem dX4_rests_16 : decode cX4_rests 16 = .ok (.iconst 1, 1) := by decide +kernel
theorem dX4_rests_17 : decode cX4_rests 17 = .ok (.goto 4, 3) := by decide +kernel
theorem dX4_rests_20 : decode cX4_rests 20 = .ok (.iconst 0, 1) := by decide +kernel
theorem dX4_rests_21 : decode cX4_rests 21 = .ok (.ireturn, 1) := by decide +kernel
theorem dX4_lastWithin_0 : decode cX4_lastWithin 0 = .ok (.iconst 0, 1) := by decide +kernel
theorem dX4_lastWithin_1 : decode cX4_lastWithin 1 = .ok (.istore_n 2, 1) := by decide +kernel
theorem dX4_lastWithin_2 : decode cX4_lastWithin 2 = .ok (.iconst 1, 1) := by decide +kernel
theorem dX4_lastWithin_3 : decode cX4_lastWithin 3 = .ok (.istore_n 3, 1) := by decide +kernel
theorem dX4_lastWithin_4 : decode cX4_lastWithin 4 = .ok (.iload_n 3, 1) := by decide +kernel
theorem dX4_lastWithin_5 : decode cX4_lastWithin 5 = .ok (.iload_n 1, 1) := by decide +kernel
theorem dX4_lastWithin_6 : decode cX4_lastWithin 6 = .ok (.if_icmp .gt 41, 3) := by decide +kernel
theorem dX4_lastWithin_9 : decode cX4_lastWithin 9 = .ok (.aload_n 0, 1) := by decide +kernel
theorem dX4_lastWithin_10 : decode cX4_lastWithin 10 = .ok (.invokevirtual 80, 3) := by decide +kernel
theorem dX4_lastWithin_13 : decode cX4_lastWithin 13 = .ok (.ifCond .ne 34, 3) := by decide +kernel
theorem dX4_lastWithin_16 : decode cX4_lastWithin 16 = .ok (.aload_n 0, 1) := by decide +kernel
theorem dX4_lastWithin_17 : decode cX4_lastWithin 17 = .ok (.getfield 41, 3) := by decide +kernel
theorem dX4_lastWithin_20 : decode cX4_lastWithin 20 = .ok (.istore 4, 2) := by decide +kernel
theorem dX4_lastWithin_22 : decode cX4_lastWithin 22 = .ok (.aload_n 0, 1) := by decide +kernel
theorem dX4_lastWithin_23 : decode cX4_lastWithin 23 = .ok (.invokevirtual 84, 3) := by decide +kernel
theorem dX4_lastWithin_26 : decode cX4_lastWithin 26 = .ok (.aload_n 0, 1) := by decide +kernel
theorem dX4_lastWithin_27 : decode cX4_lastWithin 27 = .ok (.getfield 41, 3) := by decide +kernel
theorem dX4_lastWithin_30 : decode cX4_lastWithin 30 = .ok (.iload 4, 2) := by decide +kernel
theorem dX4_lastWithin_32 : decode cX4_lastWithin 32 = .ok (.if_icmp .eq 7, 3) := by decide +kernel
theorem dX4_lastWithin_35 : decode cX4_lastWithin 35 = .ok (.iload_n 3, 1) := by decide +kernel
theorem dX4_lastWithin_36 : decode cX4_lastWithin 36 = .ok (.goto 4, 3) := by decide +kernel
theorem dX4_lastWithin_39 : decode cX4_lastWithin 39 = .ok (.iload_n 2, 1) := by decide +kernel
theorem dX4_lastWithin_40 : decode cX4_lastWithin 40 = .ok (.istore_n 2, 1) := by decide +kernel
theorem dX4_lastWithin_41 : decode cX4_lastWithin 41 = .ok (.iinc 3 1, 3) := by decide +kernel
theorem dX4_lastWithin_44 : decode cX4_lastWithin 44 = .ok (.goto (-40), 3) := by decide +kernel
theorem dX4_lastWithin_47 : decode cX4_lastWithin 47 = .ok (.iload_n 2, 1) := by decide +kernel
theorem dX4_lastWithin_48 : decode cX4_lastWithin 48 = .ok (.ireturn, 1) := by decide +kernel
theorem dX4_until_0 : decode cX4_until 0 = .ok (.iconst 0, 1) := by decide +kernel
theorem dX4_until_1 : decode cX4_until 1 = .ok (.istore_n 3, 1) := by decide +kernel
theorem dX4_until_2 : decode cX4_until 2 = .ok (.iload_n 3, 1) := by decide +kernel
theorem dX4_until_3 : decode cX4_until 3 = .ok (.iload_n 2, 1) := by decide +kernel
theorem dX4_until_4 : decode cX4_until 4 = .ok (.if_icmp .ge 40, 3) := by decide +kernel
theorem dX4_until_7 : decode cX4_until 7 = .ok (.aload_n 0, 1) := by decide +kernel
theorem dX4_until_8 : decode cX4_until 8 = .ok (.iload_n 1, 1) := by decide +kernel
theorem dX4_until_9 : decode cX4_until 9 = .ok (.invokevirtual 61, 3) := by decide +kernel
theorem dX4_until_12 : decode cX4_until 12 = .ok (.ifCond .ne 32, 3) := by decide +kernel
theorem dX4_until_15 : decode cX4_until 15 = .ok (.aload_n 0, 1) := by decide +kernel
theorem dX4_until_16 : decode cX4_until 16 = .ok (.invokevirtual 80, 3) := by decide +kernel
theorem dX4_until_19 : decode cX4_until 19 = .ok (.ifCond .ne 25, 3) := by decide +kernel
theorem dX4_until_22 : decode cX4_until 22 = .ok (.aload_n 0, 1) := by decide +kernel
theorem dX4_until_23 : decode cX4_until 23 = .ok (.invokevirtual 84, 3) := by decide +kernel
theorem dX4_until_26 : decode cX4_until 26 = .ok (.aload_n 0, 1) := by decide +kernel
theorem dX4_until_27 : decode cX4_until 27 = .ok (.iload_n 1, 1) := by decide +kernel
theorem dX4_until_28 : decode cX4_until 28 = .ok (.invokevirtual 61, 3) := by decide +kernel
theorem dX4_until_31 : decode cX4_until 31 = .ok (.ifCond .eq 7, 3) := by decide +kernel
theorem dX4_until_34 : decode cX4_until 34 = .ok (.iload_n 3, 1) := by decide +kernel
theorem dX4_until_35 : decode cX4_until 35 = .ok (.iconst 1, 1) := by decide +kernel
theorem dX4_until_36 : decode cX4_until 36 = .ok (.iadd, 1) := by decide +kernel
theorem dX4_until_37 : decode cX4_until 37 = .ok (.ireturn, 1) := by decide +kernel
theorem dX4_until_38 : decode cX4_until 38 = .ok (.iinc 3 1, 3) := by decide +kernel
theorem dX4_until_41 : decode cX4_until 41 = .ok (.goto (-39), 3) := by decide +kernel
theorem dX4_until_44 : decode cX4_until 44 = .ok (.aload_n 0, 1) := by decide +kernel
theorem dX4_until_45 : decode cX4_until 45 = .ok (.iload_n 1, 1) := by decide +kernel
theorem dX4_until_46 : decode cX4_until 46 = .ok (.invokevirtual 61, 3) := by decide +kernel
theorem dX4_until_49 : decode cX4_until 49 = .ok (.ifCond .eq 7, 3) := by decide +kernel
theorem dX4_until_52 : decode cX4_until 52 = .ok (.iconst 0, 1) := by decide +kernel
theorem dX4_until_53 : decode cX4_until 53 = .ok (.goto 4, 3) := by decide +kernel
theorem dX4_until_56 : decode cX4_until 56 = .ok (.iconst (-1), 1) := by decide +kernel
theorem dX4_until_57 : decode cX4_until 57 = .ok (.ireturn, 1) := by decide +kernel
theorem dX4_goesAs_0 : decode cX4_goesAs 0 = .ok (.iload_n 2, 1) := by decide +kernel
theorem dX4_goesAs_1 : decode cX4_goesAs 1 = .ok (.istore 4, 2) := by decide +kernel
theorem dX4_goesAs_3 : decode cX4_goesAs 3 = .ok (.iload 4, 2) := by decide +kernel
theorem dX4_goesAs_5 : decode cX4_goesAs 5 = .ok (.iload_n 2, 1) := by decide +kernel
theorem dX4_goesAs_6 : decode cX4_goesAs 6 = .ok (.iload_n 3, 1) := by decide +kernel
theorem dX4_goesAs_7 : decode cX4_goesAs 7 = .ok (.iadd, 1) := by decide +kernel
theorem dX4_goesAs_8 : decode cX4_goesAs 8 = .ok (.if_icmp .ge 33, 3) := by decide +kernel
theorem dX4_goesAs_11 : decode cX4_goesAs 11 = .ok (.iload 4, 2) := by decide +kernel
theorem dX4_goesAs_13 : decode cX4_goesAs 13 = .ok (.aload_n 1, 1) := by decide +kernel
theorem dX4_goesAs_14 : decode cX4_goesAs 14 = .ok (.arraylength, 1) := by decide +kernel
theorem dX4_goesAs_15 : decode cX4_goesAs 15 = .ok (.if_icmp .ge 26, 3) := by decide +kernel
theorem dX4_goesAs_18 : decode cX4_goesAs 18 = .ok (.aload_n 0, 1) := by decide +kernel
theorem dX4_goesAs_19 : decode cX4_goesAs 19 = .ok (.invokevirtual 84, 3) := by decide +kernel
theorem dX4_goesAs_22 : decode cX4_goesAs 22 = .ok (.aload_n 0, 1) := by decide +kernel
theorem dX4_goesAs_23 : decode cX4_goesAs 23 = .ok (.getfield 38, 3) := by decide +kernel
theorem dX4_goesAs_26 : decode cX4_goesAs 26 = .ok (.aload_n 1, 1) := by decide +kernel
theorem dX4_goesAs_27 : decode cX4_goesAs 27 = .ok (.iload 4, 2) := by decide +kernel
theorem dX4_goesAs_29 : decode cX4_goesAs 29 = .ok (.iaload, 1) := by decide +kernel
theorem dX4_goesAs_30 : decode cX4_goesAs 30 = .ok (.if_icmp .eq 5, 3) := by decide +kernel
theorem dX4_goesAs_33 : decode cX4_goesAs 33 = .ok (.iconst 0, 1) := by decide +kernel
theorem dX4_goesAs_34 : decode cX4_goesAs 34 = .ok (.ireturn, 1) := by decide +kernel
theorem dX4_goesAs_35 : decode cX4_goesAs 35 = .ok (.iinc 4 1, 3) := by decide +kernel
theorem dX4_goesAs_38 : decode cX4_goesAs 38 = .ok (.goto (-35), 3) := by decide +kernel
theorem dX4_goesAs_41 : decode cX4_goesAs 41 = .ok (.iconst 1, 1) := by decide +kernel
theorem dX4_goesAs_42 : decode cX4_goesAs 42 = .ok (.ireturn, 1) := by decide +kernel
theorem dX4_stray_0 : decode cX4_stray 0 = .ok (.aload_n 0, 1) := by decide +kernel
theorem dX4_stray_1 : decode cX4_stray 1 = .ok (.getfield 32, 3) := by decide +kernel
theorem dX4_stray_4 : decode cX4_stray 4 = .ok (.ifCond .ne 4, 3) := by decide +kernel
theorem dX4_stray_7 : decode cX4_stray 7 = .ok (.return_, 1) := by decide +kernel
theorem dX4_stray_8 : decode cX4_stray 8 = .ok (.lload_n 1, 1) := by decide +kernel
theorem dX4_stray_9 : decode cX4_stray 9 = .ok (.aload_n 0, 1) := by decide +kernel
theorem dX4_stray_10 : decode cX4_stray 10 = .ok (.getfield 32, 3) := by decide +kernel
theorem dX4_stray_13 : decode cX4_stray 13 = .ok (.i2l, 1) := by decide +kernel
theorem dX4_stray_14 : decode cX4_stray 14 = .ok (.lrem, 1) := by decide +kernel
theorem dX4_stray_15 : decode cX4_stray 15 = .ok (.l2i, 1) := by decide +kernel
theorem dX4_stray_16 : decode cX4_stray 16 = .ok (.istore_n 3, 1) := by decide +kernel
theorem dX4_stray_17 : decode cX4_stray 17 = .ok (.aload_n 0, 1) := by decide +kernel
theorem dX4_stray_18 : decode cX4_stray 18 = .ok (.getfield 13, 3) := by decide +kernel
theorem dX4_stray_21 : decode cX4_stray 21 = .ok (.iload_n 3, 1) := by decide +kernel
theorem dX4_stray_22 : decode cX4_stray 22 = .ok (.iaload, 1) := by decide +kernel
theorem dX4_stray_23 : decode cX4_stray 23 = .ok (.istore 4, 2) := by decide +kernel
theorem dX4_stray_25 : decode cX4_stray 25 = .ok (.lload_n 1, 1) := by decide +kernel
theorem dX4_stray_26 : decode cX4_stray 26 = .ok (.ldc2_w 87, 3) := by decide +kernel
theorem dX4_stray_29 : decode cX4_stray 29 = .ok (.lrem, 1) := by decide +kernel
theorem dX4_stray_30 : decode cX4_stray 30 = .ok (.lconst 0, 1) := by decide +kernel
theorem dX4_stray_31 : decode cX4_stray 31 = .ok (.lcmp, 1) := by decide +kernel
theorem dX4_stray_32 : decode cX4_stray 32 = .ok (.ifCond .ne 9, 3) := by decide +kernel
theorem dX4_stray_35 : decode cX4_stray 35 = .ok (.iinc 4 1, 3) := by decide +kernel
theorem dX4_stray_38 : decode cX4_stray 38 = .ok (.goto 16, 3) := by decide +kernel
theorem dX4_stray_41 : decode cX4_stray 41 = .ok (.lload_n 1, 1) := by decide +kernel
theorem dX4_stray_42 : decode cX4_stray 42 = .ok (.ldc2_w 87, 3) := by decide +kernel
theorem dX4_stray_45 : decode cX4_stray 45 = .ok (.lrem, 1) := by decide +kernel
theorem dX4_stray_46 : decode cX4_stray 46 = .ok (.lconst 1, 1) := by decide +kernel
theorem dX4_stray_47 : decode cX4_stray 47 = .ok (.lcmp, 1) := by decide +kernel
theorem dX4_stray_48 : decode cX4_stray 48 = .ok (.ifCond .ne 6, 3) := by decide +kernel
theorem dX4_stray_51 : decode cX4_stray 51 = .ok (.iinc 4 (-1), 3) := by decide +kernel
theorem dX4_stray_54 : decode cX4_stray 54 = .ok (.iload_n 3, 1) := by decide +kernel
theorem dX4_stray_55 : decode cX4_stray 55 = .ok (.aload_n 0, 1) := by decide +kernel
theorem dX4_stray_56 : decode cX4_stray 56 = .ok (.getfield 25, 3) := by decide +kernel
theorem dX4_stray_59 : decode cX4_stray 59 = .ok (.if_icmp .eq 25, 3) := by decide +kernel
theorem dX4_stray_62 : decode cX4_stray 62 = .ok (.iload 4, 2) := by decide +kernel
theorem dX4_stray_64 : decode cX4_stray 64 = .ok (.ifCond .lt 20, 3) := by decide +kernel
theorem dX4_stray_67 : decode cX4_stray 67 = .ok (.iload 4, 2) := by decide +kernel
theorem dX4_stray_69 : decode cX4_stray 69 = .ok (.aload_n 0, 1) := by decide +kernel
theorem dX4_stray_70 : decode cX4_stray 70 = .ok (.getfield 35, 3) := by decide +kernel
theorem dX4_stray_73 : decode cX4_stray 73 = .ok (.if_icmp .gt 11, 3) := by decide +kernel
theorem dX4_stray_76 : decode cX4_stray 76 = .ok (.aload_n 0, 1) := by decide +kernel
theorem dX4_stray_77 : decode cX4_stray 77 = .ok (.iconst 1, 1) := by decide +kernel
theorem dX4_stray_78 : decode cX4_stray 78 = .ok (.iload_n 3, 1) := by decide +kernel
theorem dX4_stray_79 : decode cX4_stray 79 = .ok (.iload 4, 2) := by decide +kernel
theorem dX4_stray_81 : decode cX4_stray 81 = .ok (.invokevirtual 53, 3) := by decide +kernel
theorem dX4_stray_84 : decode cX4_stray 84 = .ok (.return_, 1) := by decide +kernel
theorem dX5_init_0 : decode cX5_init 0 = .ok (.aload_n 0, 1) := by decide +kernel
theorem dX5_init_1 : decode cX5_init 1 = .ok (.invokespecial 1, 3) := by decide +kernel
theorem dX5_init_4 : decode cX5_init 4 = .ok (.return_, 1) := by decide +kernel
theorem dX5_mark_0 : decode cX5_mark 0 = .ok (.aload_n 3, 1) := by decide +kernel
theorem dX5_mark_1 : decode cX5_mark 1 = .ok (.bipush 22, 2) := by decide +kernel
theorem dX5_mark_3 : decode cX5_mark 3 = .ok (.invokevirtual 7, 3) := by decide +kernel
theorem dX5_mark_6 : decode cX5_mark 6 = .ok (.aload_n 0, 1) := by decide +kernel
theorem dX5_mark_7 : decode cX5_mark 7 = .ok (.aload_n 1, 1) := by decide +kernel
theorem dX5_mark_8 : decode cX5_mark 8 = .ok (.iload_n 2, 1) := by decide +kernel
theorem dX5_mark_9 : decode cX5_mark 9 = .ok (.aload_n 3, 1) := by decide +kernel
theorem dX5_mark_10 : decode cX5_mark 10 = .ok (.invokespecial 13, 3) := by decide +kernel
theorem dX5_mark_13 : decode cX5_mark 13 = .ok (.sipush 1000, 3) := by decide +kernel
theorem dX5_mark_16 : decode cX5_mark 16 = .ok (.isub, 1) := by decide +kernel
theorem dX5_mark_17 : decode cX5_mark 17 = .ok (.ireturn, 1) := by decide +kernel
theorem dX6_init_0 : decode cX6_init 0 = .ok (.aload_n 0, 1) := by decide +kernel
theorem dX6_init_1 : decode cX6_init 1 = .ok (.invokespecial 1, 3) := by decide +kernel
theorem dX6_init_4 : decode cX6_init 4 = .ok (.return_, 1) := by decide +kernel
theorem dX6_size_0 : decode cX6_size 0 = .ok (.aload_n 3, 1) := by decide +kernel
theorem dX6_size_1 : decode cX6_size 1 = .ok (.bipush 10, 2) := by decide +kernel
theorem dX6_size_3 : decode cX6_size 3 = .ok (.invokevirtual 7, 3) := by decide +kernel
theorem dX6_size_6 : decode cX6_size 6 = .ok (.aload_n 1, 1) := by decide +kernel
theorem dX6_size_7 : decode cX6_size 7 = .ok (.getfield 13, 3) := by decide +kernel
theorem dX6_size_10 : decode cX6_size 10 = .ok (.iload_n 2, 1) := by decide +kernel
theorem dX6_size_11 : decode cX6_size 11 = .ok (.iaload, 1) := by decide +kernel
theorem dX6_size_12 : decode cX6_size 12 = .ok (.ireturn, 1) := by decide +kernel
theorem dX6_mark_0 : decode cX6_mark 0 = .ok (.aload_n 3, 1) := by decide +kernel
theorem dX6_mark_1 : decode cX6_mark 1 = .ok (.bipush 20, 2) := by decide +kernel
theorem dX6_mark_3 : decode cX6_mark 3 = .ok (.invokevirtual 7, 3) := by decide +kernel
theorem dX6_mark_6 : decode cX6_mark 6 = .ok (.iload_n 2, 1) := by decide +kernel
theorem dX6_mark_7 : decode cX6_mark 7 = .ok (.ireturn, 1) := by decide +kernel
theorem dX7_init_0 : decode cX7_init 0 = .ok (.aload_n 0, 1) := by decide +kernel
theorem dX7_init_1 : decode cX7_init 1 = .ok (.invokespecial 1, 3) := by decide +kernel
theorem dX7_init_4 : decode cX7_init 4 = .ok (.aload_n 0, 1) := by decide +kernel
theorem dX7_init_5 : decode cX7_init 5 = .ok (.bipush 40, 2) := by decide +kernel
theorem dX7_init_7 : decode cX7_init 7 = .ok (.newarray .int, 2) := by decide +kernel
theorem dX7_init_9 : decode cX7_init 9 = .ok (.putfield 9, 3) := by decide +kernel
theorem dX7_init_12 : decode cX7_init 12 = .ok (.aload_n 0, 1) := by decide +kernel
theorem dX7_init_13 : decode cX7_init 13 = .ok (.iconst (-1), 1) := by decide +kernel
theorem dX7_init_14 : decode cX7_init 14 = .ok (.putfield 13, 3) := by decide +kernel
theorem dX7_init_17 : decode cX7_init 17 = .ok (.return_, 1) := by decide +kernel
theorem dX7_isMissing_0 : decode cX7_isMissing 0 = .ok (.aload_n 0, 1) := by decide +kernel
theorem dX7_isMissing_1 : decode cX7_isMissing 1 = .ok (.getfield 13, 3) := by decide +kernel
theorem dX7_isMissing_4 : decode cX7_isMissing 4 = .ok (.iconst (-1), 1) := by decide +kernel
theorem dX7_isMissing_5 : decode cX7_isMissing 5 = .ok (.if_icmp .ne 7, 3) := by decide +kernel
theorem dX7_isMissing_8 : decode cX7_isMissing 8 = .ok (.iconst 1, 1) := by decide +kernel
theorem dX7_isMissing_9 : decode cX7_isMissing 9 = .ok (.goto 4, 3) := by decide +kernel
theorem dX7_isMissing_12 : decode cX7_isMissing 12 = .ok (.iconst 0, 1) := by decide +kernel
theorem dX7_isMissing_13 : decode cX7_isMissing 13 = .ok (.ireturn, 1) := by decide +kernel
theorem dX7_become_0 : decode cX7_become 0 = .ok (.aload_n 0, 1) := by decide +kernel
theorem dX7_become_1 : decode cX7_become 1 = .ok (.iload_n 1, 1) := by decide +kernel
theorem dX7_become_2 : decode cX7_become 2 = .ok (.putfield 13, 3) := by decide +kernel
theorem dX7_become_5 : decode cX7_become 5 = .ok (.aload_n 0, 1) := by decide +kernel
theorem dX7_become_6 : decode cX7_become 6 = .ok (.iload_n 2, 1) := by decide +kernel
theorem dX7_become_7 : decode cX7_become 7 = .ok (.putfield 17, 3) := by decide +kernel
theorem dX7_become_10 : decode cX7_become 10 = .ok (.iconst 0, 1) := by decide +kernel
theorem dX7_become_11 : decode cX7_become 11 = .ok (.istore_n 3, 1) := by decide +kernel
theorem dX7_become_12 : decode cX7_become 12 = .ok (.iload_n 3, 1) := by decide +kernel
theorem dX7_become_13 : decode cX7_become 13 = .ok (.bipush 40, 2) := by decide +kernel
theorem dX7_become_15 : decode cX7_become 15 = .ok (.if_icmp .ge 16, 3) := by decide +kernel
theorem dX7_become_18 : decode cX7_become 18 = .ok (.aload_n 0, 1) := by decide +kernel
theorem dX7_become_19 : decode cX7_become 19 = .ok (.getfield 9, 3) := by decide +kernel
theorem dX7_become_22 : decode cX7_become 22 = .ok (.iload_n 3, 1) := by decide +kernel
theorem dX7_become_23 : decode cX7_become 23 = .ok (.iconst 0, 1) := by decide +kernel
theorem dX7_become_24 : decode cX7_become 24 = .ok (.iastore, 1) := by decide +kernel
theorem dX7_become_25 : decode cX7_become 25 = .ok (.iinc 3 1, 3) := by decide +kernel
theorem dX7_become_28 : decode cX7_become 28 = .ok (.goto (-16), 3) := by decide +kernel
theorem dX7_become_31 : decode cX7_become 31 = .ok (.return_, 1) := by decide +kernel
theorem dX7_holds_0 : decode cX7_holds 0 = .ok (.iload_n 1, 1) := by decide +kernel
theorem dX7_holds_1 : decode cX7_holds 1 = .ok (.ifCond .lt 29, 3) := by decide +kernel
theorem dX7_holds_4 : decode cX7_holds 4 = .ok (.iload_n 2, 1) := by decide +kernel
theorem dX7_holds_5 : decode cX7_holds 5 = .ok (.ifCond .lt 25, 3) := by decide +kernel
theorem dX7_holds_8 : decode cX7_holds 8 = .ok (.iload_n 1, 1) := by decide +kernel
theorem dX7_holds_9 : decode cX7_holds 9 = .ok (.aload_n 0, 1) := by decide +kernel
theorem dX7_holds_10 : decode cX7_holds 10 = .ok (.getfield 17, 3) := by decide +kernel
theorem dX7_holds_13 : decode cX7_holds 13 = .ok (.if_icmp .gt 17, 3) := by decide +kernel
theorem dX7_holds_16 : decode cX7_holds 16 = .ok (.iload_n 2, 1) := by decide +kernel
theorem dX7_holds_17 : decode cX7_holds 17 = .ok (.aload_n 0, 1) := by decide +kernel
theorem dX7_holds_18 : decode cX7_holds 18 = .ok (.getfield 17, 3) := by decide +kernel
theorem dX7_holds_21 : decode cX7_holds 21 = .ok (.iload_n 1, 1) := by decide +kernel
theorem dX7_holds_22 : decode cX7_holds 22 = .ok (.isub, 1) := by decide +kernel
theorem dX7_holds_23 : decode cX7_holds 23 = .ok (.if_icmp .gt 7, 3) := by decide +kernel
theorem dX7_holds_26 : decode cX7_holds 26 = .ok (.iconst 1, 1) := by decide +kernel
theorem dX7_holds_27 : decode cX7_holds 27 = .ok (.goto 4, 3) := by decide +kernel
theorem dX7_holds_30 : decode cX7_holds 30 = .ok (.iconst 0, 1) := by decide +kernel
theorem dX7_holds_31 : decode cX7_holds 31 = .ok (.ireturn, 1) := by decide +kernel
theorem dX7_cut_0 : decode cX7_cut 0 = .ok (.aload_n 0, 1) := by decide +kernel
theorem dX7_cut_1 : decode cX7_cut 1 = .ok (.getfield 13, 3) := by decide +kernel
theorem dX7_cut_4 : decode cX7_cut 4 = .ok (.lookupswitch 34 #[(0, 28), (1, 31)], 28) := by decide +kernel
theorem dX7_cut_32 : decode cX7_cut 32 = .ok (.iload_n 1, 1) := by decide +kernel
theorem dX7_cut_33 : decode cX7_cut 33 = .ok (.i2b, 1) := by decide +kernel
theorem dX7_cut_34 : decode cX7_cut 34 = .ok (.ireturn, 1) := by decide +kernel
theorem dX7_cut_35 : decode cX7_cut 35 = .ok (.iload_n 1, 1) := by decide +kernel
theorem dX7_cut_36 : decode cX7_cut 36 = .ok (.i2s, 1) := by decide +kernel
theorem dX7_cut_37 : decode cX7_cut 37 = .ok (.ireturn, 1) := by decide +kernel
theorem dX7_cut_38 : decode cX7_cut 38 = .ok (.iload_n 1, 1) := by decide +kernel
theorem dX7_cut_39 : decode cX7_cut 39 = .ok (.ireturn, 1) := by decide +kernel
theorem dX8_init_0 : decode cX8_init 0 = .ok (.aload_n 0, 1) := by decide +kernel
theorem dX8_init_1 : decode cX8_init 1 = .ok (.invokespecial 1, 3) := by decide +kernel
theorem dX8_init_4 : decode cX8_init 4 = .ok (.aload_n 0, 1) := by decide +kernel
theorem dX8_init_5 : decode cX8_init 5 = .ok (.bipush 120, 2) := by decide +kernel
theorem dX8_init_7 : decode cX8_init 7 = .ok (.newarray .int, 2) := by decide +kernel
theorem dX8_init_9 : decode cX8_init 9 = .ok (.putfield 9, 3) := by decide +kernel
theorem dX8_init_12 : decode cX8_init 12 = .ok (.return_, 1) := by decide +kernel
theorem dX8_tellsHouse_0 : decode cX8_tellsHouse 0 = .ok (.aload_n 0, 1) := by decide +kernel
theorem dX8_tellsHouse_1 : decode cX8_tellsHouse 1 = .ok (.iconst 0, 1) := by decide +kernel
theorem dX8_tellsHouse_2 : decode cX8_tellsHouse 2 = .ok (.putfield 13, 3) := by decide +kernel
theorem dX8_tellsHouse_5 : decode cX8_tellsHouse 5 = .ok (.aload_n 0, 1) := by decide +kernel
theorem dX8_tellsHouse_6 : decode cX8_tellsHouse 6 = .ok (.aload_n 1, 1) := by decide +kernel
theorem dX8_tellsHouse_7 : decode cX8_tellsHouse 7 = .ok (.invokevirtual 17, 3) := by decide +kernel
theorem dX8_tellsHouse_10 : decode cX8_tellsHouse 10 = .ok (.ifCond .ne 5, 3) := by decide +kernel
theorem dX8_tellsHouse_13 : decode cX8_tellsHouse 13 = .ok (.iconst 0, 1) := by decide +kernel
theorem dX8_tellsHouse_14 : decode cX8_tellsHouse 14 = .ok (.ireturn, 1) := by decide +kernel
theorem dX8_tellsHouse_15 : decode cX8_tellsHouse 15 = .ok (.iconst 0, 1) := by decide +kernel
theorem dX8_tellsHouse_16 : decode cX8_tellsHouse 16 = .ok (.istore_n 2, 1) := by decide +kernel
theorem dX8_tellsHouse_17 : decode cX8_tellsHouse 17 = .ok (.iload_n 2, 1) := by decide +kernel
theorem dX8_tellsHouse_18 : decode cX8_tellsHouse 18 = .ok (.bipush 6, 2) := by decide +kernel
theorem dX8_tellsHouse_20 : decode cX8_tellsHouse 20 = .ok (.if_icmp .gt 31, 3) := by decide +kernel
theorem dX8_tellsHouse_23 : decode cX8_tellsHouse 23 = .ok (.aload_n 0, 1) := by decide +kernel
theorem dX8_tellsHouse_24 : decode cX8_tellsHouse 24 = .ok (.getfield 13, 3) := by decide +kernel
theorem dX8_tellsHouse_27 : decode cX8_tellsHouse 27 = .ok (.aload_n 0, 1) := by decide +kernel
theorem dX8_tellsHouse_28 : decode cX8_tellsHouse 28 = .ok (.getfield 23, 3) := by decide +kernel
theorem dX8_tellsHouse_31 : decode cX8_tellsHouse 31 = .ok (.if_icmp .ge 20, 3) := by decide +kernel
theorem dX8_tellsHouse_34 : decode cX8_tellsHouse 34 = .ok (.aload_n 0, 1) := by decide +kernel
theorem dX8_tellsHouse_35 : decode cX8_tellsHouse 35 = .ok (.aload_n 1, 1) := by decide +kernel
theorem dX8_tellsHouse_36 : decode cX8_tellsHouse 36 = .ok (.iload_n 2, 1) := by decide +kernel
theorem dX8_tellsHouse_37 : decode cX8_tellsHouse 37 = .ok (.invokevirtual 26, 3) := by decide +kernel
theorem dX8_tellsHouse_40 : decode cX8_tellsHouse 40 = .ok (.ifCond .ne 5, 3) := by decide +kernel
theorem dX8_tellsHouse_43 : decode cX8_tellsHouse 43 = .ok (.iconst 0, 1) := by decide +kernel
theorem dX8_tellsHouse_44 : decode cX8_tellsHouse 44 = .ok (.ireturn, 1) := by decide +kernel
theorem dX8_tellsHouse_45 : decode cX8_tellsHouse 45 = .ok (.iinc 2 1, 3) := by decide +kernel
theorem dX8_tellsHouse_48 : decode cX8_tellsHouse 48 = .ok (.goto (-31), 3) := by decide +kernel
theorem dX8_tellsHouse_51 : decode cX8_tellsHouse 51 = .ok (.iconst 1, 1) := by decide +kernel
theorem dX8_tellsHouse_52 : decode cX8_tellsHouse 52 = .ok (.ireturn, 1) := by decide +kernel
theorem dX8_tellsLaw_0 : decode cX8_tellsLaw 0 = .ok (.aload_n 0, 1) := by decide +kernel
theorem dX8_tellsLaw_1 : decode cX8_tellsLaw 1 = .ok (.bipush 102, 2) := by decide +kernel
theorem dX8_tellsLaw_3 : decode cX8_tellsLaw 3 = .ok (.invokevirtual 30, 3) := by decide +kernel
theorem dX8_tellsLaw_6 : decode cX8_tellsLaw 6 = .ok (.ifCond .eq 13, 3) := by decide +kernel
theorem dX8_tellsLaw_9 : decode cX8_tellsLaw 9 = .ok (.aload_n 0, 1) := by decide +kernel
theorem dX8_tellsLaw_10 : decode cX8_tellsLaw 10 = .ok (.iconst 1, 1) := by decide +kernel
theorem dX8_tellsLaw_11 : decode cX8_tellsLaw 11 = .ok (.bipush 9, 2) := by decide +kernel
theorem dX8_tellsLaw_13 : decode cX8_tellsLaw 13 = .ok (.invokevirtual 34, 3) := by decide +kernel
theorem dX8_tellsLaw_16 : decode cX8_tellsLaw 16 = .ok (.ifCond .ne 5, 3) := by decide +kernel
theorem dX8_tellsLaw_19 : decode cX8_tellsLaw 19 = .ok (.iconst 0, 1) := by decide +kernel
theorem dX8_tellsLaw_20 : decode cX8_tellsLaw 20 = .ok (.ireturn, 1) := by decide +kernel
theorem dX8_tellsLaw_21 : decode cX8_tellsLaw 21 = .ok (.aload_n 0, 1) := by decide +kernel
theorem dX8_tellsLaw_22 : decode cX8_tellsLaw 22 = .ok (.getfield 38, 3) := by decide +kernel
theorem dX8_tellsLaw_25 : decode cX8_tellsLaw 25 = .ok (.istore_n 2, 1) := by decide +kernel
theorem dX8_tellsLaw_26 : decode cX8_tellsLaw 26 = .ok (.aload_n 0, 1) := by decide +kernel
theorem dX8_tellsLaw_27 : decode cX8_tellsLaw 27 = .ok (.bipush 44, 2) := by decide +kernel
theorem dX8_tellsLaw_29 : decode cX8_tellsLaw 29 = .ok (.invokevirtual 30, 3) := by decide +kernel
theorem dX8_tellsLaw_32 : decode cX8_tellsLaw 32 = .ok (.ifCond .eq 21, 3) := by decide +kernel
theorem dX8_tellsLaw_35 : decode cX8_tellsLaw 35 = .ok (.aload_n 0, 1) := by decide +kernel
theorem dX8_tellsLaw_36 : decode cX8_tellsLaw 36 = .ok (.iconst 0, 1) := by decide +kernel
theorem dX8_tellsLaw_37 : decode cX8_tellsLaw 37 = .ok (.iload_n 2, 1) := by decide +kernel
theorem dX8_tellsLaw_38 : decode cX8_tellsLaw 38 = .ok (.invokevirtual 34, 3) := by decide +kernel
theorem dX8_tellsLaw_41 : decode cX8_tellsLaw 41 = .ok (.ifCond .eq 12, 3) := by decide +kernel
theorem dX8_tellsLaw_44 : decode cX8_tellsLaw 44 = .ok (.aload_n 0, 1) := by decide +kernel
theorem dX8_tellsLaw_45 : decode cX8_tellsLaw 45 = .ok (.bipush 59, 2) := by decide +kernel
theorem dX8_tellsLaw_47 : decode cX8_tellsLaw 47 = .ok (.invokevirtual 30, 3) := by decide +kernel
theorem dX8_tellsLaw_50 : decode cX8_tellsLaw 50 = .ok (.ifCond .ne 5, 3) := by decide +kernel
theorem dX8_tellsLaw_53 : decode cX8_tellsLaw 53 = .ok (.iconst 0, 1) := by decide +kernel
theorem dX8_tellsLaw_54 : decode cX8_tellsLaw 54 = .ok (.ireturn, 1) := by decide +kernel
theorem dX8_tellsLaw_55 : decode cX8_tellsLaw 55 = .ok (.aload_n 1, 1) := by decide +kernel
theorem dX8_tellsLaw_56 : decode cX8_tellsLaw 56 = .ok (.iload_n 2, 1) := by decide +kernel
theorem dX8_tellsLaw_57 : decode cX8_tellsLaw 57 = .ok (.aload_n 0, 1) := by decide +kernel
theorem dX8_tellsLaw_58 : decode cX8_tellsLaw 58 = .ok (.getfield 38, 3) := by decide +kernel
theorem dX8_tellsLaw_61 : decode cX8_tellsLaw 61 = .ok (.invokevirtual 41, 3) := by decide +kernel
theorem dX8_tellsLaw_64 : decode cX8_tellsLaw 64 = .ok (.iconst 1, 1) := by decide +kernel
theorem dX8_tellsLaw_65 : decode cX8_tellsLaw 65 = .ok (.ireturn, 1) := by decide +kernel
theorem dX8_tellsPerson_0 : decode cX8_tellsPerson 0 = .ok (.aload_n 0, 1) := by decide +kernel
theorem dX8_tellsPerson_1 : decode cX8_tellsPerson 1 = .ok (.invokevirtual 45, 3) := by decide +kernel
theorem dX8_tellsPerson_4 : decode cX8_tellsPerson 4 = .ok (.istore_n 3, 1) := by decide +kernel
theorem dX8_tellsPerson_5 : decode cX8_tellsPerson 5 = .ok (.iload_n 3, 1) := by decide +kernel
theorem dX8_tellsPerson_6 : decode cX8_tellsPerson 6 = .ok (.ifCond .ne 9, 3) := by decide +kernel
theorem dX8_tellsPerson_9 : decode cX8_tellsPerson 9 = .ok (.aload_n 0, 1) := by decide +kernel
theorem dX8_tellsPerson_10 : decode cX8_tellsPerson 10 = .ok (.iconst 1, 1) := by decide +kernel
theorem dX8_tellsPerson_11 : decode cX8_tellsPerson 11 = .ok (.invokevirtual 49, 3) := by decide +kernel
theorem dX8_tellsPerson_14 : decode cX8_tellsPerson 14 = .ok (.ireturn, 1) := by decide +kernel
theorem dX8_tellsPerson_15 : decode cX8_tellsPerson 15 = .ok (.iload_n 2, 1) := by decide +kernel
theorem dX8_tellsPerson_16 : decode cX8_tellsPerson 16 = .ok (.bipush 6, 2) := by decide +kernel
theorem dX8_tellsPerson_18 : decode cX8_tellsPerson 18 = .ok (.if_icmp .lt 9, 3) := by decide +kernel
theorem dX8_tellsPerson_21 : decode cX8_tellsPerson 21 = .ok (.aload_n 0, 1) := by decide +kernel
theorem dX8_tellsPerson_22 : decode cX8_tellsPerson 22 = .ok (.iconst 3, 1) := by decide +kernel
theorem dX8_tellsPerson_23 : decode cX8_tellsPerson 23 = .ok (.invokevirtual 49, 3) := by decide +kernel
theorem dX8_tellsPerson_26 : decode cX8_tellsPerson 26 = .ok (.ireturn, 1) := by decide +kernel
theorem dX8_tellsPerson_27 : decode cX8_tellsPerson 27 = .ok (.aload_n 0, 1) := by decide +kernel
theorem dX8_tellsPerson_28 : decode cX8_tellsPerson 28 = .ok (.dup, 1) := by decide +kernel
theorem dX8_tellsPerson_29 : decode cX8_tellsPerson 29 = .ok (.getfield 13, 3) := by decide +kernel
theorem dX8_tellsPerson_32 : decode cX8_tellsPerson 32 = .ok (.iconst 1, 1) := by decide +kernel
theorem dX8_tellsPerson_33 : decode cX8_tellsPerson 33 = .ok (.iadd, 1) := by decide +kernel
theorem dX8_tellsPerson_34 : decode cX8_tellsPerson 34 = .ok (.putfield 13, 3) := by decide +kernel
theorem dX8_tellsPerson_37 : decode cX8_tellsPerson 37 = .ok (.aload_n 0, 1) := by decide +kernel
theorem dX8_tellsPerson_38 : decode cX8_tellsPerson 38 = .ok (.iconst 0, 1) := by decide +kernel
theorem dX8_tellsPerson_39 : decode cX8_tellsPerson 39 = .ok (.aload_n 1, 1) := by decide +kernel
theorem dX8_tellsPerson_40 : decode cX8_tellsPerson 40 = .ok (.getfield 53, 3) := by decide +kernel
theorem dX8_tellsPerson_43 : decode cX8_tellsPerson 43 = .ok (.invokevirtual 34, 3) := by decide +kernel
theorem dX8_tellsPerson_46 : decode cX8_tellsPerson 46 = .ok (.ifCond .ne 5, 3) := by decide +kernel
theorem dX8_tellsPerson_49 : decode cX8_tellsPerson 49 = .ok (.iconst 0, 1) := by decide +kernel
theorem dX8_tellsPerson_50 : decode cX8_tellsPerson 50 = .ok (.ireturn, 1) := by decide +kernel
theorem dX8_tellsPerson_51 : decode cX8_tellsPerson 51 = .ok (.aload_n 1, 1) := by decide +kernel
theorem dX8_tellsPerson_52 : decode cX8_tellsPerson 52 = .ok (.getfield 56, 3) := by decide +kernel
theorem dX8_tellsPerson_55 : decode cX8_tellsPerson 55 = .ok (.iload_n 2, 1) := by decide +kernel
theorem dX8_tellsPerson_56 : decode cX8_tellsPerson 56 = .ok (.aload_n 0, 1) := by decide +kernel
theorem dX8_tellsPerson_57 : decode cX8_tellsPerson 57 = .ok (.getfield 38, 3) := by decide +kernel
theorem dX8_tellsPerson_60 : decode cX8_tellsPerson 60 = .ok (.iastore, 1) := by decide +kernel
theorem dX8_tellsPerson_61 : decode cX8_tellsPerson 61 = .ok (.aload_n 0, 1) := by decide +kernel
theorem dX8_tellsPerson_62 : decode cX8_tellsPerson 62 = .ok (.bipush 44, 2) := by decide +kernel
theorem dX8_tellsPerson_64 : decode cX8_tellsPerson 64 = .ok (.invokevirtual 30, 3) := by decide +kernel
theorem dX8_tellsPerson_67 : decode cX8_tellsPerson 67 = .ok (.ifCond .eq 15, 3) := by decide +kernel
theorem dX8_tellsPerson_70 : decode cX8_tellsPerson 70 = .ok (.aload_n 0, 1) := by decide +kernel
theorem dX8_tellsPerson_71 : decode cX8_tellsPerson 71 = .ok (.iconst 0, 1) := by decide +kernel
theorem dX8_tellsPerson_72 : decode cX8_tellsPerson 72 = .ok (.aload_n 1, 1) := by decide +kernel
theorem dX8_tellsPerson_73 : decode cX8_tellsPerson 73 = .ok (.getfield 53, 3) := by decide +kernel
theorem dX8_tellsPerson_76 : decode cX8_tellsPerson 76 = .ok (.invokevirtual 34, 3) := by decide +kernel
theorem dX8_tellsPerson_79 : decode cX8_tellsPerson 79 = .ok (.ifCond .ne 5, 3) := by decide +kernel
theorem dX8_tellsPerson_82 : decode cX8_tellsPerson 82 = .ok (.iconst 0, 1) := by decide +kernel
theorem dX8_tellsPerson_83 : decode cX8_tellsPerson 83 = .ok (.ireturn, 1) := by decide +kernel
theorem dX8_tellsPerson_84 : decode cX8_tellsPerson 84 = .ok (.aload_n 1, 1) := by decide +kernel
theorem dX8_tellsPerson_85 : decode cX8_tellsPerson 85 = .ok (.getfield 59, 3) := by decide +kernel
theorem dX8_tellsPerson_88 : decode cX8_tellsPerson 88 = .ok (.iload_n 2, 1) := by decide +kernel
theorem dX8_tellsPerson_89 : decode cX8_tellsPerson 89 = .ok (.aload_n 0, 1) := by decide +kernel
theorem dX8_tellsPerson_90 : decode cX8_tellsPerson 90 = .ok (.getfield 38, 3) := by decide +kernel
theorem dX8_tellsPerson_93 : decode cX8_tellsPerson 93 = .ok (.iastore, 1) := by decide +kernel
theorem dX8_tellsPerson_94 : decode cX8_tellsPerson 94 = .ok (.aload_n 0, 1) := by decide +kernel
theorem dX8_tellsPerson_95 : decode cX8_tellsPerson 95 = .ok (.bipush 44, 2) := by decide +kernel
theorem dX8_tellsPerson_97 : decode cX8_tellsPerson 97 = .ok (.invokevirtual 30, 3) := by decide +kernel
theorem dX8_tellsPerson_100 : decode cX8_tellsPerson 100 = .ok (.ifCond .eq 13, 3) := by decide +kernel
theorem dX8_tellsPerson_103 : decode cX8_tellsPerson 103 = .ok (.aload_n 0, 1) := by decide +kernel
theorem dX8_tellsPerson_104 : decode cX8_tellsPerson 104 = .ok (.iconst 0, 1) := by decide +kernel
theorem dX8_tellsPerson_105 : decode cX8_tellsPerson 105 = .ok (.bipush 9, 2) := by decide +kernel
theorem dX8_tellsPerson_107 : decode cX8_tellsPerson 107 = .ok (.invokevirtual 34, 3) := by decide +kernel
theorem dX8_tellsPerson_110 : decode cX8_tellsPerson 110 = .ok (.ifCond .ne 5, 3) := by decide +kernel
theorem dX8_tellsPerson_113 : decode cX8_tellsPerson 113 = .ok (.iconst 0, 1) := by decide +kernel
theorem dX8_tellsPerson_114 : decode cX8_tellsPerson 114 = .ok (.ireturn, 1) := by decide +kernel
theorem dX8_tellsPerson_115 : decode cX8_tellsPerson 115 = .ok (.aload_n 1, 1) := by decide +kernel
theorem dX8_tellsPerson_116 : decode cX8_tellsPerson 116 = .ok (.getfield 62, 3) := by decide +kernel
theorem dX8_tellsPerson_119 : decode cX8_tellsPerson 119 = .ok (.iload_n 2, 1) := by decide +kernel
theorem dX8_tellsPerson_120 : decode cX8_tellsPerson 120 = .ok (.aload_n 0, 1) := by decide +kernel
theorem dX8_tellsPerson_121 : decode cX8_tellsPerson 121 = .ok (.getfield 38, 3) := by decide +kernel
theorem dX8_tellsPerson_124 : decode cX8_tellsPerson 124 = .ok (.iastore, 1) := by decide +kernel
theorem dX8_tellsPerson_125 : decode cX8_tellsPerson 125 = .ok (.aload_n 0, 1) := by decide +kernel
theorem dX8_tellsPerson_126 : decode cX8_tellsPerson 126 = .ok (.bipush 44, 2) := by decide +kernel
theorem dX8_tellsPerson_128 : decode cX8_tellsPerson 128 = .ok (.invokevirtual 30, 3) := by decide +kernel
theorem dX8_tellsPerson_131 : decode cX8_tellsPerson 131 = .ok (.ifCond .eq 22, 3) := by decide +kernel
theorem dX8_tellsPerson_134 : decode cX8_tellsPerson 134 = .ok (.aload_n 0, 1) := by decide +kernel
theorem dX8_tellsPerson_135 : decode cX8_tellsPerson 135 = .ok (.iconst 0, 1) := by decide +kernel
theorem dX8_tellsPerson_136 : decode cX8_tellsPerson 136 = .ok (.bipush 9, 2) := by decide +kernel
theorem dX8_tellsPerson_138 : decode cX8_tellsPerson 138 = .ok (.invokevirtual 34, 3) := by decide +kernel
theorem dX8_tellsPerson_141 : decode cX8_tellsPerson 141 = .ok (.ifCond .eq 12, 3) := by decide +kernel
theorem dX8_tellsPerson_144 : decode cX8_tellsPerson 144 = .ok (.aload_n 0, 1) := by decide +kernel
theorem dX8_tellsPerson_145 : decode cX8_tellsPerson 145 = .ok (.bipush 59, 2) := by decide +kernel
theorem dX8_tellsPerson_147 : decode cX8_tellsPerson 147 = .ok (.invokevirtual 30, 3) := by decide +kernel
theorem dX8_tellsPerson_150 : decode cX8_tellsPerson 150 = .ok (.ifCond .ne 5, 3) := by decide +kernel
theorem dX8_tellsPerson_153 : decode cX8_tellsPerson 153 = .ok (.iconst 0, 1) := by decide +kernel
theorem dX8_tellsPerson_154 : decode cX8_tellsPerson 154 = .ok (.ireturn, 1) := by decide +kernel
theorem dX8_tellsPerson_155 : decode cX8_tellsPerson 155 = .ok (.aload_n 1, 1) := by decide +kernel
theorem dX8_tellsPerson_156 : decode cX8_tellsPerson 156 = .ok (.getfield 65, 3) := by decide +kernel
theorem dX8_tellsPerson_159 : decode cX8_tellsPerson 159 = .ok (.iload_n 2, 1) := by decide +kernel
theorem dX8_tellsPerson_160 : decode cX8_tellsPerson 160 = .ok (.aload_n 0, 1) := by decide +kernel
theorem dX8_tellsPerson_161 : decode cX8_tellsPerson 161 = .ok (.getfield 38, 3) := by decide +kernel
theorem dX8_tellsPerson_164 : decode cX8_tellsPerson 164 = .ok (.iastore, 1) := by decide +kernel
theorem dX8_tellsPerson_165 : decode cX8_tellsPerson 165 = .ok (.aload_n 1, 1) := by decide +kernel
theorem dX8_tellsPerson_166 : decode cX8_tellsPerson 166 = .ok (.getfield 68, 3) := by decide +kernel
theorem dX8_tellsPerson_169 : decode cX8_tellsPerson 169 = .ok (.iload_n 2, 1) := by decide +kernel
theorem dX8_tellsPerson_170 : decode cX8_tellsPerson 170 = .ok (.iload_n 3, 1) := by decide +kernel
theorem dX8_tellsPerson_171 : decode cX8_tellsPerson 171 = .ok (.iastore, 1) := by decide +kernel
theorem dX8_tellsPerson_172 : decode cX8_tellsPerson 172 = .ok (.aload_n 1, 1) := by decide +kernel
theorem dX8_tellsPerson_173 : decode cX8_tellsPerson 173 = .ok (.iload_n 2, 1) := by decide +kernel
theorem dX8_tellsPerson_174 : decode cX8_tellsPerson 174 = .ok (.iconst 1, 1) := by decide +kernel
theorem dX8_tellsPerson_175 : decode cX8_tellsPerson 175 = .ok (.iadd, 1) := by decide +kernel
theorem dX8_tellsPerson_176 : decode cX8_tellsPerson 176 = .ok (.putfield 71, 3) := by decide +kernel
theorem dX8_tellsPerson_179 : decode cX8_tellsPerson 179 = .ok (.iconst 1, 1) := by decide +kernel
theorem dX8_tellsPerson_180 : decode cX8_tellsPerson 180 = .ok (.ireturn, 1) := by decide +kernel
theorem dX8_sort_0 : decode cX8_sort 0 = .ok (.aload_n 0, 1) := by decide +kernel
theorem dX8_sort_1 : decode cX8_sort 1 = .ok (.getfield 13, 3) := by decide +kernel
theorem dX8_sort_4 : decode cX8_sort 4 = .ok (.aload_n 0, 1) := by decide +kernel
theorem dX8_sort_5 : decode cX8_sort 5 = .ok (.getfield 23, 3) := by decide +kernel
theorem dX8_sort_8 : decode cX8_sort 8 = .ok (.if_icmp .ge 15, 3) := by decide +kernel
theorem dX8_sort_11 : decode cX8_sort 11 = .ok (.aload_n 0, 1) := by decide +kernel
theorem dX8_sort_12 : decode cX8_sort 12 = .ok (.getfield 9, 3) := by decide +kernel
theorem dX8_sort_15 : decode cX8_sort 15 = .ok (.aload_n 0, 1) := by decide +kernel
theorem dX8_sort_16 : decode cX8_sort 16 = .ok (.getfield 13, 3) := by decide +kernel
theorem dX8_sort_19 : decode cX8_sort 19 = .ok (.iaload, 1) := by decide +kernel
theorem dX8_sort_20 : decode cX8_sort 20 = .ok (.goto 4, 3) := by decide +kernel
theorem dX8_sort_23 : decode cX8_sort 23 = .ok (.iconst 0, 1) := by decide +kernel
theorem dX8_sort_24 : decode cX8_sort 24 = .ok (.lookupswitch 62 #[(99, 52), (101, 60), (104, 58), (109, 56), (118, 54)], 52) := by decide +kernel
theorem dX8_sort_76 : decode cX8_sort 76 = .ok (.iconst 1, 1) := by decide +kernel
theorem dX8_sort_77 : decode cX8_sort 77 = .ok (.ireturn, 1) := by decide +kernel
theorem dX8_sort_78 : decode cX8_sort 78 = .ok (.iconst 2, 1) := by decide +kernel
theorem dX8_sort_79 : decode cX8_sort 79 = .ok (.ireturn, 1) := by decide +kernel
theorem dX8_sort_80 : decode cX8_sort 80 = .ok (.iconst 3, 1) := by decide +kernel
theorem dX8_sort_81 : decode cX8_sort 81 = .ok (.ireturn, 1) := by decide +kernel
theorem dX8_sort_82 : decode cX8_sort 82 = .ok (.iconst 4, 1) := by decide +kernel
theorem dX8_sort_83 : decode cX8_sort 83 = .ok (.ireturn, 1) := by decide +kernel
theorem dX8_sort_84 : decode cX8_sort 84 = .ok (.iconst 5, 1) := by decide +kernel
theorem dX8_sort_85 : decode cX8_sort 85 = .ok (.ireturn, 1) := by decide +kernel
theorem dX8_sort_86 : decode cX8_sort 86 = .ok (.iconst 0, 1) := by decide +kernel
theorem dX8_sort_87 : decode cX8_sort 87 = .ok (.ireturn, 1) := by decide +kernel
theorem dX8_takesSign_0 : decode cX8_takesSign 0 = .ok (.aload_n 0, 1) := by decide +kernel
theorem dX8_takesSign_1 : decode cX8_takesSign 1 = .ok (.getfield 13, 3) := by decide +kernel
theorem dX8_takesSign_4 : decode cX8_takesSign 4 = .ok (.aload_n 0, 1) := by decide +kernel
theorem dX8_takesSign_5 : decode cX8_takesSign 5 = .ok (.getfield 23, 3) := by decide +kernel
theorem dX8_takesSign_8 : decode cX8_takesSign 8 = .ok (.if_icmp .ge 16, 3) := by decide +kernel
theorem dX8_takesSign_11 : decode cX8_takesSign 11 = .ok (.aload_n 0, 1) := by decide +kernel
theorem dX8_takesSign_12 : decode cX8_takesSign 12 = .ok (.getfield 9, 3) := by decide +kernel
theorem dX8_takesSign_15 : decode cX8_takesSign 15 = .ok (.aload_n 0, 1) := by decide +kernel
theorem dX8_takesSign_16 : decode cX8_takesSign 16 = .ok (.getfield 13, 3) := by decide +kernel
theorem dX8_takesSign_19 : decode cX8_takesSign 19 = .ok (.iaload, 1) := by decide +kernel
theorem dX8_takesSign_20 : decode cX8_takesSign 20 = .ok (.iload_n 1, 1) := by decide +kernel
theorem dX8_takesSign_21 : decode cX8_takesSign 21 = .ok (.if_icmp .eq 9, 3) := by decide +kernel
theorem dX8_takesSign_24 : decode cX8_takesSign 24 = .ok (.aload_n 0, 1) := by decide +kernel
theorem dX8_takesSign_25 : decode cX8_takesSign 25 = .ok (.iconst 1, 1) := by decide +kernel
theorem dX8_takesSign_26 : decode cX8_takesSign 26 = .ok (.invokevirtual 49, 3) := by decide +kernel
theorem dX8_takesSign_29 : decode cX8_takesSign 29 = .ok (.ireturn, 1) := by decide +kernel
theorem dX8_takesSign_30 : decode cX8_takesSign 30 = .ok (.aload_n 0, 1) := by decide +kernel
theorem dX8_takesSign_31 : decode cX8_takesSign 31 = .ok (.dup, 1) := by decide +kernel
theorem dX8_takesSign_32 : decode cX8_takesSign 32 = .ok (.getfield 13, 3) := by decide +kernel
theorem dX8_takesSign_35 : decode cX8_takesSign 35 = .ok (.iconst 1, 1) := by decide +kernel
theorem dX8_takesSign_36 : decode cX8_takesSign 36 = .ok (.iadd, 1) := by decide +kernel
theorem dX8_takesSign_37 : decode cX8_takesSign 37 = .ok (.putfield 13, 3) := by decide +kernel
theorem dX8_takesSign_40 : decode cX8_takesSign 40 = .ok (.iconst 1, 1) := by decide +kernel
theorem dX8_takesSign_41 : decode cX8_takesSign 41 = .ok (.ireturn, 1) := by decide +kernel
theorem dX8_takesNumber_0 : decode cX8_takesNumber 0 = .ok (.aload_n 0, 1) := by decide +kernel
theorem dX8_takesNumber_1 : decode cX8_takesNumber 1 = .ok (.getfield 13, 3) := by decide +kernel
theorem dX8_takesNumber_4 : decode cX8_takesNumber 4 = .ok (.istore_n 3, 1) := by decide +kernel
theorem dX8_takesNumber_5 : decode cX8_takesNumber 5 = .ok (.iconst 0, 1) := by decide +kernel
theorem dX8_takesNumber_6 : decode cX8_takesNumber 6 = .ok (.istore 4, 2) := by decide +kernel
theorem dX8_takesNumber_8 : decode cX8_takesNumber 8 = .ok (.iconst 0, 1) := by decide +kernel
theorem dX8_takesNumber_9 : decode cX8_takesNumber 9 = .ok (.istore 5, 2) := by decide +kernel
theorem dX8_takesNumber_11 : decode cX8_takesNumber 11 = .ok (.iload 5, 2) := by decide +kernel
theorem dX8_takesNumber_13 : decode cX8_takesNumber 13 = .ok (.iconst 3, 1) := by decide +kernel
theorem dX8_takesNumber_14 : decode cX8_takesNumber 14 = .ok (.if_icmp .ge 49, 3) := by decide +kernel
theorem dX8_takesNumber_17 : decode cX8_takesNumber 17 = .ok (.iload_n 3, 1) := by decide +kernel
theorem dX8_takesNumber_18 : decode cX8_takesNumber 18 = .ok (.aload_n 0, 1) := by decide +kernel
theorem dX8_takesNumber_19 : decode cX8_takesNumber 19 = .ok (.getfield 23, 3) := by decide +kernel
theorem dX8_takesNumber_22 : decode cX8_takesNumber 22 = .ok (.if_icmp .ge 41, 3) := by decide +kernel
theorem dX8_takesNumber_25 : decode cX8_takesNumber 25 = .ok (.aload_n 0, 1) := by decide +kernel
theorem dX8_takesNumber_26 : decode cX8_takesNumber 26 = .ok (.getfield 9, 3) := by decide +kernel
theorem dX8_takesNumber_29 : decode cX8_takesNumber 29 = .ok (.iload_n 3, 1) := by decide +kernel
theorem dX8_takesNumber_30 : decode cX8_takesNumber 30 = .ok (.iaload, 1) := by decide +kernel
theorem dX8_takesNumber_31 : decode cX8_takesNumber 31 = .ok (.invokestatic 74, 3) := by decide +kernel
theorem dX8_takesNumber_34 : decode cX8_takesNumber 34 = .ok (.ifCond .eq 29, 3) := by decide +kernel
theorem dX8_takesNumber_37 : decode cX8_takesNumber 37 = .ok (.iload 4, 2) := by decide +kernel
theorem dX8_takesNumber_39 : decode cX8_takesNumber 39 = .ok (.bipush 10, 2) := by decide +kernel
theorem dX8_takesNumber_41 : decode cX8_takesNumber 41 = .ok (.imul, 1) := by decide +kernel
theorem dX8_takesNumber_42 : decode cX8_takesNumber 42 = .ok (.aload_n 0, 1) := by decide +kernel
theorem dX8_takesNumber_43 : decode cX8_takesNumber 43 = .ok (.getfield 9, 3) := by decide +kernel
theorem dX8_takesNumber_46 : decode cX8_takesNumber 46 = .ok (.iload_n 3, 1) := by decide +kernel
theorem dX8_takesNumber_47 : decode cX8_takesNumber 47 = .ok (.iaload, 1) := by decide +kernel
theorem dX8_takesNumber_48 : decode cX8_takesNumber 48 = .ok (.iadd, 1) := by decide +kernel
theorem dX8_takesNumber_49 : decode cX8_takesNumber 49 = .ok (.bipush 48, 2) := by decide +kernel
theorem dX8_takesNumber_51 : decode cX8_takesNumber 51 = .ok (.isub, 1) := by decide +kernel
theorem dX8_takesNumber_52 : decode cX8_takesNumber 52 = .ok (.istore 4, 2) := by decide +kernel
theorem dX8_takesNumber_54 : decode cX8_takesNumber 54 = .ok (.iinc 3 1, 3) := by decide +kernel
theorem dX8_takesNumber_57 : decode cX8_takesNumber 57 = .ok (.iinc 5 1, 3) := by decide +kernel
theorem dX8_takesNumber_60 : decode cX8_takesNumber 60 = .ok (.goto (-49), 3) := by decide +kernel
theorem dX8_takesNumber_63 : decode cX8_takesNumber 63 = .ok (.iload_n 3, 1) := by decide +kernel
theorem dX8_takesNumber_64 : decode cX8_takesNumber 64 = .ok (.aload_n 0, 1) := by decide +kernel
theorem dX8_takesNumber_65 : decode cX8_takesNumber 65 = .ok (.getfield 13, 3) := by decide +kernel
theorem dX8_takesNumber_68 : decode cX8_takesNumber 68 = .ok (.if_icmp .eq 13, 3) := by decide +kernel
theorem dX8_takesNumber_71 : decode cX8_takesNumber 71 = .ok (.iload_n 3, 1) := by decide +kernel
theorem dX8_takesNumber_72 : decode cX8_takesNumber 72 = .ok (.aload_n 0, 1) := by decide +kernel
theorem dX8_takesNumber_73 : decode cX8_takesNumber 73 = .ok (.getfield 13, 3) := by decide +kernel
theorem dX8_takesNumber_76 : decode cX8_takesNumber 76 = .ok (.isub, 1) := by decide +kernel
theorem dX8_takesNumber_77 : decode cX8_takesNumber 77 = .ok (.iconst 2, 1) := by decide +kernel
theorem dX8_takesNumber_78 : decode cX8_takesNumber 78 = .ok (.if_icmp .le 9, 3) := by decide +kernel
theorem dX8_takesNumber_81 : decode cX8_takesNumber 81 = .ok (.aload_n 0, 1) := by decide +kernel
theorem dX8_takesNumber_82 : decode cX8_takesNumber 82 = .ok (.iconst 1, 1) := by decide +kernel
theorem dX8_takesNumber_83 : decode cX8_takesNumber 83 = .ok (.invokevirtual 49, 3) := by decide +kernel
theorem dX8_takesNumber_86 : decode cX8_takesNumber 86 = .ok (.ireturn, 1) := by decide +kernel
theorem dX8_takesNumber_87 : decode cX8_takesNumber 87 = .ok (.iload 4, 2) := by decide +kernel
theorem dX8_takesNumber_89 : decode cX8_takesNumber 89 = .ok (.iload_n 1, 1) := by decide +kernel
theorem dX8_takesNumber_90 : decode cX8_takesNumber 90 = .ok (.if_icmp .lt 9, 3) := by decide +kernel
theorem dX8_takesNumber_93 : decode cX8_takesNumber 93 = .ok (.iload 4, 2) := by decide +kernel
theorem dX8_takesNumber_95 : decode cX8_takesNumber 95 = .ok (.iload_n 2, 1) := by decide +kernel
theorem dX8_takesNumber_96 : decode cX8_takesNumber 96 = .ok (.if_icmp .le 9, 3) := by decide +kernel
theorem dX8_takesNumber_99 : decode cX8_takesNumber 99 = .ok (.aload_n 0, 1) := by decide +kernel
theorem dX8_takesNumber_100 : decode cX8_takesNumber 100 = .ok (.iconst 2, 1) := by decide +kernel
theorem dX8_takesNumber_101 : decode cX8_takesNumber 101 = .ok (.invokevirtual 49, 3) := by decide +kernel
theorem dX8_takesNumber_104 : decode cX8_takesNumber 104 = .ok (.ireturn, 1) := by decide +kernel
theorem dX8_takesNumber_105 : decode cX8_takesNumber 105 = .ok (.aload_n 0, 1) := by decide +kernel
theorem dX8_takesNumber_106 : decode cX8_takesNumber 106 = .ok (.iload_n 3, 1) := by decide +kernel
theorem dX8_takesNumber_107 : decode cX8_takesNumber 107 = .ok (.putfield 13, 3) := by decide +kernel
theorem dX8_takesNumber_110 : decode cX8_takesNumber 110 = .ok (.aload_n 0, 1) := by decide +kernel
theorem dX8_takesNumber_111 : decode cX8_takesNumber 111 = .ok (.iload 4, 2) := by decide +kernel
theorem dX8_takesNumber_113 : decode cX8_takesNumber 113 = .ok (.putfield 38, 3) := by decide +kernel
theorem dX8_takesNumber_116 : decode cX8_takesNumber 116 = .ok (.iconst 1, 1) := by decide +kernel
theorem dX8_takesNumber_117 : decode cX8_takesNumber 117 = .ok (.ireturn, 1) := by decide +kernel
theorem dX8_isFigure_0 : decode cX8_isFigure 0 = .ok (.iload_n 0, 1) := by decide +kernel
theorem dX8_isFigure_1 : decode cX8_isFigure 1 = .ok (.bipush 48, 2) := by decide +kernel
theorem dX8_isFigure_3 : decode cX8_isFigure 3 = .ok (.if_icmp .lt 13, 3) := by decide +kernel
theorem dX8_isFigure_6 : decode cX8_isFigure 6 = .ok (.iload_n 0, 1) := by decide +kernel
theorem dX8_isFigure_7 : decode cX8_isFigure 7 = .ok (.bipush 57, 2) := by decide +kernel
theorem dX8_isFigure_9 : decode cX8_isFigure 9 = .ok (.if_icmp .gt 7, 3) := by decide +kernel
theorem dX8_isFigure_12 : decode cX8_isFigure 12 = .ok (.iconst 1, 1) := by decide +kernel
theorem dX8_isFigure_13 : decode cX8_isFigure 13 = .ok (.goto 4, 3) := by decide +kernel
theorem dX8_isFigure_16 : decode cX8_isFigure 16 = .ok (.iconst 0, 1) := by decide +kernel
theorem dX8_isFigure_17 : decode cX8_isFigure 17 = .ok (.ireturn, 1) := by decide +kernel
theorem dX8_refuses_0 : decode cX8_refuses 0 = .ok (.aload_n 0, 1) := by decide +kernel
theorem dX8_refuses_1 : decode cX8_refuses 1 = .ok (.iload_n 1, 1) := by decide +kernel
theorem dX8_refuses_2 : decode cX8_refuses 2 = .ok (.putfield 77, 3) := by decide +kernel
theorem dX8_refuses_5 : decode cX8_refuses 5 = .ok (.iconst 0, 1) := by decide +kernel
theorem dX8_refuses_6 : decode cX8_refuses 6 = .ok (.ireturn, 1) := by decide +kernel
theorem dX9_init_0 : decode cX9_init 0 = .ok (.aload_n 0, 1) := by decide +kernel
theorem dX9_init_1 : decode cX9_init 1 = .ok (.invokespecial 1, 3) := by decide +kernel
theorem dX9_init_4 : decode cX9_init 4 = .ok (.aload_n 0, 1) := by decide +kernel
theorem dX9_init_5 : decode cX9_init 5 = .ok (.bipush 16, 2) := by decide +kernel
theorem dX9_init_7 : decode cX9_init 7 = .ok (.newarray .int, 2) := by decide +kernel
theorem dX9_init_9 : decode cX9_init 9 = .ok (.putfield 9, 3) := by decide +kernel
theorem dX9_init_12 : decode cX9_init 12 = .ok (.return_, 1) := by decide +kernel
theorem dX9_leave_0 : decode cX9_leave 0 = .ok (.aload_n 0, 1) := by decide +kernel
theorem dX9_leave_1 : decode cX9_leave 1 = .ok (.getfield 13, 3) := by decide +kernel
theorem dX9_leave_4 : decode cX9_leave 4 = .ok (.bipush 16, 2) := by decide +kernel
theorem dX9_leave_6 : decode cX9_leave 6 = .ok (.if_icmp .ge 23, 3) := by decide +kernel
theorem dX9_leave_9 : decode cX9_leave 9 = .ok (.aload_n 0, 1) := by decide +kernel
theorem dX9_leave_10 : decode cX9_leave 10 = .ok (.getfield 9, 3) := by decide +kernel
theorem dX9_leave_13 : decode cX9_leave 13 = .ok (.aload_n 0, 1) := by decide +kernel
theorem dX9_leave_14 : decode cX9_leave 14 = .ok (.getfield 13, 3) := by decide +kernel
theorem dX9_leave_17 : decode cX9_leave 17 = .ok (.iload_n 1, 1) := by decide +kernel
theorem dX9_leave_18 : decode cX9_leave 18 = .ok (.iastore, 1) := by decide +kernel
theorem dX9_leave_19 : decode cX9_leave 19 = .ok (.aload_n 0, 1) := by decide +kernel
theorem dX9_leave_20 : decode cX9_leave 20 = .ok (.dup, 1) := by decide +kernel
theorem dX9_leave_21 : decode cX9_leave 21 = .ok (.getfield 13, 3) := by decide +kernel
theorem dX9_leave_24 : decode cX9_leave 24 = .ok (.iconst 1, 1) := by decide +kernel
theorem dX9_leave_25 : decode cX9_leave 25 = .ok (.iadd, 1) := by decide +kernel
theorem dX9_leave_26 : decode cX9_leave 26 = .ok (.putfield 13, 3) := by decide +kernel
theorem dX9_leave_29 : decode cX9_leave 29 = .ok (.return_, 1) := by decide +kernel
theorem dX10_init_0 : decode cX10_init 0 = .ok (.aload_n 0, 1) := by decide +kernel
theorem dX10_init_1 : decode cX10_init 1 = .ok (.invokespecial 1, 3) := by decide +kernel
theorem dX10_init_4 : decode cX10_init 4 = .ok (.return_, 1) := by decide +kernel
theorem dX10_size_0 : decode cX10_size 0 = .ok (.aload_n 3, 1) := by decide +kernel
theorem dX10_size_1 : decode cX10_size 1 = .ok (.bipush 12, 2) := by decide +kernel
theorem dX10_size_3 : decode cX10_size 3 = .ok (.invokevirtual 7, 3) := by decide +kernel
theorem dX10_size_6 : decode cX10_size 6 = .ok (.iconst 0, 1) := by decide +kernel
theorem dX10_size_7 : decode cX10_size 7 = .ok (.aload_n 0, 1) := by decide +kernel
theorem dX10_size_8 : decode cX10_size 8 = .ok (.aload_n 1, 1) := by decide +kernel
theorem dX10_size_9 : decode cX10_size 9 = .ok (.iload_n 2, 1) := by decide +kernel
theorem dX10_size_10 : decode cX10_size 10 = .ok (.aload_n 3, 1) := by decide +kernel
theorem dX10_size_11 : decode cX10_size 11 = .ok (.invokespecial 13, 3) := by decide +kernel
theorem dX10_size_14 : decode cX10_size 14 = .ok (.isub, 1) := by decide +kernel
theorem dX10_size_15 : decode cX10_size 15 = .ok (.ireturn, 1) := by decide +kernel
theorem dX10_mark_0 : decode cX10_mark 0 = .ok (.aload_n 3, 1) := by decide +kernel
theorem dX10_mark_1 : decode cX10_mark 1 = .ok (.bipush 24, 2) := by decide +kernel
theorem dX10_mark_3 : decode cX10_mark 3 = .ok (.invokevirtual 7, 3) := by decide +kernel
theorem dX10_mark_6 : decode cX10_mark 6 = .ok (.aload_n 0, 1) := by decide +kernel
theorem dX10_mark_7 : decode cX10_mark 7 = .ok (.aload_n 1, 1) := by decide +kernel
theorem dX10_mark_8 : decode cX10_mark 8 = .ok (.iload_n 2, 1) := by decide +kernel
theorem dX10_mark_9 : decode cX10_mark 9 = .ok (.aload_n 3, 1) := by decide +kernel
theorem dX10_mark_10 : decode cX10_mark 10 = .ok (.invokespecial 17, 3) := by decide +kernel
theorem dX10_mark_13 : decode cX10_mark 13 = .ok (.iconst 2, 1) := by decide +kernel
theorem dX10_mark_14 : decode cX10_mark 14 = .ok (.imul, 1) := by decide +kernel
theorem dX10_mark_15 : decode cX10_mark 15 = .ok (.ireturn, 1) := by decide +kernel
theorem dX11_init_0 : decode cX11_init 0 = .ok (.aload_n 0, 1) := by decide +kernel
theorem dX11_init_1 : decode cX11_init 1 = .ok (.invokespecial 1, 3) := by decide +kernel
theorem dX11_init_4 : decode cX11_init 4 = .ok (.aload_n 0, 1) := by decide +kernel
theorem dX11_init_5 : decode cX11_init 5 = .ok (.bipush 8, 2) := by decide +kernel
theorem dX11_init_7 : decode cX11_init 7 = .ok (.anewarray 9, 3) := by decide +kernel
theorem dX11_init_10 : decode cX11_init 10 = .ok (.putfield 11, 3) := by decide +kernel
theorem dX11_init_13 : decode cX11_init 13 = .ok (.aload_n 0, 1) := by decide +kernel
theorem dX11_init_14 : decode cX11_init 14 = .ok (.new 15, 3) := by decide +kernel
theorem dX11_init_17 : decode cX11_init 17 = .ok (.dup, 1) := by decide +kernel
theorem dX11_init_18 : decode cX11_init 18 = .ok (.invokespecial 17, 3) := by decide +kernel
theorem dX11_init_21 : decode cX11_init 21 = .ok (.putfield 18, 3) := by decide +kernel
theorem dX11_init_24 : decode cX11_init 24 = .ok (.aload_n 0, 1) := by decide +kernel
theorem dX11_init_25 : decode cX11_init 25 = .ok (.new 22, 3) := by decide +kernel
theorem dX11_init_28 : decode cX11_init 28 = .ok (.dup, 1) := by decide +kernel
theorem dX11_init_29 : decode cX11_init 29 = .ok (.invokespecial 24, 3) := by decide +kernel
theorem dX11_init_32 : decode cX11_init 32 = .ok (.putfield 25, 3) := by decide +kernel
theorem dX11_init_35 : decode cX11_init 35 = .ok (.aload_n 0, 1) := by decide +kernel
theorem dX11_init_36 : decode cX11_init 36 = .ok (.new 22, 3) := by decide +kernel
theorem dX11_init_39 : decode cX11_init 39 = .ok (.dup, 1) := by decide +kernel
theorem dX11_init_40 : decode cX11_init 40 = .ok (.invokespecial 24, 3) := by decide +kernel
theorem dX11_init_43 : decode cX11_init 43 = .ok (.putfield 29, 3) := by decide +kernel
theorem dX11_init_46 : decode cX11_init 46 = .ok (.aload_n 0, 1) := by decide +kernel
theorem dX11_init_47 : decode cX11_init 47 = .ok (.iconst 2, 1) := by decide +kernel
theorem dX11_init_48 : decode cX11_init 48 = .ok (.anewarray 22, 3) := by decide +kernel
theorem dX11_init_51 : decode cX11_init 51 = .ok (.putfield 32, 3) := by decide +kernel
theorem dX11_init_54 : decode cX11_init 54 = .ok (.aload_n 0, 1) := by decide +kernel
theorem dX11_init_55 : decode cX11_init 55 = .ok (.iconst 2, 1) := by decide +kernel
theorem dX11_init_56 : decode cX11_init 56 = .ok (.newarray .boolean, 2) := by decide +kernel
theorem dX11_init_58 : decode cX11_init 58 = .ok (.putfield 36, 3) := by decide +kernel
theorem dX11_init_61 : decode cX11_init 61 = .ok (.aload_n 0, 1) := by decide +kernel
theorem dX11_init_62 : decode cX11_init 62 = .ok (.new 40, 3) := by decide +kernel
theorem dX11_init_65 : decode cX11_init 65 = .ok (.dup, 1) := by decide +kernel
theorem dX11_init_66 : decode cX11_init 66 = .ok (.invokespecial 42, 3) := by decide +kernel
theorem dX11_init_69 : decode cX11_init 69 = .ok (.putfield 43, 3) := by decide +kernel
theorem dX11_init_72 : decode cX11_init 72 = .ok (.aload_n 0, 1) := by decide +kernel
theorem dX11_init_73 : decode cX11_init 73 = .ok (.iconst 5, 1) := by decide +kernel
theorem dX11_init_74 : decode cX11_init 74 = .ok (.anewarray 47, 3) := by decide +kernel
theorem dX11_init_77 : decode cX11_init 77 = .ok (.dup, 1) := by decide +kernel
theorem dX11_init_78 : decode cX11_init 78 = .ok (.iconst 0, 1) := by decide +kernel
theorem dX11_init_79 : decode cX11_init 79 = .ok (.new 49, 3) := by decide +kernel
theorem dX11_init_82 : decode cX11_init 82 = .ok (.dup, 1) := by decide +kernel
theorem dX11_init_83 : decode cX11_init 83 = .ok (.invokespecial 51, 3) := by decide +kernel
theorem dX11_init_86 : decode cX11_init 86 = .ok (.aastore, 1) := by decide +kernel
theorem dX11_init_87 : decode cX11_init 87 = .ok (.dup, 1) := by decide +kernel
theorem dX11_init_88 : decode cX11_init 88 = .ok (.iconst 1, 1) := by decide +kernel
theorem dX11_init_89 : decode cX11_init 89 = .ok (.new 52, 3) := by decide +kernel
theorem dX11_init_92 : decode cX11_init 92 = .ok (.dup, 1) := by decide +kernel
theorem dX11_init_93 : decode cX11_init 93 = .ok (.invokespecial 54, 3) := by decide +kernel
theorem dX11_init_96 : decode cX11_init 96 = .ok (.aastore, 1) := by decide +kernel
theorem dX11_init_97 : decode cX11_init 97 = .ok (.dup, 1) := by decide +kernel
theorem dX11_init_98 : decode cX11_init 98 = .ok (.iconst 2, 1) := by decide +kernel
theorem dX11_init_99 : decode cX11_init 99 = .ok (.new 55, 3) := by decide +kernel
theorem dX11_init_102 : decode cX11_init 102 = .ok (.dup, 1) := by decide +kernel
theorem dX11_init_103 : decode cX11_init 103 = .ok (.invokespecial 57, 3) := by decide +kernel
theorem dX11_init_106 : decode cX11_init 106 = .ok (.aastore, 1) := by decide +kernel
theorem dX11_init_107 : decode cX11_init 107 = .ok (.dup, 1) := by decide +kernel
theorem dX11_init_108 : decode cX11_init 108 = .ok (.iconst 3, 1) := by decide +kernel
theorem dX11_init_109 : decode cX11_init 109 = .ok (.new 58, 3) := by decide +kernel
theorem dX11_init_112 : decode cX11_init 112 = .ok (.dup, 1) := by decide +kernel
theorem dX11_init_113 : decode cX11_init 113 = .ok (.invokespecial 60, 3) := by decide +kernel
theorem dX11_init_116 : decode cX11_init 116 = .ok (.aastore, 1) := by decide +kernel
theorem dX11_init_117 : decode cX11_init 117 = .ok (.dup, 1) := by decide +kernel
theorem dX11_init_118 : decode cX11_init 118 = .ok (.iconst 4, 1) := by decide +kernel
theorem dX11_init_119 : decode cX11_init 119 = .ok (.new 61, 3) := by decide +kernel
theorem dX11_init_122 : decode cX11_init 122 = .ok (.dup, 1) := by decide +kernel
theorem dX11_init_123 : decode cX11_init 123 = .ok (.invokespecial 63, 3) := by decide +kernel
theorem dX11_init_126 : decode cX11_init 126 = .ok (.aastore, 1) := by decide +kernel
theorem dX11_init_127 : decode cX11_init 127 = .ok (.putfield 64, 3) := by decide +kernel
theorem dX11_init_130 : decode cX11_init 130 = .ok (.aload_n 0, 1) := by decide +kernel
theorem dX11_init_131 : decode cX11_init 131 = .ok (.new 68, 3) := by decide +kernel
theorem dX11_init_134 : decode cX11_init 134 = .ok (.dup, 1) := by decide +kernel
theorem dX11_init_135 : decode cX11_init 135 = .ok (.invokespecial 70, 3) := by decide +kernel
theorem dX11_init_138 : decode cX11_init 138 = .ok (.putfield 71, 3) := by decide +kernel
theorem dX11_init_141 : decode cX11_init 141 = .ok (.iconst 0, 1) := by decide +kernel
theorem dX11_init_142 : decode cX11_init 142 = .ok (.istore_n 1, 1) := by decide +kernel
theorem dX11_init_143 : decode cX11_init 143 = .ok (.iload_n 1, 1) := by decide +kernel
theorem dX11_init_144 : decode cX11_init 144 = .ok (.bipush 8, 2) := by decide +kernel
theorem dX11_init_146 : decode cX11_init 146 = .ok (.if_icmp .ge 22, 3) := by decide +kernel
theorem dX11_init_149 : decode cX11_init 149 = .ok (.aload_n 0, 1) := by decide +kernel
theorem dX11_init_150 : decode cX11_init 150 = .ok (.getfield 11, 3) := by decide +kernel
theorem dX11_init_153 : decode cX11_init 153 = .ok (.iload_n 1, 1) := by decide +kernel
theorem dX11_init_154 : decode cX11_init 154 = .ok (.new 9, 3) := by decide +kernel
theorem dX11_init_157 : decode cX11_init 157 = .ok (.dup, 1) := by decide +kernel
theorem dX11_init_158 : decode cX11_init 158 = .ok (.invokespecial 75, 3) := by decide +kernel
theorem dX11_init_161 : decode cX11_init 161 = .ok (.aastore, 1) := by decide +kernel
theorem dX11_init_162 : decode cX11_init 162 = .ok (.iinc 1 1, 3) := by decide +kernel
theorem dX11_init_165 : decode cX11_init 165 = .ok (.goto (-22), 3) := by decide +kernel
theorem dX11_init_168 : decode cX11_init 168 = .ok (.iconst 0, 1) := by decide +kernel
theorem dX11_init_169 : decode cX11_init 169 = .ok (.istore_n 1, 1) := by decide +kernel
theorem dX11_init_170 : decode cX11_init 170 = .ok (.iload_n 1, 1) := by decide +kernel
theorem dX11_init_171 : decode cX11_init 171 = .ok (.iconst 2, 1) := by decide +kernel
theorem dX11_init_172 : decode cX11_init 172 = .ok (.if_icmp .ge 22, 3) := by decide +kernel
theorem dX11_init_175 : decode cX11_init 175 = .ok (.aload_n 0, 1) := by decide +kernel
theorem dX11_init_176 : decode cX11_init 176 = .ok (.getfield 32, 3) := by decide +kernel
theorem dX11_init_179 : decode cX11_init 179 = .ok (.iload_n 1, 1) := by decide +kernel
theorem dX11_init_180 : decode cX11_init 180 = .ok (.new 22, 3) := by decide +kernel
theorem dX11_init_183 : decode cX11_init 183 = .ok (.dup, 1) := by decide +kernel
theorem dX11_init_184 : decode cX11_init 184 = .ok (.invokespecial 24, 3) := by decide +kernel
theorem dX11_init_187 : decode cX11_init 187 = .ok (.aastore, 1) := by decide +kernel
theorem dX11_init_188 : decode cX11_init 188 = .ok (.iinc 1 1, 3) := by decide +kernel
theorem dX11_init_191 : decode cX11_init 191 = .ok (.goto (-21), 3) := by decide +kernel
theorem dX11_init_194 : decode cX11_init 194 = .ok (.return_, 1) := by decide +kernel
theorem dX11_row_0 : decode cX11_row 0 = .ok (.iload_n 1, 1) := by decide +kernel
theorem dX11_row_1 : decode cX11_row 1 = .ok (.invokestatic 76, 3) := by decide +kernel
theorem dX11_row_4 : decode cX11_row 4 = .ok (.ifCond .eq 18, 3) := by decide +kernel
theorem dX11_row_7 : decode cX11_row 7 = .ok (.iload_n 2, 1) := by decide +kernel
theorem dX11_row_8 : decode cX11_row 8 = .ok (.iconst 0, 1) := by decide +kernel
theorem dX11_row_9 : decode cX11_row 9 = .ok (.iconst 2, 1) := by decide +kernel
theorem dX11_row_10 : decode cX11_row 10 = .ok (.invokestatic 80, 3) := by decide +kernel
theorem dX11_row_13 : decode cX11_row 13 = .ok (.ifCond .eq 9, 3) := by decide +kernel
theorem dX11_row_16 : decode cX11_row 16 = .ok (.iload_n 3, 1) := by decide +kernel
theorem dX11_row_17 : decode cX11_row 17 = .ok (.bipush 40, 2) := by decide +kernel
theorem dX11_row_19 : decode cX11_row 19 = .ok (.if_icmp .le 6, 3) := by decide +kernel
theorem dX11_row_22 : decode cX11_row 22 = .ok (.ldc 84, 2) := by decide +kernel
theorem dX11_row_24 : decode cX11_row 24 = .ok (.ireturn, 1) := by decide +kernel
theorem dX11_row_25 : decode cX11_row 25 = .ok (.iload_n 3, 1) := by decide +kernel
theorem dX11_row_26 : decode cX11_row 26 = .ok (.ifCond .ge 9, 3) := by decide +kernel
theorem dX11_row_29 : decode cX11_row 29 = .ok (.aload_n 0, 1) := by decide +kernel
theorem dX11_row_30 : decode cX11_row 30 = .ok (.iconst 4, 1) := by decide +kernel
theorem dX11_row_31 : decode cX11_row 31 = .ok (.invokevirtual 85, 3) := by decide +kernel
theorem dX11_row_34 : decode cX11_row 34 = .ok (.ireturn, 1) := by decide +kernel
theorem dX11_row_35 : decode cX11_row 35 = .ok (.aload_n 0, 1) := by decide +kernel
theorem dX11_row_36 : decode cX11_row 36 = .ok (.getfield 11, 3) := by decide +kernel
theorem dX11_row_39 : decode cX11_row 39 = .ok (.iload_n 1, 1) := by decide +kernel
theorem dX11_row_40 : decode cX11_row 40 = .ok (.aaload, 1) := by decide +kernel
theorem dX11_row_41 : decode cX11_row 41 = .ok (.iload_n 2, 1) := by decide +kernel
theorem dX11_row_42 : decode cX11_row 42 = .ok (.iload_n 3, 1) := by decide +kernel
theorem dX11_row_43 : decode cX11_row 43 = .ok (.invokevirtual 89, 3) := by decide +kernel
theorem dX11_row_46 : decode cX11_row 46 = .ok (.aload_n 0, 1) := by decide +kernel
theorem dX11_row_47 : decode cX11_row 47 = .ok (.iload_n 3, 1) := by decide +kernel
theorem dX11_row_48 : decode cX11_row 48 = .ok (.invokevirtual 93, 3) := by decide +kernel
theorem dX11_row_51 : decode cX11_row 51 = .ok (.ireturn, 1) := by decide +kernel
theorem dX11_set_0 : decode cX11_set 0 = .ok (.iload_n 1, 1) := by decide +kernel
theorem dX11_set_1 : decode cX11_set 1 = .ok (.invokestatic 76, 3) := by decide +kernel
theorem dX11_set_4 : decode cX11_set 4 = .ok (.ifCond .ne 6, 3) := by decide +kernel
theorem dX11_set_7 : decode cX11_set 7 = .ok (.ldc 84, 2) := by decide +kernel
theorem dX11_set_9 : decode cX11_set 9 = .ok (.ireturn, 1) := by decide +kernel
theorem dX11_set_10 : decode cX11_set 10 = .ok (.aload_n 0, 1) := by decide +kernel
theorem dX11_set_11 : decode cX11_set 11 = .ok (.getfield 11, 3) := by decide +kernel
theorem dX11_set_14 : decode cX11_set 14 = .ok (.iload_n 1, 1) := by decide +kernel
theorem dX11_set_15 : decode cX11_set 15 = .ok (.aaload, 1) := by decide +kernel
theorem dX11_set_16 : decode cX11_set 16 = .ok (.astore 4, 2) := by decide +kernel
theorem dX11_set_18 : decode cX11_set 18 = .ok (.aload 4, 2) := by decide +kernel
theorem dX11_set_20 : decode cX11_set 20 = .ok (.invokevirtual 96, 3) := by decide +kernel
theorem dX11_set_23 : decode cX11_set 23 = .ok (.ifCond .eq 9, 3) := by decide +kernel
theorem dX11_set_26 : decode cX11_set 26 = .ok (.aload_n 0, 1) := by decide +kernel
theorem dX11_set_27 : decode cX11_set 27 = .ok (.iconst 1, 1) := by decide +kernel
theorem dX11_set_28 : decode cX11_set 28 = .ok (.invokevirtual 85, 3) := by decide +kernel
theorem dX11_set_31 : decode cX11_set 31 = .ok (.ireturn, 1) := by decide +kernel
theorem dX11_set_32 : decode cX11_set 32 = .ok (.aload 4, 2) := by decide +kernel
theorem dX11_set_34 : decode cX11_set 34 = .ok (.iload_n 2, 1) := by decide +kernel
theorem dX11_set_35 : decode cX11_set 35 = .ok (.iconst 1, 1) := by decide +kernel
theorem dX11_set_36 : decode cX11_set 36 = .ok (.invokevirtual 100, 3) := by decide +kernel
theorem dX11_set_39 : decode cX11_set 39 = .ok (.ifCond .ne 9, 3) := by decide +kernel
theorem dX11_set_42 : decode cX11_set 42 = .ok (.aload_n 0, 1) := by decide +kernel
theorem dX11_set_43 : decode cX11_set 43 = .ok (.iconst 2, 1) := by decide +kernel
theorem dX11_set_44 : decode cX11_set 44 = .ok (.invokevirtual 85, 3) := by decide +kernel
theorem dX11_set_47 : decode cX11_set 47 = .ok (.ireturn, 1) := by decide +kernel
theorem dX11_set_48 : decode cX11_set 48 = .ok (.aload 4, 2) := by decide +kernel
theorem dX11_set_50 : decode cX11_set 50 = .ok (.getfield 104, 3) := by decide +kernel
theorem dX11_set_53 : decode cX11_set 53 = .ok (.iload_n 2, 1) := by decide +kernel
theorem dX11_set_54 : decode cX11_set 54 = .ok (.aload 4, 2) := by decide +kernel
theorem dX11_set_56 : decode cX11_set 56 = .ok (.iload_n 3, 1) := by decide +kernel
theorem dX11_set_57 : decode cX11_set 57 = .ok (.invokevirtual 108, 3) := by decide +kernel
theorem dX11_set_60 : decode cX11_set 60 = .ok (.iastore, 1) := by decide +kernel
theorem dX11_set_61 : decode cX11_set 61 = .ok (.aload_n 0, 1) := by decide +kernel
theorem dX11_set_62 : decode cX11_set 62 = .ok (.aload 4, 2) := by decide +kernel
theorem dX11_set_64 : decode cX11_set 64 = .ok (.getfield 104, 3) := by decide +kernel
theorem dX11_set_67 : decode cX11_set 67 = .ok (.iload_n 2, 1) := by decide +kernel
theorem dX11_set_68 : decode cX11_set 68 = .ok (.iaload, 1) := by decide +kernel
theorem dX11_set_69 : decode cX11_set 69 = .ok (.invokevirtual 93, 3) := by decide +kernel
theorem dX11_set_72 : decode cX11_set 72 = .ok (.ireturn, 1) := by decide +kernel
theorem dX11_copy_0 : decode cX11_copy 0 = .ok (.iload_n 1, 1) := by decide +kernel
theorem dX11_copy_1 : decode cX11_copy 1 = .ok (.invokestatic 76, 3) := by decide +kernel
theorem dX11_copy_4 : decode cX11_copy 4 = .ok (.ifCond .eq 10, 3) := by decide +kernel
theorem dX11_copy_7 : decode cX11_copy 7 = .ok (.iload_n 3, 1) := by decide +kernel
theorem dX11_copy_8 : decode cX11_copy 8 = .ok (.invokestatic 76, 3) := by decide +kernel
theorem dX11_copy_11 : decode cX11_copy 11 = .ok (.ifCond .ne 6, 3) := by decide +kernel
theorem dX11_copy_14 : decode cX11_copy 14 = .ok (.ldc 84, 2) := by decide +kernel
theorem dX11_copy_16 : decode cX11_copy 16 = .ok (.ireturn, 1) := by decide +kernel
theorem dX11_copy_17 : decode cX11_copy 17 = .ok (.aload_n 0, 1) := by decide +kernel
theorem dX11_copy_18 : decode cX11_copy 18 = .ok (.getfield 11, 3) := by decide +kernel
theorem dX11_copy_21 : decode cX11_copy 21 = .ok (.iload_n 1, 1) := by decide +kernel
theorem dX11_copy_22 : decode cX11_copy 22 = .ok (.aaload, 1) := by decide +kernel
theorem dX11_copy_23 : decode cX11_copy 23 = .ok (.astore 6, 2) := by decide +kernel
theorem dX11_copy_25 : decode cX11_copy 25 = .ok (.aload_n 0, 1) := by decide +kernel
theorem dX11_copy_26 : decode cX11_copy 26 = .ok (.getfield 11, 3) := by decide +kernel
theorem dX11_copy_29 : decode cX11_copy 29 = .ok (.iload_n 3, 1) := by decide +kernel
theorem dX11_copy_30 : decode cX11_copy 30 = .ok (.aaload, 1) := by decide +kernel
theorem dX11_copy_31 : decode cX11_copy 31 = .ok (.astore 7, 2) := by decide +kernel
theorem dX11_copy_33 : decode cX11_copy 33 = .ok (.aload 6, 2) := by decide +kernel
theorem dX11_copy_35 : decode cX11_copy 35 = .ok (.invokevirtual 96, 3) := by decide +kernel
theorem dX11_copy_38 : decode cX11_copy 38 = .ok (.ifCond .ne 11, 3) := by decide +kernel
theorem dX11_copy_41 : decode cX11_copy 41 = .ok (.aload 7, 2) := by decide +kernel
theorem dX11_copy_43 : decode cX11_copy 43 = .ok (.invokevirtual 96, 3) := by decide +kernel
theorem dX11_copy_46 : decode cX11_copy 46 = .ok (.ifCond .eq 9, 3) := by decide +kernel
theorem dX11_copy_49 : decode cX11_copy 49 = .ok (.aload_n 0, 1) := by decide +kernel
theorem dX11_copy_50 : decode cX11_copy 50 = .ok (.iconst 1, 1) := by decide +kernel
theorem dX11_copy_51 : decode cX11_copy 51 = .ok (.invokevirtual 85, 3) := by decide +kernel
theorem dX11_copy_54 : decode cX11_copy 54 = .ok (.ireturn, 1) := by decide +kernel
theorem dX11_copy_55 : decode cX11_copy 55 = .ok (.aload 6, 2) := by decide +kernel
theorem dX11_copy_57 : decode cX11_copy 57 = .ok (.getfield 111, 3) := by decide +kernel
theorem dX11_copy_60 : decode cX11_copy 60 = .ok (.aload 7, 2) := by decide +kernel
theorem dX11_copy_62 : decode cX11_copy 62 = .ok (.getfield 111, 3) := by decide +kernel
theorem dX11_copy_65 : decode cX11_copy 65 = .ok (.if_icmp .eq 9, 3) := by decide +kernel
theorem dX11_copy_68 : decode cX11_copy 68 = .ok (.aload_n 0, 1) := by decide +kernel
theorem dX11_copy_69 : decode cX11_copy 69 = .ok (.iconst 5, 1) := by decide +kernel
theorem dX11_copy_70 : decode cX11_copy 70 = .ok (.invokevirtual 85, 3) := by decide +kernel
theorem dX11_copy_73 : decode cX11_copy 73 = .ok (.ireturn, 1) := by decide +kernel
theorem dX11_copy_74 : decode cX11_copy 74 = .ok (.aload 6, 2) := by decide +kernel
theorem dX11_copy_76 : decode cX11_copy 76 = .ok (.iload_n 2, 1) := by decide +kernel
theorem dX11_copy_77 : decode cX11_copy 77 = .ok (.iload 5, 2) := by decide +kernel
theorem dX11_copy_79 : decode cX11_copy 79 = .ok (.invokevirtual 100, 3) := by decide +kernel
theorem dX11_copy_82 : decode cX11_copy 82 = .ok (.ifCond .eq 15, 3) := by decide +kernel
theorem dX11_copy_85 : decode cX11_copy 85 = .ok (.aload 7, 2) := by decide +kernel
theorem dX11_copy_87 : decode cX11_copy 87 = .ok (.iload 4, 2) := by decide +kernel
theorem dX11_copy_89 : decode cX11_copy 89 = .ok (.iload 5, 2) := by decide +kernel
theorem dX11_copy_91 : decode cX11_copy 91 = .ok (.invokevirtual 100, 3) := by decide +kernel
theorem dX11_copy_94 : decode cX11_copy 94 = .ok (.ifCond .ne 9, 3) := by decide +kernel
theorem dX11_copy_97 : decode cX11_copy 97 = .ok (.aload_n 0, 1) := by decide +kernel
theorem dX11_copy_98 : decode cX11_copy 98 = .ok (.iconst 2, 1) := by decide +kernel
theorem dX11_copy_99 : decode cX11_copy 99 = .ok (.invokevirtual 85, 3) := by decide +kernel
theorem dX11_copy_102 : decode cX11_copy 102 = .ok (.ireturn, 1) := by decide +kernel
theorem dX11_copy_103 : decode cX11_copy 103 = .ok (.aload 6, 2) := by decide +kernel
theorem dX11_copy_105 : decode cX11_copy 105 = .ok (.getfield 104, 3) := by decide +kernel
theorem dX11_copy_108 : decode cX11_copy 108 = .ok (.iload_n 2, 1) := by decide +kernel
theorem dX11_copy_109 : decode cX11_copy 109 = .ok (.aload 7, 2) := by decide +kernel
theorem dX11_copy_111 : decode cX11_copy 111 = .ok (.getfield 104, 3) := by decide +kernel
theorem dX11_copy_114 : decode cX11_copy 114 = .ok (.iload 4, 2) := by decide +kernel
theorem dX11_copy_116 : decode cX11_copy 116 = .ok (.iload 5, 2) := by decide +kernel
theorem dX11_copy_118 : decode cX11_copy 118 = .ok (.invokestatic 115, 3) := by decide +kernel
theorem dX11_copy_121 : decode cX11_copy 121 = .ok (.aload_n 0, 1) := by decide +kernel
theorem dX11_copy_122 : decode cX11_copy 122 = .ok (.iload 5, 2) := by decide +kernel
theorem dX11_copy_124 : decode cX11_copy 124 = .ok (.invokevirtual 93, 3) := by decide +kernel
theorem dX11_copy_127 : decode cX11_copy 127 = .ok (.ireturn, 1) := by decide +kernel
theorem dX11_drop_0 : decode cX11_drop 0 = .ok (.iload_n 1, 1) := by decide +kernel
theorem dX11_drop_1 : decode cX11_drop 1 = .ok (.invokestatic 76, 3) := by decide +kernel
theorem dX11_drop_4 : decode cX11_drop 4 = .ok (.ifCond .ne 6, 3) := by decide +kernel
theorem dX11_drop_7 : decode cX11_drop 7 = .ok (.ldc 84, 2) := by decide +kernel
theorem dX11_drop_9 : decode cX11_drop 9 = .ok (.ireturn, 1) := by decide +kernel
theorem dX11_drop_10 : decode cX11_drop 10 = .ok (.aload_n 0, 1) := by decide +kernel
theorem dX11_drop_11 : decode cX11_drop 11 = .ok (.getfield 11, 3) := by decide +kernel
theorem dX11_drop_14 : decode cX11_drop 14 = .ok (.iload_n 1, 1) := by decide +kernel
theorem dX11_drop_15 : decode cX11_drop 15 = .ok (.aaload, 1) := by decide +kernel
theorem dX11_drop_16 : decode cX11_drop 16 = .ok (.invokevirtual 96, 3) := by decide +kernel
theorem dX11_drop_19 : decode cX11_drop 19 = .ok (.ifCond .eq 9, 3) := by decide +kernel
theorem dX11_drop_22 : decode cX11_drop 22 = .ok (.aload_n 0, 1) := by decide +kernel
theorem dX11_drop_23 : decode cX11_drop 23 = .ok (.iconst 1, 1) := by decide +kernel
theorem dX11_drop_24 : decode cX11_drop 24 = .ok (.invokevirtual 85, 3) := by decide +kernel
theorem dX11_drop_27 : decode cX11_drop 27 = .ok (.ireturn, 1) := by decide +kernel
theorem dX11_drop_28 : decode cX11_drop 28 = .ok (.aload_n 0, 1) := by decide +kernel
theorem dX11_drop_29 : decode cX11_drop 29 = .ok (.getfield 11, 3) := by decide +kernel
theorem dX11_drop_32 : decode cX11_drop 32 = .ok (.iload_n 1, 1) := by decide +kernel
theorem dX11_drop_33 : decode cX11_drop 33 = .ok (.aaload, 1) := by decide +kernel
theorem dX11_drop_34 : decode cX11_drop 34 = .ok (.getfield 121, 3) := by decide +kernel
theorem dX11_drop_37 : decode cX11_drop 37 = .ok (.istore_n 2, 1) := by decide +kernel
theorem dX11_drop_38 : decode cX11_drop 38 = .ok (.aload_n 0, 1) := by decide +kernel
theorem dX11_drop_39 : decode cX11_drop 39 = .ok (.getfield 11, 3) := by decide +kernel
theorem dX11_drop_42 : decode cX11_drop 42 = .ok (.iload_n 1, 1) := by decide +kernel
theorem dX11_drop_43 : decode cX11_drop 43 = .ok (.aaload, 1) := by decide +kernel
theorem dX11_drop_44 : decode cX11_drop 44 = .ok (.iconst (-1), 1) := by decide +kernel
theorem dX11_drop_45 : decode cX11_drop 45 = .ok (.putfield 111, 3) := by decide +kernel
theorem dX11_drop_48 : decode cX11_drop 48 = .ok (.aload_n 0, 1) := by decide +kernel
theorem dX11_drop_49 : decode cX11_drop 49 = .ok (.iload_n 2, 1) := by decide +kernel
theorem dX11_drop_50 : decode cX11_drop 50 = .ok (.invokevirtual 93, 3) := by decide +kernel
theorem dX11_drop_53 : decode cX11_drop 53 = .ok (.ireturn, 1) := by decide +kernel
theorem dX11_feed_0 : decode cX11_feed 0 = .ok (.iload_n 1, 1) := by decide +kernel
theorem dX11_feed_1 : decode cX11_feed 1 = .ok (.iconst 0, 1) := by decide +kernel
theorem dX11_feed_2 : decode cX11_feed 2 = .ok (.sipush 255, 3) := by decide +kernel
theorem dX11_feed_5 : decode cX11_feed 5 = .ok (.invokestatic 80, 3) := by decide +kernel
theorem dX11_feed_8 : decode cX11_feed 8 = .ok (.ifCond .ne 6, 3) := by decide +kernel
theorem dX11_feed_11 : decode cX11_feed 11 = .ok (.ldc 84, 2) := by decide +kernel
theorem dX11_feed_13 : decode cX11_feed 13 = .ok (.ireturn, 1) := by decide +kernel
theorem dX11_feed_14 : decode cX11_feed 14 = .ok (.aload_n 0, 1) := by decide +kernel
theorem dX11_feed_15 : decode cX11_feed 15 = .ok (.getfield 18, 3) := by decide +kernel
theorem dX11_feed_18 : decode cX11_feed 18 = .ok (.getfield 124, 3) := by decide +kernel
theorem dX11_feed_21 : decode cX11_feed 21 = .ok (.bipush 120, 2) := by decide +kernel
theorem dX11_feed_23 : decode cX11_feed 23 = .ok (.if_icmp .lt 6, 3) := by decide +kernel
theorem dX11_feed_26 : decode cX11_feed 26 = .ok (.ldc 125, 2) := by decide +kernel
theorem dX11_feed_28 : decode cX11_feed 28 = .ok (.ireturn, 1) := by decide +kernel
theorem dX11_feed_29 : decode cX11_feed 29 = .ok (.aload_n 0, 1) := by decide +kernel
theorem dX11_feed_30 : decode cX11_feed 30 = .ok (.getfield 18, 3) := by decide +kernel
theorem dX11_feed_33 : decode cX11_feed 33 = .ok (.getfield 126, 3) := by decide +kernel
theorem dX11_feed_36 : decode cX11_feed 36 = .ok (.aload_n 0, 1) := by decide +kernel
theorem dX11_feed_37 : decode cX11_feed 37 = .ok (.getfield 18, 3) := by decide +kernel
theorem dX11_feed_40 : decode cX11_feed 40 = .ok (.getfield 124, 3) := by decide +kernel
theorem dX11_feed_43 : decode cX11_feed 43 = .ok (.iload_n 1, 1) := by decide +kernel
theorem dX11_feed_44 : decode cX11_feed 44 = .ok (.iastore, 1) := by decide +kernel
theorem dX11_feed_45 : decode cX11_feed 45 = .ok (.aload_n 0, 1) := by decide +kernel
theorem dX11_feed_46 : decode cX11_feed 46 = .ok (.getfield 18, 3) := by decide +kernel
theorem dX11_feed_49 : decode cX11_feed 49 = .ok (.dup, 1) := by decide +kernel
theorem dX11_feed_50 : decode cX11_feed 50 = .ok (.getfield 124, 3) := by decide +kernel
theorem dX11_feed_53 : decode cX11_feed 53 = .ok (.iconst 1, 1) := by decide +kernel
theorem dX11_feed_54 : decode cX11_feed 54 = .ok (.iadd, 1) := by decide +kernel
theorem dX11_feed_55 : decode cX11_feed 55 = .ok (.putfield 124, 3) := by decide +kernel
theorem dX11_feed_58 : decode cX11_feed 58 = .ok (.aload_n 0, 1) := by decide +kernel
theorem dX11_feed_59 : decode cX11_feed 59 = .ok (.getfield 18, 3) := by decide +kernel
theorem dX11_feed_62 : decode cX11_feed 62 = .ok (.getfield 124, 3) := by decide +kernel
theorem dX11_feed_65 : decode cX11_feed 65 = .ok (.ireturn, 1) := by decide +kernel
theorem dX11_house_0 : decode cX11_house 0 = .ok (.aload_n 0, 1) := by decide +kernel
theorem dX11_house_1 : decode cX11_house 1 = .ok (.getfield 18, 3) := by decide +kernel
theorem dX11_house_4 : decode cX11_house 4 = .ok (.aload_n 0, 1) := by decide +kernel
theorem dX11_house_5 : decode cX11_house 5 = .ok (.getfield 29, 3) := by decide +kernel
theorem dX11_house_8 : decode cX11_house 8 = .ok (.invokevirtual 129, 3) := by decide +kernel
theorem dX11_house_11 : decode cX11_house 11 = .ok (.istore_n 1, 1) := by decide +kernel
theorem dX11_house_12 : decode cX11_house 12 = .ok (.aload_n 0, 1) := by decide +kernel
theorem dX11_house_13 : decode cX11_house 13 = .ok (.getfield 18, 3) := by decide +kernel
theorem dX11_house_16 : decode cX11_house 16 = .ok (.iconst 0, 1) := by decide +kernel
theorem dX11_house_17 : decode cX11_house 17 = .ok (.putfield 124, 3) := by decide +kernel
theorem dX11_house_20 : decode cX11_house 20 = .ok (.iload_n 1, 1) := by decide +kernel
theorem dX11_house_21 : decode cX11_house 21 = .ok (.ifCond .ne 25, 3) := by decide +kernel
theorem dX11_house_24 : decode cX11_house 24 = .ok (.aload_n 0, 1) := by decide +kernel
theorem dX11_house_25 : decode cX11_house 25 = .ok (.aload_n 0, 1) := by decide +kernel
theorem dX11_house_26 : decode cX11_house 26 = .ok (.getfield 18, 3) := by decide +kernel
theorem dX11_house_29 : decode cX11_house 29 = .ok (.getfield 133, 3) := by decide +kernel
theorem dX11_house_32 : decode cX11_house 32 = .ok (.putfield 136, 3) := by decide +kernel
theorem dX11_house_35 : decode cX11_house 35 = .ok (.ldc 139, 2) := by decide +kernel
theorem dX11_house_37 : decode cX11_house 37 = .ok (.aload_n 0, 1) := by decide +kernel
theorem dX11_house_38 : decode cX11_house 38 = .ok (.getfield 18, 3) := by decide +kernel
theorem dX11_house_41 : decode cX11_house 41 = .ok (.getfield 140, 3) := by decide +kernel
theorem dX11_house_44 : decode cX11_house 44 = .ok (.isub, 1) := by decide +kernel
theorem dX11_house_45 : decode cX11_house 45 = .ok (.ireturn, 1) := by decide +kernel
theorem dX11_house_46 : decode cX11_house 46 = .ok (.aload_n 0, 1) := by decide +kernel
theorem dX11_house_47 : decode cX11_house 47 = .ok (.getfield 25, 3) := by decide +kernel
theorem dX11_house_50 : decode cX11_house 50 = .ok (.aload_n 0, 1) := by decide +kernel
theorem dX11_house_51 : decode cX11_house 51 = .ok (.getfield 29, 3) := by decide +kernel
theorem dX11_house_54 : decode cX11_house 54 = .ok (.invokevirtual 143, 3) := by decide +kernel
theorem dX11_house_57 : decode cX11_house 57 = .ok (.aload_n 0, 1) := by decide +kernel
theorem dX11_house_58 : decode cX11_house 58 = .ok (.getfield 43, 3) := by decide +kernel
theorem dX11_house_61 : decode cX11_house 61 = .ok (.invokevirtual 146, 3) := by decide +kernel
theorem dX11_house_64 : decode cX11_house 64 = .ok (.aload_n 0, 1) := by decide +kernel
theorem dX11_house_65 : decode cX11_house 65 = .ok (.iconst 1, 1) := by decide +kernel
theorem dX11_house_66 : decode cX11_house 66 = .ok (.putfield 149, 3) := by decide +kernel
theorem dX11_house_69 : decode cX11_house 69 = .ok (.aload_n 0, 1) := by decide +kernel
theorem dX11_house_70 : decode cX11_house 70 = .ok (.getfield 25, 3) := by decide +kernel
theorem dX11_house_73 : decode cX11_house 73 = .ok (.getfield 153, 3) := by decide +kernel
theorem dX11_house_76 : decode cX11_house 76 = .ok (.ireturn, 1) := by decide +kernel
theorem dX11_fault_0 : decode cX11_fault 0 = .ok (.aload_n 0, 1) := by decide +kernel
theorem dX11_fault_1 : decode cX11_fault 1 = .ok (.getfield 136, 3) := by decide +kernel
theorem dX11_fault_4 : decode cX11_fault 4 = .ok (.ireturn, 1) := by decide +kernel
theorem dX11_steps_0 : decode cX11_steps 0 = .ok (.aload_n 0, 1) := by decide +kernel
theorem dX11_steps_1 : decode cX11_steps 1 = .ok (.getfield 149, 3) := by decide +kernel
theorem dX11_steps_4 : decode cX11_steps 4 = .ok (.ifCond .ne 6, 3) := by decide +kernel
theorem dX11_steps_7 : decode cX11_steps 7 = .ok (.ldc 156, 2) := by decide +kernel
theorem dX11_steps_9 : decode cX11_steps 9 = .ok (.ireturn, 1) := by decide +kernel
theorem dX11_steps_10 : decode cX11_steps 10 = .ok (.iload_n 1, 1) := by decide +kernel
theorem dX11_steps_11 : decode cX11_steps 11 = .ok (.iconst 1, 1) := by decide +kernel
theorem dX11_steps_12 : decode cX11_steps 12 = .ok (.bipush 24, 2) := by decide +kernel
theorem dX11_steps_14 : decode cX11_steps 14 = .ok (.invokestatic 80, 3) := by decide +kernel
theorem dX11_steps_17 : decode cX11_steps 17 = .ok (.ifCond .ne 6, 3) := by decide +kernel
theorem dX11_steps_20 : decode cX11_steps 20 = .ok (.ldc 84, 2) := by decide +kernel
theorem dX11_steps_22 : decode cX11_steps 22 = .ok (.ireturn, 1) := by decide +kernel
theorem dX11_steps_23 : decode cX11_steps 23 = .ok (.aload_n 0, 1) := by decide +kernel
theorem dX11_steps_24 : decode cX11_steps 24 = .ok (.getfield 25, 3) := by decide +kernel
theorem dX11_steps_27 : decode cX11_steps 27 = .ok (.getfield 157, 3) := by decide +kernel
theorem dX11_steps_30 : decode cX11_steps 30 = .ok (.iload_n 1, 1) := by decide +kernel
theorem dX11_steps_31 : decode cX11_steps 31 = .ok (.iadd, 1) := by decide +kernel
theorem dX11_steps_32 : decode cX11_steps 32 = .ok (.sipush 999, 3) := by decide +kernel
theorem dX11_steps_35 : decode cX11_steps 35 = .ok (.if_icmp .le 6, 3) := by decide +kernel
theorem dX11_steps_38 : decode cX11_steps 38 = .ok (.ldc 125, 2) := by decide +kernel
theorem dX11_steps_40 : decode cX11_steps 40 = .ok (.ireturn, 1) := by decide +kernel
theorem dX11_steps_41 : decode cX11_steps 41 = .ok (.iconst 0, 1) := by decide +kernel
theorem dX11_steps_42 : decode cX11_steps 42 = .ok (.istore_n 2, 1) := by decide +kernel
theorem dX11_steps_43 : decode cX11_steps 43 = .ok (.iload_n 2, 1) := by decide +kernel
theorem dX11_steps_44 : decode cX11_steps 44 = .ok (.iload_n 1, 1) := by decide +kernel
theorem dX11_steps_45 : decode cX11_steps 45 = .ok (.if_icmp .ge 27, 3) := by decide +kernel
theorem dX11_steps_48 : decode cX11_steps 48 = .ok (.aload_n 0, 1) := by decide +kernel
theorem dX11_steps_49 : decode cX11_steps 49 = .ok (.getfield 43, 3) := by decide +kernel
theorem dX11_steps_52 : decode cX11_steps 52 = .ok (.aload_n 0, 1) := by decide +kernel
theorem dX11_steps_53 : decode cX11_steps 53 = .ok (.getfield 25, 3) := by decide +kernel
theorem dX11_steps_56 : decode cX11_steps 56 = .ok (.invokevirtual 160, 3) := by decide +kernel
theorem dX11_steps_59 : decode cX11_steps 59 = .ok (.aload_n 0, 1) := by decide +kernel
theorem dX11_steps_60 : decode cX11_steps 60 = .ok (.getfield 25, 3) := by decide +kernel
theorem dX11_steps_63 : decode cX11_steps 63 = .ok (.invokevirtual 163, 3) := by decide +kernel
theorem dX11_steps_66 : decode cX11_steps 66 = .ok (.iinc 2 1, 3) := by decide +kernel
theorem dX11_steps_69 : decode cX11_steps 69 = .ok (.goto (-26), 3) := by decide +kernel
theorem dX11_steps_72 : decode cX11_steps 72 = .ok (.aload_n 0, 1) := by decide +kernel
theorem dX11_steps_73 : decode cX11_steps 73 = .ok (.getfield 25, 3) := by decide +kernel
theorem dX11_steps_76 : decode cX11_steps 76 = .ok (.getfield 166, 3) := by decide +kernel
theorem dX11_steps_79 : decode cX11_steps 79 = .ok (.ireturn, 1) := by decide +kernel
theorem dX11_show_0 : decode cX11_show 0 = .ok (.aload_n 0, 1) := by decide +kernel
theorem dX11_show_1 : decode cX11_show 1 = .ok (.iload_n 1, 1) := by decide +kernel
theorem dX11_show_2 : decode cX11_show 2 = .ok (.invokevirtual 169, 3) := by decide +kernel
theorem dX11_show_5 : decode cX11_show 5 = .ok (.ifCond .eq 13, 3) := by decide +kernel
theorem dX11_show_8 : decode cX11_show 8 = .ok (.iload_n 2, 1) := by decide +kernel
theorem dX11_show_9 : decode cX11_show 9 = .ok (.iconst 0, 1) := by decide +kernel
theorem dX11_show_10 : decode cX11_show 10 = .ok (.bipush 9, 2) := by decide +kernel
theorem dX11_show_12 : decode cX11_show 12 = .ok (.invokestatic 80, 3) := by decide +kernel
theorem dX11_show_15 : decode cX11_show 15 = .ok (.ifCond .ne 6, 3) := by decide +kernel
theorem dX11_show_18 : decode cX11_show 18 = .ok (.ldc 84, 2) := by decide +kernel
theorem dX11_show_20 : decode cX11_show 20 = .ok (.ireturn, 1) := by decide +kernel
theorem dX11_show_21 : decode cX11_show 21 = .ok (.aload_n 0, 1) := by decide +kernel
theorem dX11_show_22 : decode cX11_show 22 = .ok (.getfield 25, 3) := by decide +kernel
theorem dX11_show_25 : decode cX11_show 25 = .ok (.getfield 172, 3) := by decide +kernel
theorem dX11_show_28 : decode cX11_show 28 = .ok (.iload_n 1, 1) := by decide +kernel
theorem dX11_show_29 : decode cX11_show 29 = .ok (.iaload, 1) := by decide +kernel
theorem dX11_show_30 : decode cX11_show 30 = .ok (.istore_n 3, 1) := by decide +kernel
theorem dX11_show_31 : decode cX11_show 31 = .ok (.aload_n 0, 1) := by decide +kernel
theorem dX11_show_32 : decode cX11_show 32 = .ok (.getfield 43, 3) := by decide +kernel
theorem dX11_show_35 : decode cX11_show 35 = .ok (.aload_n 0, 1) := by decide +kernel
theorem dX11_show_36 : decode cX11_show 36 = .ok (.getfield 25, 3) := by decide +kernel
theorem dX11_show_39 : decode cX11_show 39 = .ok (.invokevirtual 160, 3) := by decide +kernel
theorem dX11_show_42 : decode cX11_show 42 = .ok (.aload_n 0, 1) := by decide +kernel
theorem dX11_show_43 : decode cX11_show 43 = .ok (.getfield 25, 3) := by decide +kernel
theorem dX11_show_46 : decode cX11_show 46 = .ok (.iconst 3, 1) := by decide +kernel
theorem dX11_show_47 : decode cX11_show 47 = .ok (.iload_n 1, 1) := by decide +kernel
theorem dX11_show_48 : decode cX11_show 48 = .ok (.iload_n 2, 1) := by decide +kernel
theorem dX11_show_49 : decode cX11_show 49 = .ok (.invokevirtual 175, 3) := by decide +kernel
theorem dX11_show_52 : decode cX11_show 52 = .ok (.iload_n 3, 1) := by decide +kernel
theorem dX11_show_53 : decode cX11_show 53 = .ok (.ireturn, 1) := by decide +kernel
theorem dX11_walk_0 : decode cX11_walk 0 = .ok (.aload_n 0, 1) := by decide +kernel
theorem dX11_walk_1 : decode cX11_walk 1 = .ok (.iload_n 1, 1) := by decide +kernel
theorem dX11_walk_2 : decode cX11_walk 2 = .ok (.invokevirtual 169, 3) := by decide +kernel
theorem dX11_walk_5 : decode cX11_walk 5 = .ok (.ifCond .eq 12, 3) := by decide +kernel
theorem dX11_walk_8 : decode cX11_walk 8 = .ok (.iload_n 2, 1) := by decide +kernel
theorem dX11_walk_9 : decode cX11_walk 9 = .ok (.iconst 0, 1) := by decide +kernel
theorem dX11_walk_10 : decode cX11_walk 10 = .ok (.iconst 1, 1) := by decide +kernel
theorem dX11_walk_11 : decode cX11_walk 11 = .ok (.invokestatic 80, 3) := by decide +kernel
theorem dX11_walk_14 : decode cX11_walk 14 = .ok (.ifCond .ne 6, 3) := by decide +kernel
theorem dX11_walk_17 : decode cX11_walk 17 = .ok (.ldc 84, 2) := by decide +kernel
theorem dX11_walk_19 : decode cX11_walk 19 = .ok (.ireturn, 1) := by decide +kernel
theorem dX11_walk_20 : decode cX11_walk 20 = .ok (.aload_n 0, 1) := by decide +kernel
theorem dX11_walk_21 : decode cX11_walk 21 = .ok (.getfield 25, 3) := by decide +kernel
theorem dX11_walk_24 : decode cX11_walk 24 = .ok (.getfield 179, 3) := by decide +kernel
theorem dX11_walk_27 : decode cX11_walk 27 = .ok (.iload_n 1, 1) := by decide +kernel
theorem dX11_walk_28 : decode cX11_walk 28 = .ok (.iaload, 1) := by decide +kernel
theorem dX11_walk_29 : decode cX11_walk 29 = .ok (.iload_n 2, 1) := by decide +kernel
theorem dX11_walk_30 : decode cX11_walk 30 = .ok (.iconst 1, 1) := by decide +kernel
theorem dX11_walk_31 : decode cX11_walk 31 = .ok (.if_icmp .ne 7, 3) := by decide +kernel
theorem dX11_walk_34 : decode cX11_walk 34 = .ok (.iconst 1, 1) := by decide +kernel
theorem dX11_walk_35 : decode cX11_walk 35 = .ok (.goto 4, 3) := by decide +kernel
theorem dX11_walk_38 : decode cX11_walk 38 = .ok (.iconst (-1), 1) := by decide +kernel
theorem dX11_walk_39 : decode cX11_walk 39 = .ok (.iadd, 1) := by decide +kernel
theorem dX11_walk_40 : decode cX11_walk 40 = .ok (.istore_n 3, 1) := by decide +kernel
theorem dX11_walk_41 : decode cX11_walk 41 = .ok (.aload_n 0, 1) := by decide +kernel
theorem dX11_walk_42 : decode cX11_walk 42 = .ok (.getfield 25, 3) := by decide +kernel
theorem dX11_walk_45 : decode cX11_walk 45 = .ok (.getfield 182, 3) := by decide +kernel
theorem dX11_walk_48 : decode cX11_walk 48 = .ok (.iload_n 1, 1) := by decide +kernel
theorem dX11_walk_49 : decode cX11_walk 49 = .ok (.if_icmp .eq 18, 3) := by decide +kernel
theorem dX11_walk_52 : decode cX11_walk 52 = .ok (.iload_n 3, 1) := by decide +kernel
theorem dX11_walk_53 : decode cX11_walk 53 = .ok (.iconst 0, 1) := by decide +kernel
theorem dX11_walk_54 : decode cX11_walk 54 = .ok (.aload_n 0, 1) := by decide +kernel
theorem dX11_walk_55 : decode cX11_walk 55 = .ok (.getfield 25, 3) := by decide +kernel
theorem dX11_walk_58 : decode cX11_walk 58 = .ok (.getfield 185, 3) := by decide +kernel
theorem dX11_walk_61 : decode cX11_walk 61 = .ok (.invokestatic 80, 3) := by decide +kernel
theorem dX11_walk_64 : decode cX11_walk 64 = .ok (.ifCond .ne 6, 3) := by decide +kernel
theorem dX11_walk_67 : decode cX11_walk 67 = .ok (.ldc 156, 2) := by decide +kernel
theorem dX11_walk_69 : decode cX11_walk 69 = .ok (.ireturn, 1) := by decide +kernel
theorem dX11_walk_70 : decode cX11_walk 70 = .ok (.aload_n 0, 1) := by decide +kernel
theorem dX11_walk_71 : decode cX11_walk 71 = .ok (.getfield 43, 3) := by decide +kernel
theorem dX11_walk_74 : decode cX11_walk 74 = .ok (.aload_n 0, 1) := by decide +kernel
theorem dX11_walk_75 : decode cX11_walk 75 = .ok (.getfield 25, 3) := by decide +kernel
theorem dX11_walk_78 : decode cX11_walk 78 = .ok (.invokevirtual 160, 3) := by decide +kernel
theorem dX11_walk_81 : decode cX11_walk 81 = .ok (.aload_n 0, 1) := by decide +kernel
theorem dX11_walk_82 : decode cX11_walk 82 = .ok (.getfield 25, 3) := by decide +kernel
theorem dX11_walk_85 : decode cX11_walk 85 = .ok (.iconst 1, 1) := by decide +kernel
theorem dX11_walk_86 : decode cX11_walk 86 = .ok (.iload_n 1, 1) := by decide +kernel
theorem dX11_walk_87 : decode cX11_walk 87 = .ok (.iload_n 3, 1) := by decide +kernel
theorem dX11_walk_88 : decode cX11_walk 88 = .ok (.invokevirtual 175, 3) := by decide +kernel
theorem dX11_walk_91 : decode cX11_walk 91 = .ok (.iload_n 3, 1) := by decide +kernel
theorem dX11_walk_92 : decode cX11_walk 92 = .ok (.ireturn, 1) := by decide +kernel
theorem dX11_undo_0 : decode cX11_undo 0 = .ok (.aload_n 0, 1) := by decide +kernel
theorem dX11_undo_1 : decode cX11_undo 1 = .ok (.getfield 43, 3) := by decide +kernel
theorem dX11_undo_4 : decode cX11_undo 4 = .ok (.getfield 188, 3) := by decide +kernel
theorem dX11_undo_7 : decode cX11_undo 7 = .ok (.ifCond .ne 6, 3) := by decide +kernel
theorem dX11_undo_10 : decode cX11_undo 10 = .ok (.ldc 156, 2) := by decide +kernel
theorem dX11_undo_12 : decode cX11_undo 12 = .ok (.ireturn, 1) := by decide +kernel
theorem dX11_undo_13 : decode cX11_undo 13 = .ok (.aload_n 0, 1) := by decide +kernel
theorem dX11_undo_14 : decode cX11_undo 14 = .ok (.getfield 43, 3) := by decide +kernel
theorem dX11_undo_17 : decode cX11_undo 17 = .ok (.aload_n 0, 1) := by decide +kernel
theorem dX11_undo_18 : decode cX11_undo 18 = .ok (.getfield 25, 3) := by decide +kernel
theorem dX11_undo_21 : decode cX11_undo 21 = .ok (.invokevirtual 191, 3) := by decide +kernel
theorem dX11_undo_24 : decode cX11_undo 24 = .ok (.aload_n 0, 1) := by decide +kernel
theorem dX11_undo_25 : decode cX11_undo 25 = .ok (.getfield 43, 3) := by decide +kernel
theorem dX11_undo_28 : decode cX11_undo 28 = .ok (.getfield 188, 3) := by decide +kernel
theorem dX11_undo_31 : decode cX11_undo 31 = .ok (.ireturn, 1) := by decide +kernel
theorem dX11_person_0 : decode cX11_person 0 = .ok (.aload_n 0, 1) := by decide +kernel
theorem dX11_person_1 : decode cX11_person 1 = .ok (.iload_n 1, 1) := by decide +kernel
theorem dX11_person_2 : decode cX11_person 2 = .ok (.invokevirtual 169, 3) := by decide +kernel
theorem dX11_person_5 : decode cX11_person 5 = .ok (.ifCond .ne 6, 3) := by decide +kernel
theorem dX11_person_8 : decode cX11_person 8 = .ok (.ldc 84, 2) := by decide +kernel
theorem dX11_person_10 : decode cX11_person 10 = .ok (.ireturn, 1) := by decide +kernel
theorem dX11_person_11 : decode cX11_person 11 = .ok (.iload_n 2, 1) := by decide +kernel
theorem dX11_person_12 : decode cX11_person 12 = .ok (.tableswitch 106 0 5 #[40, 50, 60, 70, 80, 89], 40) := by decide +kernel
theorem dX11_person_52 : decode cX11_person 52 = .ok (.aload_n 0, 1) := by decide +kernel
theorem dX11_person_53 : decode cX11_person 53 = .ok (.getfield 25, 3) := by decide +kernel
theorem dX11_person_56 : decode cX11_person 56 = .ok (.getfield 179, 3) := by decide +kernel
theorem dX11_person_59 : decode cX11_person 59 = .ok (.iload_n 1, 1) := by decide +kernel
theorem dX11_person_60 : decode cX11_person 60 = .ok (.iaload, 1) := by decide +kernel
theorem dX11_person_61 : decode cX11_person 61 = .ok (.ireturn, 1) := by decide +kernel
theorem dX11_person_62 : decode cX11_person 62 = .ok (.aload_n 0, 1) := by decide +kernel
theorem dX11_person_63 : decode cX11_person 63 = .ok (.getfield 25, 3) := by decide +kernel
theorem dX11_person_66 : decode cX11_person 66 = .ok (.getfield 194, 3) := by decide +kernel
theorem dX11_person_69 : decode cX11_person 69 = .ok (.iload_n 1, 1) := by decide +kernel
theorem dX11_person_70 : decode cX11_person 70 = .ok (.iaload, 1) := by decide +kernel
theorem dX11_person_71 : decode cX11_person 71 = .ok (.ireturn, 1) := by decide +kernel
theorem dX11_person_72 : decode cX11_person 72 = .ok (.aload_n 0, 1) := by decide +kernel
theorem dX11_person_73 : decode cX11_person 73 = .ok (.getfield 25, 3) := by decide +kernel
theorem dX11_person_76 : decode cX11_person 76 = .ok (.getfield 172, 3) := by decide +kernel
theorem dX11_person_79 : decode cX11_person 79 = .ok (.iload_n 1, 1) := by decide +kernel
theorem dX11_person_80 : decode cX11_person 80 = .ok (.iaload, 1) := by decide +kernel
theorem dX11_person_81 : decode cX11_person 81 = .ok (.ireturn, 1) := by decide +kernel
theorem dX11_person_82 : decode cX11_person 82 = .ok (.aload_n 0, 1) := by decide +kernel
theorem dX11_person_83 : decode cX11_person 83 = .ok (.getfield 25, 3) := by decide +kernel
theorem dX11_person_86 : decode cX11_person 86 = .ok (.getfield 197, 3) := by decide +kernel
theorem dX11_person_89 : decode cX11_person 89 = .ok (.iload_n 1, 1) := by decide +kernel
theorem dX11_person_90 : decode cX11_person 90 = .ok (.iaload, 1) := by decide +kernel
theorem dX11_person_91 : decode cX11_person 91 = .ok (.ireturn, 1) := by decide +kernel
theorem dX11_person_92 : decode cX11_person 92 = .ok (.aload_n 0, 1) := by decide +kernel
theorem dX11_person_93 : decode cX11_person 93 = .ok (.getfield 25, 3) := by decide +kernel
theorem dX11_person_96 : decode cX11_person 96 = .ok (.iload_n 1, 1) := by decide +kernel
theorem dX11_person_97 : decode cX11_person 97 = .ok (.invokevirtual 200, 3) := by decide +kernel
theorem dX11_person_100 : decode cX11_person 100 = .ok (.ireturn, 1) := by decide +kernel
theorem dX11_person_101 : decode cX11_person 101 = .ok (.aload_n 0, 1) := by decide +kernel
theorem dX11_person_102 : decode cX11_person 102 = .ok (.getfield 25, 3) := by decide +kernel
theorem dX11_person_105 : decode cX11_person 105 = .ok (.iload_n 1, 1) := by decide +kernel
theorem dX11_person_106 : decode cX11_person 106 = .ok (.invokevirtual 203, 3) := by decide +kernel
theorem dX11_person_109 : decode cX11_person 109 = .ok (.ifCond .eq 7, 3) := by decide +kernel
theorem dX11_person_112 : decode cX11_person 112 = .ok (.iconst 1, 1) := by decide +kernel
theorem dX11_person_113 : decode cX11_person 113 = .ok (.goto 4, 3) := by decide +kernel
theorem dX11_person_116 : decode cX11_person 116 = .ok (.iconst 0, 1) := by decide +kernel
theorem dX11_person_117 : decode cX11_person 117 = .ok (.ireturn, 1) := by decide +kernel
theorem dX11_person_118 : decode cX11_person 118 = .ok (.ldc 84, 2) := by decide +kernel
theorem dX11_person_120 : decode cX11_person 120 = .ok (.ireturn, 1) := by decide +kernel
theorem dX11_minds_0 : decode cX11_minds 0 = .ok (.aload_n 0, 1) := by decide +kernel
theorem dX11_minds_1 : decode cX11_minds 1 = .ok (.iload_n 1, 1) := by decide +kernel
theorem dX11_minds_2 : decode cX11_minds 2 = .ok (.invokevirtual 169, 3) := by decide +kernel
theorem dX11_minds_5 : decode cX11_minds 5 = .ok (.ifCond .eq 16, 3) := by decide +kernel
theorem dX11_minds_8 : decode cX11_minds 8 = .ok (.aload_n 0, 1) := by decide +kernel
theorem dX11_minds_9 : decode cX11_minds 9 = .ok (.iload_n 2, 1) := by decide +kernel
theorem dX11_minds_10 : decode cX11_minds 10 = .ok (.invokevirtual 169, 3) := by decide +kernel
theorem dX11_minds_13 : decode cX11_minds 13 = .ok (.ifCond .eq 8, 3) := by decide +kernel
theorem dX11_minds_16 : decode cX11_minds 16 = .ok (.iload_n 1, 1) := by decide +kernel
theorem dX11_minds_17 : decode cX11_minds 17 = .ok (.iload_n 2, 1) := by decide +kernel
theorem dX11_minds_18 : decode cX11_minds 18 = .ok (.if_icmp .ne 6, 3) := by decide +kernel
theorem dX11_minds_21 : decode cX11_minds 21 = .ok (.ldc 84, 2) := by decide +kernel
theorem dX11_minds_23 : decode cX11_minds 23 = .ok (.ireturn, 1) := by decide +kernel
theorem dX11_minds_24 : decode cX11_minds 24 = .ok (.aload_n 0, 1) := by decide +kernel
theorem dX11_minds_25 : decode cX11_minds 25 = .ok (.getfield 25, 3) := by decide +kernel
theorem dX11_minds_28 : decode cX11_minds 28 = .ok (.iload_n 1, 1) := by decide +kernel
theorem dX11_minds_29 : decode cX11_minds 29 = .ok (.iload_n 2, 1) := by decide +kernel
theorem dX11_minds_30 : decode cX11_minds 30 = .ok (.invokevirtual 206, 3) := by decide +kernel
theorem dX11_minds_33 : decode cX11_minds 33 = .ok (.ireturn, 1) := by decide +kernel
theorem dX11_car_0 : decode cX11_car 0 = .ok (.aload_n 0, 1) := by decide +kernel
theorem dX11_car_1 : decode cX11_car 1 = .ok (.getfield 149, 3) := by decide +kernel
theorem dX11_car_4 : decode cX11_car 4 = .ok (.ifCond .ne 6, 3) := by decide +kernel
theorem dX11_car_7 : decode cX11_car 7 = .ok (.ldc 156, 2) := by decide +kernel
theorem dX11_car_9 : decode cX11_car 9 = .ok (.ireturn, 1) := by decide +kernel
theorem dX11_car_10 : decode cX11_car 10 = .ok (.iload_n 1, 1) := by decide +kernel
theorem dX11_car_11 : decode cX11_car 11 = .ok (.tableswitch 82 0 3 #[29, 37, 48, 74], 29) := by decide +kernel
theorem dX11_car_40 : decode cX11_car 40 = .ok (.aload_n 0, 1) := by decide +kernel
theorem dX11_car_41 : decode cX11_car 41 = .ok (.getfield 25, 3) := by decide +kernel
theorem dX11_car_44 : decode cX11_car 44 = .ok (.getfield 166, 3) := by decide +kernel
theorem dX11_car_47 : decode cX11_car 47 = .ok (.ireturn, 1) := by decide +kernel
theorem dX11_car_48 : decode cX11_car 48 = .ok (.aload_n 0, 1) := by decide +kernel
theorem dX11_car_49 : decode cX11_car 49 = .ok (.getfield 25, 3) := by decide +kernel
theorem dX11_car_52 : decode cX11_car 52 = .ok (.getfield 182, 3) := by decide +kernel
theorem dX11_car_55 : decode cX11_car 55 = .ok (.invokestatic 210, 3) := by decide +kernel
theorem dX11_car_58 : decode cX11_car 58 = .ok (.ireturn, 1) := by decide +kernel
theorem dX11_car_59 : decode cX11_car 59 = .ok (.aload_n 0, 1) := by decide +kernel
theorem dX11_car_60 : decode cX11_car 60 = .ok (.getfield 25, 3) := by decide +kernel
theorem dX11_car_63 : decode cX11_car 63 = .ok (.getfield 182, 3) := by decide +kernel
theorem dX11_car_66 : decode cX11_car 66 = .ok (.iconst (-1), 1) := by decide +kernel
theorem dX11_car_67 : decode cX11_car 67 = .ok (.if_icmp .ne 13, 3) := by decide +kernel
theorem dX11_car_70 : decode cX11_car 70 = .ok (.aload_n 0, 1) := by decide +kernel
theorem dX11_car_71 : decode cX11_car 71 = .ok (.getfield 25, 3) := by decide +kernel
theorem dX11_car_74 : decode cX11_car 74 = .ok (.invokevirtual 213, 3) := by decide +kernel
theorem dX11_car_77 : decode cX11_car 77 = .ok (.goto 4, 3) := by decide +kernel
theorem dX11_car_80 : decode cX11_car 80 = .ok (.iconst (-1), 1) := by decide +kernel
theorem dX11_car_81 : decode cX11_car 81 = .ok (.invokestatic 210, 3) := by decide +kernel
theorem dX11_car_84 : decode cX11_car 84 = .ok (.ireturn, 1) := by decide +kernel
theorem dX11_car_85 : decode cX11_car 85 = .ok (.aload_n 0, 1) := by decide +kernel
theorem dX11_car_86 : decode cX11_car 86 = .ok (.getfield 25, 3) := by decide +kernel
theorem dX11_car_89 : decode cX11_car 89 = .ok (.getfield 217, 3) := by decide +kernel
theorem dX11_car_92 : decode cX11_car 92 = .ok (.ireturn, 1) := by decide +kernel
theorem dX11_car_93 : decode cX11_car 93 = .ok (.ldc 84, 2) := by decide +kernel
theorem dX11_car_95 : decode cX11_car 95 = .ok (.ireturn, 1) := by decide +kernel
theorem dX11_ahead_0 : decode cX11_ahead 0 = .ok (.aload_n 0, 1) := by decide +kernel
theorem dX11_ahead_1 : decode cX11_ahead 1 = .ok (.getfield 149, 3) := by decide +kernel
theorem dX11_ahead_4 : decode cX11_ahead 4 = .ok (.ifCond .ne 6, 3) := by decide +kernel
theorem dX11_ahead_7 : decode cX11_ahead 7 = .ok (.ldc 156, 2) := by decide +kernel
theorem dX11_ahead_9 : decode cX11_ahead 9 = .ok (.ireturn, 1) := by decide +kernel
theorem dX11_ahead_10 : decode cX11_ahead 10 = .ok (.iload_n 1, 1) := by decide +kernel
theorem dX11_ahead_11 : decode cX11_ahead 11 = .ok (.iconst 0, 1) := by decide +kernel
theorem dX11_ahead_12 : decode cX11_ahead 12 = .ok (.bipush 60, 2) := by decide +kernel
theorem dX11_ahead_14 : decode cX11_ahead 14 = .ok (.invokestatic 80, 3) := by decide +kernel
theorem dX11_ahead_17 : decode cX11_ahead 17 = .ok (.ifCond .eq 12, 3) := by decide +kernel
theorem dX11_ahead_20 : decode cX11_ahead 20 = .ok (.iload_n 2, 1) := by decide +kernel
theorem dX11_ahead_21 : decode cX11_ahead 21 = .ok (.iconst 0, 1) := by decide +kernel
theorem dX11_ahead_22 : decode cX11_ahead 22 = .ok (.iconst 2, 1) := by decide +kernel
theorem dX11_ahead_23 : decode cX11_ahead 23 = .ok (.invokestatic 80, 3) := by decide +kernel
theorem dX11_ahead_26 : decode cX11_ahead 26 = .ok (.ifCond .ne 6, 3) := by decide +kernel
theorem dX11_ahead_29 : decode cX11_ahead 29 = .ok (.ldc 84, 2) := by decide +kernel
theorem dX11_ahead_31 : decode cX11_ahead 31 = .ok (.ireturn, 1) := by decide +kernel
theorem dX11_ahead_32 : decode cX11_ahead 32 = .ok (.aload_n 0, 1) := by decide +kernel
theorem dX11_ahead_33 : decode cX11_ahead 33 = .ok (.getfield 29, 3) := by decide +kernel
theorem dX11_ahead_36 : decode cX11_ahead 36 = .ok (.aload_n 0, 1) := by decide +kernel
theorem dX11_ahead_37 : decode cX11_ahead 37 = .ok (.getfield 25, 3) := by decide +kernel
theorem dX11_ahead_40 : decode cX11_ahead 40 = .ok (.invokevirtual 143, 3) := by decide +kernel
theorem dX11_ahead_43 : decode cX11_ahead 43 = .ok (.aload_n 0, 1) := by decide +kernel
theorem dX11_ahead_44 : decode cX11_ahead 44 = .ok (.getfield 29, 3) := by decide +kernel
theorem dX11_ahead_47 : decode cX11_ahead 47 = .ok (.iload_n 1, 1) := by decide +kernel
theorem dX11_ahead_48 : decode cX11_ahead 48 = .ok (.invokevirtual 220, 3) := by decide +kernel
theorem dX11_ahead_51 : decode cX11_ahead 51 = .ok (.pop, 1) := by decide +kernel
theorem dX11_ahead_52 : decode cX11_ahead 52 = .ok (.iload_n 2, 1) := by decide +kernel
theorem dX11_ahead_53 : decode cX11_ahead 53 = .ok (.lookupswitch 46 #[(0, 27), (1, 35)], 27) := by decide +kernel
theorem dX11_ahead_80 : decode cX11_ahead 80 = .ok (.aload_n 0, 1) := by decide +kernel
theorem dX11_ahead_81 : decode cX11_ahead 81 = .ok (.getfield 29, 3) := by decide +kernel
theorem dX11_ahead_84 : decode cX11_ahead 84 = .ok (.getfield 166, 3) := by decide +kernel
theorem dX11_ahead_87 : decode cX11_ahead 87 = .ok (.ireturn, 1) := by decide +kernel
theorem dX11_ahead_88 : decode cX11_ahead 88 = .ok (.aload_n 0, 1) := by decide +kernel
theorem dX11_ahead_89 : decode cX11_ahead 89 = .ok (.getfield 29, 3) := by decide +kernel
theorem dX11_ahead_92 : decode cX11_ahead 92 = .ok (.getfield 182, 3) := by decide +kernel
theorem dX11_ahead_95 : decode cX11_ahead 95 = .ok (.invokestatic 210, 3) := by decide +kernel
theorem dX11_ahead_98 : decode cX11_ahead 98 = .ok (.ireturn, 1) := by decide +kernel
theorem dX11_ahead_99 : decode cX11_ahead 99 = .ok (.aload_n 0, 1) := by decide +kernel
theorem dX11_ahead_100 : decode cX11_ahead 100 = .ok (.getfield 29, 3) := by decide +kernel
theorem dX11_ahead_103 : decode cX11_ahead 103 = .ok (.getfield 217, 3) := by decide +kernel
theorem dX11_ahead_106 : decode cX11_ahead 106 = .ok (.ireturn, 1) := by decide +kernel
theorem dX11_when_0 : decode cX11_when 0 = .ok (.aload_n 0, 1) := by decide +kernel
theorem dX11_when_1 : decode cX11_when 1 = .ok (.iload_n 1, 1) := by decide +kernel
theorem dX11_when_2 : decode cX11_when 2 = .ok (.invokevirtual 169, 3) := by decide +kernel
theorem dX11_when_5 : decode cX11_when 5 = .ok (.ifCond .ne 6, 3) := by decide +kernel
theorem dX11_when_8 : decode cX11_when 8 = .ok (.ldc 84, 2) := by decide +kernel
theorem dX11_when_10 : decode cX11_when 10 = .ok (.ireturn, 1) := by decide +kernel
theorem dX11_when_11 : decode cX11_when 11 = .ok (.aload_n 0, 1) := by decide +kernel
theorem dX11_when_12 : decode cX11_when 12 = .ok (.getfield 29, 3) := by decide +kernel
theorem dX11_when_15 : decode cX11_when 15 = .ok (.aload_n 0, 1) := by decide +kernel
theorem dX11_when_16 : decode cX11_when 16 = .ok (.getfield 25, 3) := by decide +kernel
theorem dX11_when_19 : decode cX11_when 19 = .ok (.invokevirtual 143, 3) := by decide +kernel
theorem dX11_when_22 : decode cX11_when 22 = .ok (.aload_n 0, 1) := by decide +kernel
theorem dX11_when_23 : decode cX11_when 23 = .ok (.getfield 29, 3) := by decide +kernel
theorem dX11_when_26 : decode cX11_when 26 = .ok (.iload_n 1, 1) := by decide +kernel
theorem dX11_when_27 : decode cX11_when 27 = .ok (.bipush 99, 2) := by decide +kernel
theorem dX11_when_29 : decode cX11_when 29 = .ok (.invokevirtual 223, 3) := by decide +kernel
theorem dX11_when_32 : decode cX11_when 32 = .ok (.invokestatic 210, 3) := by decide +kernel
theorem dX11_when_35 : decode cX11_when 35 = .ok (.ireturn, 1) := by decide +kernel
theorem dX11_first_0 : decode cX11_first 0 = .ok (.aload_n 0, 1) := by decide +kernel
theorem dX11_first_1 : decode cX11_first 1 = .ok (.getfield 149, 3) := by decide +kernel
theorem dX11_first_4 : decode cX11_first 4 = .ok (.ifCond .ne 6, 3) := by decide +kernel
theorem dX11_first_7 : decode cX11_first 7 = .ok (.ldc 156, 2) := by decide +kernel
theorem dX11_first_9 : decode cX11_first 9 = .ok (.ireturn, 1) := by decide +kernel
theorem dX11_first_10 : decode cX11_first 10 = .ok (.iload_n 1, 1) := by decide +kernel
theorem dX11_first_11 : decode cX11_first 11 = .ok (.iconst 0, 1) := by decide +kernel
theorem dX11_first_12 : decode cX11_first 12 = .ok (.iconst 1, 1) := by decide +kernel
theorem dX11_first_13 : decode cX11_first 13 = .ok (.invokestatic 80, 3) := by decide +kernel
theorem dX11_first_16 : decode cX11_first 16 = .ok (.ifCond .ne 6, 3) := by decide +kernel
theorem dX11_first_19 : decode cX11_first 19 = .ok (.ldc 84, 2) := by decide +kernel
theorem dX11_first_21 : decode cX11_first 21 = .ok (.ireturn, 1) := by decide +kernel
theorem dX11_first_22 : decode cX11_first 22 = .ok (.aload_n 0, 1) := by decide +kernel
theorem dX11_first_23 : decode cX11_first 23 = .ok (.getfield 29, 3) := by decide +kernel
theorem dX11_first_26 : decode cX11_first 26 = .ok (.aload_n 0, 1) := by decide +kernel
theorem dX11_first_27 : decode cX11_first 27 = .ok (.getfield 25, 3) := by decide +kernel
theorem dX11_first_30 : decode cX11_first 30 = .ok (.invokevirtual 143, 3) := by decide +kernel
theorem dX11_first_33 : decode cX11_first 33 = .ok (.iconst 1, 1) := by decide +kernel
theorem dX11_first_34 : decode cX11_first 34 = .ok (.istore_n 2, 1) := by decide +kernel
theorem dX11_first_35 : decode cX11_first 35 = .ok (.iload_n 2, 1) := by decide +kernel
theorem dX11_first_36 : decode cX11_first 36 = .ok (.bipush 99, 2) := by decide +kernel
theorem dX11_first_38 : decode cX11_first 38 = .ok (.if_icmp .gt 51, 3) := by decide +kernel
theorem dX11_first_41 : decode cX11_first 41 = .ok (.aload_n 0, 1) := by decide +kernel
theorem dX11_first_42 : decode cX11_first 42 = .ok (.getfield 29, 3) := by decide +kernel
theorem dX11_first_45 : decode cX11_first 45 = .ok (.getfield 182, 3) := by decide +kernel
theorem dX11_first_48 : decode cX11_first 48 = .ok (.istore_n 3, 1) := by decide +kernel
theorem dX11_first_49 : decode cX11_first 49 = .ok (.aload_n 0, 1) := by decide +kernel
theorem dX11_first_50 : decode cX11_first 50 = .ok (.getfield 29, 3) := by decide +kernel
theorem dX11_first_53 : decode cX11_first 53 = .ok (.invokevirtual 163, 3) := by decide +kernel
theorem dX11_first_56 : decode cX11_first 56 = .ok (.aload_n 0, 1) := by decide +kernel
theorem dX11_first_57 : decode cX11_first 57 = .ok (.getfield 29, 3) := by decide +kernel
theorem dX11_first_60 : decode cX11_first 60 = .ok (.getfield 217, 3) := by decide +kernel
theorem dX11_first_63 : decode cX11_first 63 = .ok (.aload_n 0, 1) := by decide +kernel
theorem dX11_first_64 : decode cX11_first 64 = .ok (.getfield 25, 3) := by decide +kernel
theorem dX11_first_67 : decode cX11_first 67 = .ok (.getfield 217, 3) := by decide +kernel
theorem dX11_first_70 : decode cX11_first 70 = .ok (.if_icmp .eq 13, 3) := by decide +kernel
theorem dX11_first_73 : decode cX11_first 73 = .ok (.iload_n 1, 1) := by decide +kernel
theorem dX11_first_74 : decode cX11_first 74 = .ok (.ifCond .ne 7, 3) := by decide +kernel
theorem dX11_first_77 : decode cX11_first 77 = .ok (.iload_n 3, 1) := by decide +kernel
theorem dX11_first_78 : decode cX11_first 78 = .ok (.goto 4, 3) := by decide +kernel
theorem dX11_first_81 : decode cX11_first 81 = .ok (.iload_n 2, 1) := by decide +kernel
theorem dX11_first_82 : decode cX11_first 82 = .ok (.ireturn, 1) := by decide +kernel
theorem dX11_first_83 : decode cX11_first 83 = .ok (.iinc 2 1, 3) := by decide +kernel
theorem dX11_first_86 : decode cX11_first 86 = .ok (.goto (-51), 3) := by decide +kernel
theorem dX11_first_89 : decode cX11_first 89 = .ok (.ldc 226, 2) := by decide +kernel
theorem dX11_first_91 : decode cX11_first 91 = .ok (.ireturn, 1) := by decide +kernel
theorem dX11_never_0 : decode cX11_never 0 = .ok (.aload_n 0, 1) := by decide +kernel
theorem dX11_never_1 : decode cX11_never 1 = .ok (.getfield 149, 3) := by decide +kernel
theorem dX11_never_4 : decode cX11_never 4 = .ok (.ifCond .ne 6, 3) := by decide +kernel
theorem dX11_never_7 : decode cX11_never 7 = .ok (.ldc 156, 2) := by decide +kernel
theorem dX11_never_9 : decode cX11_never 9 = .ok (.ireturn, 1) := by decide +kernel
theorem dX11_never_10 : decode cX11_never 10 = .ok (.aload_n 0, 1) := by decide +kernel
theorem dX11_never_11 : decode cX11_never 11 = .ok (.getfield 29, 3) := by decide +kernel
theorem dX11_never_14 : decode cX11_never 14 = .ok (.aload_n 0, 1) := by decide +kernel
theorem dX11_never_15 : decode cX11_never 15 = .ok (.getfield 25, 3) := by decide +kernel
theorem dX11_never_18 : decode cX11_never 18 = .ok (.invokevirtual 143, 3) := by decide +kernel
theorem dX11_never_21 : decode cX11_never 21 = .ok (.aload_n 0, 1) := by decide +kernel
theorem dX11_never_22 : decode cX11_never 22 = .ok (.getfield 29, 3) := by decide +kernel
theorem dX11_never_25 : decode cX11_never 25 = .ok (.bipush 99, 2) := by decide +kernel
theorem dX11_never_27 : decode cX11_never 27 = .ok (.invokevirtual 220, 3) := by decide +kernel
theorem dX11_never_30 : decode cX11_never 30 = .ok (.pop, 1) := by decide +kernel
theorem dX11_never_31 : decode cX11_never 31 = .ok (.iconst 1, 1) := by decide +kernel
theorem dX11_never_32 : decode cX11_never 32 = .ok (.aload_n 0, 1) := by decide +kernel
theorem dX11_never_33 : decode cX11_never 33 = .ok (.getfield 25, 3) := by decide +kernel
theorem dX11_never_36 : decode cX11_never 36 = .ok (.getfield 153, 3) := by decide +kernel
theorem dX11_never_39 : decode cX11_never 39 = .ok (.ishl, 1) := by decide +kernel
theorem dX11_never_40 : decode cX11_never 40 = .ok (.iconst 1, 1) := by decide +kernel
theorem dX11_never_41 : decode cX11_never 41 = .ok (.isub, 1) := by decide +kernel
theorem dX11_never_42 : decode cX11_never 42 = .ok (.aload_n 0, 1) := by decide +kernel
theorem dX11_never_43 : decode cX11_never 43 = .ok (.getfield 29, 3) := by decide +kernel
theorem dX11_never_46 : decode cX11_never 46 = .ok (.getfield 217, 3) := by decide +kernel
theorem dX11_never_49 : decode cX11_never 49 = .ok (.iconst (-1), 1) := by decide +kernel
theorem dX11_never_50 : decode cX11_never 50 = .ok (.ixor, 1) := by decide +kernel
theorem dX11_never_51 : decode cX11_never 51 = .ok (.iand, 1) := by decide +kernel
theorem dX11_never_52 : decode cX11_never 52 = .ok (.ireturn, 1) := by decide +kernel
theorem dX11_least_0 : decode cX11_least 0 = .ok (.aload_n 0, 1) := by decide +kernel
theorem dX11_least_1 : decode cX11_least 1 = .ok (.iload_n 1, 1) := by decide +kernel
theorem dX11_least_2 : decode cX11_least 2 = .ok (.invokevirtual 169, 3) := by decide +kernel
theorem dX11_least_5 : decode cX11_least 5 = .ok (.ifCond .eq 13, 3) := by decide +kernel
theorem dX11_least_8 : decode cX11_least 8 = .ok (.iload_n 2, 1) := by decide +kernel
theorem dX11_least_9 : decode cX11_least 9 = .ok (.iconst 0, 1) := by decide +kernel
theorem dX11_least_10 : decode cX11_least 10 = .ok (.bipush 60, 2) := by decide +kernel
theorem dX11_least_12 : decode cX11_least 12 = .ok (.invokestatic 80, 3) := by decide +kernel
theorem dX11_least_15 : decode cX11_least 15 = .ok (.ifCond .ne 6, 3) := by decide +kernel
theorem dX11_least_18 : decode cX11_least 18 = .ok (.ldc 84, 2) := by decide +kernel
theorem dX11_least_20 : decode cX11_least 20 = .ok (.ireturn, 1) := by decide +kernel
theorem dX11_least_21 : decode cX11_least 21 = .ok (.aload_n 0, 1) := by decide +kernel
theorem dX11_least_22 : decode cX11_least 22 = .ok (.getfield 25, 3) := by decide +kernel
theorem dX11_least_25 : decode cX11_least 25 = .ok (.iload_n 1, 1) := by decide +kernel
theorem dX11_least_26 : decode cX11_least 26 = .ok (.invokevirtual 203, 3) := by decide +kernel
theorem dX11_least_29 : decode cX11_least 29 = .ok (.ifCond .eq 6, 3) := by decide +kernel
theorem dX11_least_32 : decode cX11_least 32 = .ok (.ldc 156, 2) := by decide +kernel
theorem dX11_least_34 : decode cX11_least 34 = .ok (.ireturn, 1) := by decide +kernel
theorem dX11_least_35 : decode cX11_least 35 = .ok (.iconst 0, 1) := by decide +kernel
theorem dX11_least_36 : decode cX11_least 36 = .ok (.istore_n 3, 1) := by decide +kernel
theorem dX11_least_37 : decode cX11_least 37 = .ok (.iload_n 3, 1) := by decide +kernel
theorem dX11_least_38 : decode cX11_least 38 = .ok (.bipush 9, 2) := by decide +kernel
theorem dX11_least_40 : decode cX11_least 40 = .ok (.if_icmp .gt 45, 3) := by decide +kernel
theorem dX11_least_43 : decode cX11_least 43 = .ok (.aload_n 0, 1) := by decide +kernel
theorem dX11_least_44 : decode cX11_least 44 = .ok (.getfield 29, 3) := by decide +kernel
theorem dX11_least_47 : decode cX11_least 47 = .ok (.aload_n 0, 1) := by decide +kernel
theorem dX11_least_48 : decode cX11_least 48 = .ok (.getfield 25, 3) := by decide +kernel
theorem dX11_least_51 : decode cX11_least 51 = .ok (.invokevirtual 143, 3) := by decide +kernel
theorem dX11_least_54 : decode cX11_least 54 = .ok (.aload_n 0, 1) := by decide +kernel
theorem dX11_least_55 : decode cX11_least 55 = .ok (.getfield 29, 3) := by decide +kernel
theorem dX11_least_58 : decode cX11_least 58 = .ok (.iconst 3, 1) := by decide +kernel
theorem dX11_least_59 : decode cX11_least 59 = .ok (.iload_n 1, 1) := by decide +kernel
theorem dX11_least_60 : decode cX11_least 60 = .ok (.iload_n 3, 1) := by decide +kernel
theorem dX11_least_61 : decode cX11_least 61 = .ok (.invokevirtual 175, 3) := by decide +kernel
theorem dX11_least_64 : decode cX11_least 64 = .ok (.aload_n 0, 1) := by decide +kernel
theorem dX11_least_65 : decode cX11_least 65 = .ok (.getfield 29, 3) := by decide +kernel
theorem dX11_least_68 : decode cX11_least 68 = .ok (.iload_n 1, 1) := by decide +kernel
theorem dX11_least_69 : decode cX11_least 69 = .ok (.iload_n 2, 1) := by decide +kernel
theorem dX11_least_70 : decode cX11_least 70 = .ok (.invokevirtual 223, 3) := by decide +kernel
theorem dX11_least_73 : decode cX11_least 73 = .ok (.iconst (-1), 1) := by decide +kernel
theorem dX11_least_74 : decode cX11_least 74 = .ok (.if_icmp .eq 5, 3) := by decide +kernel
theorem dX11_least_77 : decode cX11_least 77 = .ok (.iload_n 3, 1) := by decide +kernel
theorem dX11_least_78 : decode cX11_least 78 = .ok (.ireturn, 1) := by decide +kernel
theorem dX11_least_79 : decode cX11_least 79 = .ok (.iinc 3 1, 3) := by decide +kernel
theorem dX11_least_82 : decode cX11_least 82 = .ok (.goto (-45), 3) := by decide +kernel
theorem dX11_least_85 : decode cX11_least 85 = .ok (.ldc 226, 2) := by decide +kernel
theorem dX11_least_87 : decode cX11_least 87 = .ok (.ireturn, 1) := by decide +kernel
theorem dX11_hide_0 : decode cX11_hide 0 = .ok (.aload_n 0, 1) := by decide +kernel
theorem dX11_hide_1 : decode cX11_hide 1 = .ok (.getfield 149, 3) := by decide +kernel
theorem dX11_hide_4 : decode cX11_hide 4 = .ok (.ifCond .ne 6, 3) := by decide +kernel
theorem dX11_hide_7 : decode cX11_hide 7 = .ok (.ldc 156, 2) := by decide +kernel
theorem dX11_hide_9 : decode cX11_hide 9 = .ok (.ireturn, 1) := by decide +kernel
theorem dX11_hide_10 : decode cX11_hide 10 = .ok (.iload_n 1, 1) := by decide +kernel
theorem dX11_hide_11 : decode cX11_hide 11 = .ok (.iconst 0, 1) := by decide +kernel
theorem dX11_hide_12 : decode cX11_hide 12 = .ok (.iconst 1, 1) := by decide +kernel
theorem dX11_hide_13 : decode cX11_hide 13 = .ok (.invokestatic 80, 3) := by decide +kernel
theorem dX11_hide_16 : decode cX11_hide 16 = .ok (.ifCond .ne 6, 3) := by decide +kernel
theorem dX11_hide_19 : decode cX11_hide 19 = .ok (.ldc 84, 2) := by decide +kernel
theorem dX11_hide_21 : decode cX11_hide 21 = .ok (.ireturn, 1) := by decide +kernel
theorem dX11_hide_22 : decode cX11_hide 22 = .ok (.iconst 0, 1) := by decide +kernel
theorem dX11_hide_23 : decode cX11_hide 23 = .ok (.istore_n 2, 1) := by decide +kernel
theorem dX11_hide_24 : decode cX11_hide 24 = .ok (.aload_n 0, 1) := by decide +kernel
theorem dX11_hide_25 : decode cX11_hide 25 = .ok (.iconst 0, 1) := by decide +kernel
theorem dX11_hide_26 : decode cX11_hide 26 = .ok (.invokevirtual 227, 3) := by decide +kernel
theorem dX11_hide_29 : decode cX11_hide 29 = .ok (.istore_n 3, 1) := by decide +kernel
theorem dX11_hide_30 : decode cX11_hide 30 = .ok (.iconst 1, 1) := by decide +kernel
theorem dX11_hide_31 : decode cX11_hide 31 = .ok (.aload_n 0, 1) := by decide +kernel
theorem dX11_hide_32 : decode cX11_hide 32 = .ok (.getfield 25, 3) := by decide +kernel
theorem dX11_hide_35 : decode cX11_hide 35 = .ok (.getfield 153, 3) := by decide +kernel
theorem dX11_hide_38 : decode cX11_hide 38 = .ok (.ishl, 1) := by decide +kernel
theorem dX11_hide_39 : decode cX11_hide 39 = .ok (.istore 4, 2) := by decide +kernel
theorem dX11_hide_41 : decode cX11_hide 41 = .ok (.iconst 1, 1) := by decide +kernel
theorem dX11_hide_42 : decode cX11_hide 42 = .ok (.istore 5, 2) := by decide +kernel
theorem dX11_hide_44 : decode cX11_hide 44 = .ok (.iload 5, 2) := by decide +kernel
theorem dX11_hide_46 : decode cX11_hide 46 = .ok (.iload 4, 2) := by decide +kernel
theorem dX11_hide_48 : decode cX11_hide 48 = .ok (.if_icmp .ge 29, 3) := by decide +kernel
theorem dX11_hide_51 : decode cX11_hide 51 = .ok (.aload_n 0, 1) := by decide +kernel
theorem dX11_hide_52 : decode cX11_hide 52 = .ok (.iload 5, 2) := by decide +kernel
theorem dX11_hide_54 : decode cX11_hide 54 = .ok (.invokevirtual 227, 3) := by decide +kernel
theorem dX11_hide_57 : decode cX11_hide 57 = .ok (.istore 6, 2) := by decide +kernel
theorem dX11_hide_59 : decode cX11_hide 59 = .ok (.iload 6, 2) := by decide +kernel
theorem dX11_hide_61 : decode cX11_hide 61 = .ok (.iload_n 3, 1) := by decide +kernel
theorem dX11_hide_62 : decode cX11_hide 62 = .ok (.if_icmp .le 9, 3) := by decide +kernel
theorem dX11_hide_65 : decode cX11_hide 65 = .ok (.iload 5, 2) := by decide +kernel
theorem dX11_hide_67 : decode cX11_hide 67 = .ok (.istore_n 2, 1) := by decide +kernel
theorem dX11_hide_68 : decode cX11_hide 68 = .ok (.iload 6, 2) := by decide +kernel
theorem dX11_hide_70 : decode cX11_hide 70 = .ok (.istore_n 3, 1) := by decide +kernel
theorem dX11_hide_71 : decode cX11_hide 71 = .ok (.iinc 5 1, 3) := by decide +kernel
theorem dX11_hide_74 : decode cX11_hide 74 = .ok (.goto (-30), 3) := by decide +kernel
theorem dX11_hide_77 : decode cX11_hide 77 = .ok (.iload_n 1, 1) := by decide +kernel
theorem dX11_hide_78 : decode cX11_hide 78 = .ok (.ifCond .ne 11, 3) := by decide +kernel
theorem dX11_hide_81 : decode cX11_hide 81 = .ok (.iload_n 3, 1) := by decide +kernel
theorem dX11_hide_82 : decode cX11_hide 82 = .ok (.sipush 1000, 3) := by decide +kernel
theorem dX11_hide_85 : decode cX11_hide 85 = .ok (.idiv, 1) := by decide +kernel
theorem dX11_hide_86 : decode cX11_hide 86 = .ok (.goto 4, 3) := by decide +kernel
theorem dX11_hide_89 : decode cX11_hide 89 = .ok (.iload_n 2, 1) := by decide +kernel
theorem dX11_hide_90 : decode cX11_hide 90 = .ok (.ireturn, 1) := by decide +kernel
theorem dX11_beside_0 : decode cX11_beside 0 = .ok (.aload_n 0, 1) := by decide +kernel
theorem dX11_beside_1 : decode cX11_beside 1 = .ok (.iload_n 1, 1) := by decide +kernel
theorem dX11_beside_2 : decode cX11_beside 2 = .ok (.invokevirtual 169, 3) := by decide +kernel
theorem dX11_beside_5 : decode cX11_beside 5 = .ok (.ifCond .eq 12, 3) := by decide +kernel
theorem dX11_beside_8 : decode cX11_beside 8 = .ok (.iload_n 2, 1) := by decide +kernel
theorem dX11_beside_9 : decode cX11_beside 9 = .ok (.iconst 0, 1) := by decide +kernel
theorem dX11_beside_10 : decode cX11_beside 10 = .ok (.iconst 1, 1) := by decide +kernel
theorem dX11_beside_11 : decode cX11_beside 11 = .ok (.invokestatic 80, 3) := by decide +kernel
theorem dX11_beside_14 : decode cX11_beside 14 = .ok (.ifCond .ne 6, 3) := by decide +kernel
theorem dX11_beside_17 : decode cX11_beside 17 = .ok (.ldc 84, 2) := by decide +kernel
theorem dX11_beside_19 : decode cX11_beside 19 = .ok (.ireturn, 1) := by decide +kernel
theorem dX11_beside_20 : decode cX11_beside 20 = .ok (.aload_n 0, 1) := by decide +kernel
theorem dX11_beside_21 : decode cX11_beside 21 = .ok (.getfield 25, 3) := by decide +kernel
theorem dX11_beside_24 : decode cX11_beside 24 = .ok (.getfield 182, 3) := by decide +kernel
theorem dX11_beside_27 : decode cX11_beside 27 = .ok (.iload_n 1, 1) := by decide +kernel
theorem dX11_beside_28 : decode cX11_beside 28 = .ok (.if_icmp .eq 14, 3) := by decide +kernel
theorem dX11_beside_31 : decode cX11_beside 31 = .ok (.aload_n 0, 1) := by decide +kernel
theorem dX11_beside_32 : decode cX11_beside 32 = .ok (.getfield 25, 3) := by decide +kernel
theorem dX11_beside_35 : decode cX11_beside 35 = .ok (.iload_n 1, 1) := by decide +kernel
theorem dX11_beside_36 : decode cX11_beside 36 = .ok (.invokevirtual 203, 3) := by decide +kernel
theorem dX11_beside_39 : decode cX11_beside 39 = .ok (.ifCond .eq 6, 3) := by decide +kernel
theorem dX11_beside_42 : decode cX11_beside 42 = .ok (.ldc 156, 2) := by decide +kernel
theorem dX11_beside_44 : decode cX11_beside 44 = .ok (.ireturn, 1) := by decide +kernel
theorem dX11_beside_45 : decode cX11_beside 45 = .ok (.ldc 226, 2) := by decide +kernel
theorem dX11_beside_47 : decode cX11_beside 47 = .ok (.istore_n 3, 1) := by decide +kernel
theorem dX11_beside_48 : decode cX11_beside 48 = .ok (.ldc 226, 2) := by decide +kernel
theorem dX11_beside_50 : decode cX11_beside 50 = .ok (.istore 4, 2) := by decide +kernel
theorem dX11_beside_52 : decode cX11_beside 52 = .ok (.iconst 0, 1) := by decide +kernel
theorem dX11_beside_53 : decode cX11_beside 53 = .ok (.istore 5, 2) := by decide +kernel
theorem dX11_beside_55 : decode cX11_beside 55 = .ok (.iload 5, 2) := by decide +kernel
theorem dX11_beside_57 : decode cX11_beside 57 = .ok (.aload_n 0, 1) := by decide +kernel
theorem dX11_beside_58 : decode cX11_beside 58 = .ok (.getfield 25, 3) := by decide +kernel
theorem dX11_beside_61 : decode cX11_beside 61 = .ok (.getfield 185, 3) := by decide +kernel
theorem dX11_beside_64 : decode cX11_beside 64 = .ok (.if_icmp .gt 69, 3) := by decide +kernel
theorem dX11_beside_67 : decode cX11_beside 67 = .ok (.aload_n 0, 1) := by decide +kernel
theorem dX11_beside_68 : decode cX11_beside 68 = .ok (.getfield 29, 3) := by decide +kernel
theorem dX11_beside_71 : decode cX11_beside 71 = .ok (.aload_n 0, 1) := by decide +kernel
theorem dX11_beside_72 : decode cX11_beside 72 = .ok (.getfield 25, 3) := by decide +kernel
theorem dX11_beside_75 : decode cX11_beside 75 = .ok (.invokevirtual 143, 3) := by decide +kernel
theorem dX11_beside_78 : decode cX11_beside 78 = .ok (.aload_n 0, 1) := by decide +kernel
theorem dX11_beside_79 : decode cX11_beside 79 = .ok (.getfield 29, 3) := by decide +kernel
theorem dX11_beside_82 : decode cX11_beside 82 = .ok (.iconst 1, 1) := by decide +kernel
theorem dX11_beside_83 : decode cX11_beside 83 = .ok (.iload_n 1, 1) := by decide +kernel
theorem dX11_beside_84 : decode cX11_beside 84 = .ok (.iload 5, 2) := by decide +kernel
theorem dX11_beside_86 : decode cX11_beside 86 = .ok (.invokevirtual 175, 3) := by decide +kernel
theorem dX11_beside_89 : decode cX11_beside 89 = .ok (.aload_n 0, 1) := by decide +kernel
theorem dX11_beside_90 : decode cX11_beside 90 = .ok (.getfield 29, 3) := by decide +kernel
theorem dX11_beside_93 : decode cX11_beside 93 = .ok (.iload_n 1, 1) := by decide +kernel
theorem dX11_beside_94 : decode cX11_beside 94 = .ok (.bipush 99, 2) := by decide +kernel
theorem dX11_beside_96 : decode cX11_beside 96 = .ok (.invokevirtual 223, 3) := by decide +kernel
theorem dX11_beside_99 : decode cX11_beside 99 = .ok (.istore 6, 2) := by decide +kernel
theorem dX11_beside_101 : decode cX11_beside 101 = .ok (.iload 6, 2) := by decide +kernel
theorem dX11_beside_103 : decode cX11_beside 103 = .ok (.iconst (-1), 1) := by decide +kernel
theorem dX11_beside_104 : decode cX11_beside 104 = .ok (.if_icmp .eq 23, 3) := by decide +kernel
theorem dX11_beside_107 : decode cX11_beside 107 = .ok (.iload_n 3, 1) := by decide +kernel
theorem dX11_beside_108 : decode cX11_beside 108 = .ok (.ldc 226, 2) := by decide +kernel
theorem dX11_beside_110 : decode cX11_beside 110 = .ok (.if_icmp .eq 10, 3) := by decide +kernel
theorem dX11_beside_113 : decode cX11_beside 113 = .ok (.iload 6, 2) := by decide +kernel
theorem dX11_beside_115 : decode cX11_beside 115 = .ok (.iload 4, 2) := by decide +kernel
theorem dX11_beside_117 : decode cX11_beside 117 = .ok (.if_icmp .ge 10, 3) := by decide +kernel
theorem dX11_beside_120 : decode cX11_beside 120 = .ok (.iload 5, 2) := by decide +kernel
theorem dX11_beside_122 : decode cX11_beside 122 = .ok (.istore_n 3, 1) := by decide +kernel
theorem dX11_beside_123 : decode cX11_beside 123 = .ok (.iload 6, 2) := by decide +kernel
theorem dX11_beside_125 : decode cX11_beside 125 = .ok (.istore 4, 2) := by decide +kernel
theorem dX11_beside_127 : decode cX11_beside 127 = .ok (.iinc 5 1, 3) := by decide +kernel
theorem dX11_beside_130 : decode cX11_beside 130 = .ok (.goto (-75), 3) := by decide +kernel
theorem dX11_beside_133 : decode cX11_beside 133 = .ok (.iload_n 2, 1) := by decide +kernel
theorem dX11_beside_134 : decode cX11_beside 134 = .ok (.ifCond .ne 7, 3) := by decide +kernel
theorem dX11_beside_137 : decode cX11_beside 137 = .ok (.iload_n 3, 1) := by decide +kernel
theorem dX11_beside_138 : decode cX11_beside 138 = .ok (.goto 5, 3) := by decide +kernel
theorem dX11_beside_141 : decode cX11_beside 141 = .ok (.iload 4, 2) := by decide +kernel
theorem dX11_beside_143 : decode cX11_beside 143 = .ok (.ireturn, 1) := by decide +kernel
theorem dX11_fits_0 : decode cX11_fits 0 = .ok (.aload_n 0, 1) := by decide +kernel
theorem dX11_fits_1 : decode cX11_fits 1 = .ok (.iload_n 1, 1) := by decide +kernel
theorem dX11_fits_2 : decode cX11_fits 2 = .ok (.invokevirtual 169, 3) := by decide +kernel
theorem dX11_fits_5 : decode cX11_fits 5 = .ok (.ifCond .eq 10, 3) := by decide +kernel
theorem dX11_fits_8 : decode cX11_fits 8 = .ok (.iload_n 2, 1) := by decide +kernel
theorem dX11_fits_9 : decode cX11_fits 9 = .ok (.invokestatic 76, 3) := by decide +kernel
theorem dX11_fits_12 : decode cX11_fits 12 = .ok (.ifCond .ne 6, 3) := by decide +kernel
theorem dX11_fits_15 : decode cX11_fits 15 = .ok (.ldc 84, 2) := by decide +kernel
theorem dX11_fits_17 : decode cX11_fits 17 = .ok (.ireturn, 1) := by decide +kernel
theorem dX11_fits_18 : decode cX11_fits 18 = .ok (.iload 4, 2) := by decide +kernel
theorem dX11_fits_20 : decode cX11_fits 20 = .ok (.iconst 1, 1) := by decide +kernel
theorem dX11_fits_21 : decode cX11_fits 21 = .ok (.bipush 16, 2) := by decide +kernel
theorem dX11_fits_23 : decode cX11_fits 23 = .ok (.invokestatic 80, 3) := by decide +kernel
theorem dX11_fits_26 : decode cX11_fits 26 = .ok (.ifCond .eq 13, 3) := by decide +kernel
theorem dX11_fits_29 : decode cX11_fits 29 = .ok (.iload 5, 2) := by decide +kernel
theorem dX11_fits_31 : decode cX11_fits 31 = .ok (.iconst 0, 1) := by decide +kernel
theorem dX11_fits_32 : decode cX11_fits 32 = .ok (.iconst 2, 1) := by decide +kernel
theorem dX11_fits_33 : decode cX11_fits 33 = .ok (.invokestatic 80, 3) := by decide +kernel
theorem dX11_fits_36 : decode cX11_fits 36 = .ok (.ifCond .ne 6, 3) := by decide +kernel
theorem dX11_fits_39 : decode cX11_fits 39 = .ok (.ldc 84, 2) := by decide +kernel
theorem dX11_fits_41 : decode cX11_fits 41 = .ok (.ireturn, 1) := by decide +kernel
theorem dX11_fits_42 : decode cX11_fits 42 = .ok (.aload_n 0, 1) := by decide +kernel
theorem dX11_fits_43 : decode cX11_fits 43 = .ok (.getfield 11, 3) := by decide +kernel
theorem dX11_fits_46 : decode cX11_fits 46 = .ok (.iload_n 2, 1) := by decide +kernel
theorem dX11_fits_47 : decode cX11_fits 47 = .ok (.aaload, 1) := by decide +kernel
theorem dX11_fits_48 : decode cX11_fits 48 = .ok (.astore 6, 2) := by decide +kernel
theorem dX11_fits_50 : decode cX11_fits 50 = .ok (.aload 6, 2) := by decide +kernel
theorem dX11_fits_52 : decode cX11_fits 52 = .ok (.invokevirtual 96, 3) := by decide +kernel
theorem dX11_fits_55 : decode cX11_fits 55 = .ok (.ifCond .eq 9, 3) := by decide +kernel
theorem dX11_fits_58 : decode cX11_fits 58 = .ok (.aload_n 0, 1) := by decide +kernel
theorem dX11_fits_59 : decode cX11_fits 59 = .ok (.iconst 1, 1) := by decide +kernel
theorem dX11_fits_60 : decode cX11_fits 60 = .ok (.invokevirtual 85, 3) := by decide +kernel
theorem dX11_fits_63 : decode cX11_fits 63 = .ok (.ireturn, 1) := by decide +kernel
theorem dX11_fits_64 : decode cX11_fits 64 = .ok (.aload 6, 2) := by decide +kernel
theorem dX11_fits_66 : decode cX11_fits 66 = .ok (.iload_n 3, 1) := by decide +kernel
theorem dX11_fits_67 : decode cX11_fits 67 = .ok (.iload 4, 2) := by decide +kernel
theorem dX11_fits_69 : decode cX11_fits 69 = .ok (.invokevirtual 100, 3) := by decide +kernel
theorem dX11_fits_72 : decode cX11_fits 72 = .ok (.ifCond .ne 9, 3) := by decide +kernel
theorem dX11_fits_75 : decode cX11_fits 75 = .ok (.aload_n 0, 1) := by decide +kernel
theorem dX11_fits_76 : decode cX11_fits 76 = .ok (.iconst 2, 1) := by decide +kernel
theorem dX11_fits_77 : decode cX11_fits 77 = .ok (.invokevirtual 85, 3) := by decide +kernel
theorem dX11_fits_80 : decode cX11_fits 80 = .ok (.ireturn, 1) := by decide +kernel
theorem dX11_fits_81 : decode cX11_fits 81 = .ok (.iload 5, 2) := by decide +kernel
theorem dX11_fits_83 : decode cX11_fits 83 = .ok (.lookupswitch 57 #[(0, 25), (1, 41)], 25) := by decide +kernel
theorem dX11_fits_108 : decode cX11_fits 108 = .ok (.aload_n 0, 1) := by decide +kernel
theorem dX11_fits_109 : decode cX11_fits 109 = .ok (.aload_n 0, 1) := by decide +kernel
theorem dX11_fits_110 : decode cX11_fits 110 = .ok (.iload_n 1, 1) := by decide +kernel
theorem dX11_fits_111 : decode cX11_fits 111 = .ok (.iconst 0, 1) := by decide +kernel
theorem dX11_fits_112 : decode cX11_fits 112 = .ok (.aload 6, 2) := by decide +kernel
theorem dX11_fits_114 : decode cX11_fits 114 = .ok (.iload_n 3, 1) := by decide +kernel
theorem dX11_fits_115 : decode cX11_fits 115 = .ok (.iload 4, 2) := by decide +kernel
theorem dX11_fits_117 : decode cX11_fits 117 = .ok (.invokevirtual 230, 3) := by decide +kernel
theorem dX11_fits_120 : decode cX11_fits 120 = .ok (.invokevirtual 93, 3) := by decide +kernel
theorem dX11_fits_123 : decode cX11_fits 123 = .ok (.ireturn, 1) := by decide +kernel
theorem dX11_fits_124 : decode cX11_fits 124 = .ok (.aload_n 0, 1) := by decide +kernel
theorem dX11_fits_125 : decode cX11_fits 125 = .ok (.aload_n 0, 1) := by decide +kernel
theorem dX11_fits_126 : decode cX11_fits 126 = .ok (.iload_n 1, 1) := by decide +kernel
theorem dX11_fits_127 : decode cX11_fits 127 = .ok (.iconst 3, 1) := by decide +kernel
theorem dX11_fits_128 : decode cX11_fits 128 = .ok (.aload 6, 2) := by decide +kernel
theorem dX11_fits_130 : decode cX11_fits 130 = .ok (.iload_n 3, 1) := by decide +kernel
theorem dX11_fits_131 : decode cX11_fits 131 = .ok (.iload 4, 2) := by decide +kernel
theorem dX11_fits_133 : decode cX11_fits 133 = .ok (.invokevirtual 230, 3) := by decide +kernel
theorem dX11_fits_136 : decode cX11_fits 136 = .ok (.invokevirtual 93, 3) := by decide +kernel
theorem dX11_fits_139 : decode cX11_fits 139 = .ok (.ireturn, 1) := by decide +kernel
theorem dX11_fits_140 : decode cX11_fits 140 = .ok (.aload_n 0, 1) := by decide +kernel
theorem dX11_fits_141 : decode cX11_fits 141 = .ok (.aload_n 0, 1) := by decide +kernel
theorem dX11_fits_142 : decode cX11_fits 142 = .ok (.iload_n 1, 1) := by decide +kernel
theorem dX11_fits_143 : decode cX11_fits 143 = .ok (.iconst 2, 1) := by decide +kernel
theorem dX11_fits_144 : decode cX11_fits 144 = .ok (.aload 6, 2) := by decide +kernel
theorem dX11_fits_146 : decode cX11_fits 146 = .ok (.iload_n 3, 1) := by decide +kernel
theorem dX11_fits_147 : decode cX11_fits 147 = .ok (.iload 4, 2) := by decide +kernel
theorem dX11_fits_149 : decode cX11_fits 149 = .ok (.invokevirtual 230, 3) := by decide +kernel
theorem dX11_fits_152 : decode cX11_fits 152 = .ok (.invokevirtual 93, 3) := by decide +kernel
theorem dX11_fits_155 : decode cX11_fits 155 = .ok (.ireturn, 1) := by decide +kernel
theorem dX11_hidden_0 : decode cX11_hidden 0 = .ok (.aload_n 0, 1) := by decide +kernel
theorem dX11_hidden_1 : decode cX11_hidden 1 = .ok (.iload_n 1, 1) := by decide +kernel
theorem dX11_hidden_2 : decode cX11_hidden 2 = .ok (.invokevirtual 169, 3) := by decide +kernel
theorem dX11_hidden_5 : decode cX11_hidden 5 = .ok (.ifCond .eq 13, 3) := by decide +kernel
theorem dX11_hidden_8 : decode cX11_hidden 8 = .ok (.iload_n 2, 1) := by decide +kernel
theorem dX11_hidden_9 : decode cX11_hidden 9 = .ok (.iconst 0, 1) := by decide +kernel
theorem dX11_hidden_10 : decode cX11_hidden 10 = .ok (.bipush 60, 2) := by decide +kernel
theorem dX11_hidden_12 : decode cX11_hidden 12 = .ok (.invokestatic 80, 3) := by decide +kernel
theorem dX11_hidden_15 : decode cX11_hidden 15 = .ok (.ifCond .ne 6, 3) := by decide +kernel
theorem dX11_hidden_18 : decode cX11_hidden 18 = .ok (.ldc 84, 2) := by decide +kernel
theorem dX11_hidden_20 : decode cX11_hidden 20 = .ok (.ireturn, 1) := by decide +kernel
theorem dX11_hidden_21 : decode cX11_hidden 21 = .ok (.iload_n 3, 1) := by decide +kernel
theorem dX11_hidden_22 : decode cX11_hidden 22 = .ok (.iconst 0, 1) := by decide +kernel
theorem dX11_hidden_23 : decode cX11_hidden 23 = .ok (.bipush 10, 2) := by decide +kernel
theorem dX11_hidden_25 : decode cX11_hidden 25 = .ok (.invokestatic 80, 3) := by decide +kernel
theorem dX11_hidden_28 : decode cX11_hidden 28 = .ok (.ifCond .eq 13, 3) := by decide +kernel
theorem dX11_hidden_31 : decode cX11_hidden 31 = .ok (.iload 4, 2) := by decide +kernel
theorem dX11_hidden_33 : decode cX11_hidden 33 = .ok (.iconst 0, 1) := by decide +kernel
theorem dX11_hidden_34 : decode cX11_hidden 34 = .ok (.iconst 1, 1) := by decide +kernel
theorem dX11_hidden_35 : decode cX11_hidden 35 = .ok (.invokestatic 80, 3) := by decide +kernel
theorem dX11_hidden_38 : decode cX11_hidden 38 = .ok (.ifCond .ne 6, 3) := by decide +kernel
theorem dX11_hidden_41 : decode cX11_hidden 41 = .ok (.ldc 84, 2) := by decide +kernel
theorem dX11_hidden_43 : decode cX11_hidden 43 = .ok (.ireturn, 1) := by decide +kernel
theorem dX11_hidden_44 : decode cX11_hidden 44 = .ok (.aload_n 0, 1) := by decide +kernel
theorem dX11_hidden_45 : decode cX11_hidden 45 = .ok (.getfield 25, 3) := by decide +kernel
theorem dX11_hidden_48 : decode cX11_hidden 48 = .ok (.invokevirtual 234, 3) := by decide +kernel
theorem dX11_hidden_51 : decode cX11_hidden 51 = .ok (.istore 5, 2) := by decide +kernel
theorem dX11_hidden_53 : decode cX11_hidden 53 = .ok (.iload 5, 2) := by decide +kernel
theorem dX11_hidden_55 : decode cX11_hidden 55 = .ok (.invokestatic 237, 3) := by decide +kernel
theorem dX11_hidden_58 : decode cX11_hidden 58 = .ok (.istore 6, 2) := by decide +kernel
theorem dX11_hidden_60 : decode cX11_hidden 60 = .ok (.iconst 0, 1) := by decide +kernel
theorem dX11_hidden_61 : decode cX11_hidden 61 = .ok (.istore 7, 2) := by decide +kernel
theorem dX11_hidden_63 : decode cX11_hidden 63 = .ok (.iconst 0, 1) := by decide +kernel
theorem dX11_hidden_64 : decode cX11_hidden 64 = .ok (.istore 8, 2) := by decide +kernel
theorem dX11_hidden_66 : decode cX11_hidden 66 = .ok (.iload 8, 2) := by decide +kernel
theorem dX11_hidden_68 : decode cX11_hidden 68 = .ok (.iload 5, 2) := by decide +kernel
