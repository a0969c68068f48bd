theorem dX12_when_17 : decode cX12_when 17 = .ok (.iload_n 1, 1) := by decide +kernel
theorem dX12_when_18 : decode cX12_when 18 = .ok (.bipush 99, 2) := by decide +kernel
theorem dX12_when_20 : decode cX12_when 20 = .ok (.invokevirtual 181, 3) := by decide +kernel
theorem dX12_when_23 : decode cX12_when 23 = .ok (.ireturn, 1) := by decide +kernel
theorem dX12_first_0 : decode cX12_first 0 = .ok (.aload_n 0, 1) := by decide +kernel
theorem dX12_first_1 : decode cX12_first 1 = .ok (.invokevirtual 158, 3) := by decide +kernel
theorem dX12_first_4 : decode cX12_first 4 = .ok (.ifCond .ne 6, 3) := by decide +kernel
theorem dX12_first_7 : decode cX12_first 7 = .ok (.ldc 161, 2) := by decide +kernel
theorem dX12_first_9 : decode cX12_first 9 = .ok (.ireturn, 1) := by decide +kernel
theorem dX12_first_10 : decode cX12_first 10 = .ok (.iload_n 1, 1) := by decide +kernel
theorem dX12_first_11 : decode cX12_first 11 = .ok (.iconst 0, 1) := by decide +kernel
theorem dX12_first_12 : decode cX12_first 12 = .ok (.iconst 1, 1) := by decide +kernel
theorem dX12_first_13 : decode cX12_first 13 = .ok (.invokestatic 53, 3) := by decide +kernel
theorem dX12_first_16 : decode cX12_first 16 = .ok (.ifCond .ne 6, 3) := by decide +kernel
theorem dX12_first_19 : decode cX12_first 19 = .ok (.ldc 61, 2) := by decide +kernel
theorem dX12_first_21 : decode cX12_first 21 = .ok (.ireturn, 1) := by decide +kernel
theorem dX12_first_22 : decode cX12_first 22 = .ok (.aload_n 0, 1) := by decide +kernel
theorem dX12_first_23 : decode cX12_first 23 = .ok (.iconst 0, 1) := by decide +kernel
theorem dX12_first_24 : decode cX12_first 24 = .ok (.invokevirtual 177, 3) := by decide +kernel
theorem dX12_first_27 : decode cX12_first 27 = .ok (.aload_n 0, 1) := by decide +kernel
theorem dX12_first_28 : decode cX12_first 28 = .ok (.getfield 25, 3) := by decide +kernel
theorem dX12_first_31 : decode cX12_first 31 = .ok (.invokestatic 171, 3) := by decide +kernel
theorem dX12_first_34 : decode cX12_first 34 = .ok (.istore_n 2, 1) := by decide +kernel
theorem dX12_first_35 : decode cX12_first 35 = .ok (.iconst 1, 1) := by decide +kernel
theorem dX12_first_36 : decode cX12_first 36 = .ok (.istore_n 3, 1) := by decide +kernel
theorem dX12_first_37 : decode cX12_first 37 = .ok (.iload_n 3, 1) := by decide +kernel
theorem dX12_first_38 : decode cX12_first 38 = .ok (.bipush 100, 2) := by decide +kernel
theorem dX12_first_40 : decode cX12_first 40 = .ok (.if_icmp .ge 70, 3) := by decide +kernel
theorem dX12_first_43 : decode cX12_first 43 = .ok (.aload_n 0, 1) := by decide +kernel
theorem dX12_first_44 : decode cX12_first 44 = .ok (.getfield 31, 3) := by decide +kernel
theorem dX12_first_47 : decode cX12_first 47 = .ok (.invokestatic 154, 3) := by decide +kernel
theorem dX12_first_50 : decode cX12_first 50 = .ok (.aload_n 0, 1) := by decide +kernel
theorem dX12_first_51 : decode cX12_first 51 = .ok (.getfield 31, 3) := by decide +kernel
theorem dX12_first_54 : decode cX12_first 54 = .ok (.invokestatic 171, 3) := by decide +kernel
theorem dX12_first_57 : decode cX12_first 57 = .ok (.iload_n 2, 1) := by decide +kernel
theorem dX12_first_58 : decode cX12_first 58 = .ok (.iconst (-1), 1) := by decide +kernel
theorem dX12_first_59 : decode cX12_first 59 = .ok (.ixor, 1) := by decide +kernel
theorem dX12_first_60 : decode cX12_first 60 = .ok (.iand, 1) := by decide +kernel
theorem dX12_first_61 : decode cX12_first 61 = .ok (.istore 4, 2) := by decide +kernel
theorem dX12_first_63 : decode cX12_first 63 = .ok (.iconst 0, 1) := by decide +kernel
theorem dX12_first_64 : decode cX12_first 64 = .ok (.istore 5, 2) := by decide +kernel
theorem dX12_first_66 : decode cX12_first 66 = .ok (.iload 5, 2) := by decide +kernel
theorem dX12_first_68 : decode cX12_first 68 = .ok (.aload_n 0, 1) := by decide +kernel
theorem dX12_first_69 : decode cX12_first 69 = .ok (.getfield 25, 3) := by decide +kernel
theorem dX12_first_72 : decode cX12_first 72 = .ok (.iconst 4, 1) := by decide +kernel
theorem dX12_first_73 : decode cX12_first 73 = .ok (.iaload, 1) := by decide +kernel
theorem dX12_first_74 : decode cX12_first 74 = .ok (.if_icmp .ge 30, 3) := by decide +kernel
theorem dX12_first_77 : decode cX12_first 77 = .ok (.iload 4, 2) := by decide +kernel
theorem dX12_first_79 : decode cX12_first 79 = .ok (.iload 5, 2) := by decide +kernel
theorem dX12_first_81 : decode cX12_first 81 = .ok (.invokestatic 184, 3) := by decide +kernel
theorem dX12_first_84 : decode cX12_first 84 = .ok (.ifCond .eq 14, 3) := by decide +kernel
theorem dX12_first_87 : decode cX12_first 87 = .ok (.iload_n 1, 1) := by decide +kernel
theorem dX12_first_88 : decode cX12_first 88 = .ok (.ifCond .ne 8, 3) := by decide +kernel
theorem dX12_first_91 : decode cX12_first 91 = .ok (.iload 5, 2) := by decide +kernel
theorem dX12_first_93 : decode cX12_first 93 = .ok (.goto 4, 3) := by decide +kernel
theorem dX12_first_96 : decode cX12_first 96 = .ok (.iload_n 3, 1) := by decide +kernel
theorem dX12_first_97 : decode cX12_first 97 = .ok (.ireturn, 1) := by decide +kernel
theorem dX12_first_98 : decode cX12_first 98 = .ok (.iinc 5 1, 3) := by decide +kernel
theorem dX12_first_101 : decode cX12_first 101 = .ok (.goto (-35), 3) := by decide +kernel
theorem dX12_first_104 : decode cX12_first 104 = .ok (.iinc 3 1, 3) := by decide +kernel
theorem dX12_first_107 : decode cX12_first 107 = .ok (.goto (-70), 3) := by decide +kernel
theorem dX12_first_110 : decode cX12_first 110 = .ok (.ldc 47, 2) := by decide +kernel
theorem dX12_first_112 : decode cX12_first 112 = .ok (.ireturn, 1) := by decide +kernel
theorem dX12_never_0 : decode cX12_never 0 = .ok (.aload_n 0, 1) := by decide +kernel
theorem dX12_never_1 : decode cX12_never 1 = .ok (.invokevirtual 158, 3) := by decide +kernel
theorem dX12_never_4 : decode cX12_never 4 = .ok (.ifCond .ne 6, 3) := by decide +kernel
theorem dX12_never_7 : decode cX12_never 7 = .ok (.ldc 161, 2) := by decide +kernel
theorem dX12_never_9 : decode cX12_never 9 = .ok (.ireturn, 1) := by decide +kernel
theorem dX12_never_10 : decode cX12_never 10 = .ok (.aload_n 0, 1) := by decide +kernel
theorem dX12_never_11 : decode cX12_never 11 = .ok (.bipush 99, 2) := by decide +kernel
theorem dX12_never_13 : decode cX12_never 13 = .ok (.invokevirtual 177, 3) := by decide +kernel
theorem dX12_never_16 : decode cX12_never 16 = .ok (.iconst 1, 1) := by decide +kernel
theorem dX12_never_17 : decode cX12_never 17 = .ok (.aload_n 0, 1) := by decide +kernel
theorem dX12_never_18 : decode cX12_never 18 = .ok (.getfield 25, 3) := by decide +kernel
theorem dX12_never_21 : decode cX12_never 21 = .ok (.iconst 4, 1) := by decide +kernel
theorem dX12_never_22 : decode cX12_never 22 = .ok (.iaload, 1) := by decide +kernel
theorem dX12_never_23 : decode cX12_never 23 = .ok (.ishl, 1) := by decide +kernel
theorem dX12_never_24 : decode cX12_never 24 = .ok (.iconst 1, 1) := by decide +kernel
theorem dX12_never_25 : decode cX12_never 25 = .ok (.isub, 1) := by decide +kernel
theorem dX12_never_26 : decode cX12_never 26 = .ok (.aload_n 0, 1) := by decide +kernel
theorem dX12_never_27 : decode cX12_never 27 = .ok (.getfield 31, 3) := by decide +kernel
theorem dX12_never_30 : decode cX12_never 30 = .ok (.invokestatic 171, 3) := by decide +kernel
theorem dX12_never_33 : decode cX12_never 33 = .ok (.iconst (-1), 1) := by decide +kernel
theorem dX12_never_34 : decode cX12_never 34 = .ok (.ixor, 1) := by decide +kernel
theorem dX12_never_35 : decode cX12_never 35 = .ok (.iand, 1) := by decide +kernel
theorem dX12_never_36 : decode cX12_never 36 = .ok (.ireturn, 1) := by decide +kernel
theorem dX12_least_0 : decode cX12_least 0 = .ok (.aload_n 0, 1) := by decide +kernel
theorem dX12_least_1 : decode cX12_least 1 = .ok (.iload_n 1, 1) := by decide +kernel
theorem dX12_least_2 : decode cX12_least 2 = .ok (.invokevirtual 165, 3) := by decide +kernel
theorem dX12_least_5 : decode cX12_least 5 = .ok (.ifCond .eq 10, 3) := by decide +kernel
theorem dX12_least_8 : decode cX12_least 8 = .ok (.iload_n 2, 1) := by decide +kernel
theorem dX12_least_9 : decode cX12_least 9 = .ok (.invokestatic 174, 3) := by decide +kernel
theorem dX12_least_12 : decode cX12_least 12 = .ok (.ifCond .ne 6, 3) := by decide +kernel
theorem dX12_least_15 : decode cX12_least 15 = .ok (.ldc 61, 2) := by decide +kernel
theorem dX12_least_17 : decode cX12_least 17 = .ok (.ireturn, 1) := by decide +kernel
theorem dX12_least_18 : decode cX12_least 18 = .ok (.aload_n 0, 1) := by decide +kernel
theorem dX12_least_19 : decode cX12_least 19 = .ok (.getfield 25, 3) := by decide +kernel
theorem dX12_least_22 : decode cX12_least 22 = .ok (.iconst 5, 1) := by decide +kernel
theorem dX12_least_23 : decode cX12_least 23 = .ok (.bipush 6, 2) := by decide +kernel
theorem dX12_least_25 : decode cX12_least 25 = .ok (.iload_n 1, 1) := by decide +kernel
theorem dX12_least_26 : decode cX12_least 26 = .ok (.imul, 1) := by decide +kernel
theorem dX12_least_27 : decode cX12_least 27 = .ok (.iadd, 1) := by decide +kernel
theorem dX12_least_28 : decode cX12_least 28 = .ok (.iconst 5, 1) := by decide +kernel
theorem dX12_least_29 : decode cX12_least 29 = .ok (.iadd, 1) := by decide +kernel
theorem dX12_least_30 : decode cX12_least 30 = .ok (.iaload, 1) := by decide +kernel
theorem dX12_least_31 : decode cX12_least 31 = .ok (.iconst 1, 1) := by decide +kernel
theorem dX12_least_32 : decode cX12_least 32 = .ok (.if_icmp .ne 6, 3) := by decide +kernel
theorem dX12_least_35 : decode cX12_least 35 = .ok (.ldc 161, 2) := by decide +kernel
theorem dX12_least_37 : decode cX12_least 37 = .ok (.ireturn, 1) := by decide +kernel
theorem dX12_least_38 : decode cX12_least 38 = .ok (.iconst 0, 1) := by decide +kernel
theorem dX12_least_39 : decode cX12_least 39 = .ok (.istore_n 3, 1) := by decide +kernel
theorem dX12_least_40 : decode cX12_least 40 = .ok (.iload_n 3, 1) := by decide +kernel
theorem dX12_least_41 : decode cX12_least 41 = .ok (.bipush 10, 2) := by decide +kernel
theorem dX12_least_43 : decode cX12_least 43 = .ok (.if_icmp .ge 41, 3) := by decide +kernel
theorem dX12_least_46 : decode cX12_least 46 = .ok (.aload_n 0, 1) := by decide +kernel
theorem dX12_least_47 : decode cX12_least 47 = .ok (.iconst 0, 1) := by decide +kernel
theorem dX12_least_48 : decode cX12_least 48 = .ok (.invokevirtual 177, 3) := by decide +kernel
theorem dX12_least_51 : decode cX12_least 51 = .ok (.aload_n 0, 1) := by decide +kernel
theorem dX12_least_52 : decode cX12_least 52 = .ok (.getfield 31, 3) := by decide +kernel
theorem dX12_least_55 : decode cX12_least 55 = .ok (.iconst 5, 1) := by decide +kernel
theorem dX12_least_56 : decode cX12_least 56 = .ok (.bipush 6, 2) := by decide +kernel
theorem dX12_least_58 : decode cX12_least 58 = .ok (.iload_n 1, 1) := by decide +kernel
theorem dX12_least_59 : decode cX12_least 59 = .ok (.imul, 1) := by decide +kernel
theorem dX12_least_60 : decode cX12_least 60 = .ok (.iadd, 1) := by decide +kernel
theorem dX12_least_61 : decode cX12_least 61 = .ok (.iconst 3, 1) := by decide +kernel
theorem dX12_least_62 : decode cX12_least 62 = .ok (.iadd, 1) := by decide +kernel
theorem dX12_least_63 : decode cX12_least 63 = .ok (.iload_n 3, 1) := by decide +kernel
theorem dX12_least_64 : decode cX12_least 64 = .ok (.iastore, 1) := by decide +kernel
theorem dX12_least_65 : decode cX12_least 65 = .ok (.aload_n 0, 1) := by decide +kernel
theorem dX12_least_66 : decode cX12_least 66 = .ok (.iload_n 1, 1) := by decide +kernel
theorem dX12_least_67 : decode cX12_least 67 = .ok (.iload_n 2, 1) := by decide +kernel
theorem dX12_least_68 : decode cX12_least 68 = .ok (.invokevirtual 181, 3) := by decide +kernel
theorem dX12_least_71 : decode cX12_least 71 = .ok (.ldc 47, 2) := by decide +kernel
theorem dX12_least_73 : decode cX12_least 73 = .ok (.if_icmp .eq 5, 3) := by decide +kernel
theorem dX12_least_76 : decode cX12_least 76 = .ok (.iload_n 3, 1) := by decide +kernel
theorem dX12_least_77 : decode cX12_least 77 = .ok (.ireturn, 1) := by decide +kernel
theorem dX12_least_78 : decode cX12_least 78 = .ok (.iinc 3 1, 3) := by decide +kernel
theorem dX12_least_81 : decode cX12_least 81 = .ok (.goto (-41), 3) := by decide +kernel
theorem dX12_least_84 : decode cX12_least 84 = .ok (.ldc 47, 2) := by decide +kernel
theorem dX12_least_86 : decode cX12_least 86 = .ok (.ireturn, 1) := by decide +kernel
theorem dX12_hides_0 : decode cX12_hides 0 = .ok (.aload_n 0, 1) := by decide +kernel
theorem dX12_hides_1 : decode cX12_hides 1 = .ok (.iconst 0, 1) := by decide +kernel
theorem dX12_hides_2 : decode cX12_hides 2 = .ok (.invokevirtual 177, 3) := by decide +kernel
theorem dX12_hides_5 : decode cX12_hides 5 = .ok (.iconst 0, 1) := by decide +kernel
theorem dX12_hides_6 : decode cX12_hides 6 = .ok (.istore_n 2, 1) := by decide +kernel
theorem dX12_hides_7 : decode cX12_hides 7 = .ok (.iload_n 2, 1) := by decide +kernel
theorem dX12_hides_8 : decode cX12_hides 8 = .ok (.aload_n 0, 1) := by decide +kernel
theorem dX12_hides_9 : decode cX12_hides 9 = .ok (.getfield 25, 3) := by decide +kernel
theorem dX12_hides_12 : decode cX12_hides 12 = .ok (.iconst 4, 1) := by decide +kernel
theorem dX12_hides_13 : decode cX12_hides 13 = .ok (.iaload, 1) := by decide +kernel
theorem dX12_hides_14 : decode cX12_hides 14 = .ok (.if_icmp .ge 47, 3) := by decide +kernel
theorem dX12_hides_17 : decode cX12_hides 17 = .ok (.aload_n 0, 1) := by decide +kernel
theorem dX12_hides_18 : decode cX12_hides 18 = .ok (.getfield 31, 3) := by decide +kernel
theorem dX12_hides_21 : decode cX12_hides 21 = .ok (.iconst 5, 1) := by decide +kernel
theorem dX12_hides_22 : decode cX12_hides 22 = .ok (.bipush 6, 2) := by decide +kernel
theorem dX12_hides_24 : decode cX12_hides 24 = .ok (.iload_n 2, 1) := by decide +kernel
theorem dX12_hides_25 : decode cX12_hides 25 = .ok (.imul, 1) := by decide +kernel
theorem dX12_hides_26 : decode cX12_hides 26 = .ok (.iadd, 1) := by decide +kernel
theorem dX12_hides_27 : decode cX12_hides 27 = .ok (.iconst 3, 1) := by decide +kernel
theorem dX12_hides_28 : decode cX12_hides 28 = .ok (.iadd, 1) := by decide +kernel
theorem dX12_hides_29 : decode cX12_hides 29 = .ok (.iload_n 1, 1) := by decide +kernel
theorem dX12_hides_30 : decode cX12_hides 30 = .ok (.iload_n 2, 1) := by decide +kernel
theorem dX12_hides_31 : decode cX12_hides 31 = .ok (.invokestatic 184, 3) := by decide +kernel
theorem dX12_hides_34 : decode cX12_hides 34 = .ok (.ifCond .eq 7, 3) := by decide +kernel
theorem dX12_hides_37 : decode cX12_hides 37 = .ok (.iconst 0, 1) := by decide +kernel
theorem dX12_hides_38 : decode cX12_hides 38 = .ok (.goto 16, 3) := by decide +kernel
theorem dX12_hides_41 : decode cX12_hides 41 = .ok (.aload_n 0, 1) := by decide +kernel
theorem dX12_hides_42 : decode cX12_hides 42 = .ok (.getfield 31, 3) := by decide +kernel
theorem dX12_hides_45 : decode cX12_hides 45 = .ok (.iconst 5, 1) := by decide +kernel
theorem dX12_hides_46 : decode cX12_hides 46 = .ok (.bipush 6, 2) := by decide +kernel
theorem dX12_hides_48 : decode cX12_hides 48 = .ok (.iload_n 2, 1) := by decide +kernel
theorem dX12_hides_49 : decode cX12_hides 49 = .ok (.imul, 1) := by decide +kernel
theorem dX12_hides_50 : decode cX12_hides 50 = .ok (.iadd, 1) := by decide +kernel
theorem dX12_hides_51 : decode cX12_hides 51 = .ok (.iconst 3, 1) := by decide +kernel
theorem dX12_hides_52 : decode cX12_hides 52 = .ok (.iadd, 1) := by decide +kernel
theorem dX12_hides_53 : decode cX12_hides 53 = .ok (.iaload, 1) := by decide +kernel
theorem dX12_hides_54 : decode cX12_hides 54 = .ok (.iastore, 1) := by decide +kernel
theorem dX12_hides_55 : decode cX12_hides 55 = .ok (.iinc 2 1, 3) := by decide +kernel
theorem dX12_hides_58 : decode cX12_hides 58 = .ok (.goto (-51), 3) := by decide +kernel
theorem dX12_hides_61 : decode cX12_hides 61 = .ok (.return_, 1) := by decide +kernel
theorem dX12_hide_0 : decode cX12_hide 0 = .ok (.aload_n 0, 1) := by decide +kernel
theorem dX12_hide_1 : decode cX12_hide 1 = .ok (.invokevirtual 158, 3) := by decide +kernel
theorem dX12_hide_4 : decode cX12_hide 4 = .ok (.ifCond .ne 6, 3) := by decide +kernel
theorem dX12_hide_7 : decode cX12_hide 7 = .ok (.ldc 161, 2) := by decide +kernel
theorem dX12_hide_9 : decode cX12_hide 9 = .ok (.ireturn, 1) := by decide +kernel
theorem dX12_hide_10 : decode cX12_hide 10 = .ok (.iload_n 1, 1) := by decide +kernel
theorem dX12_hide_11 : decode cX12_hide 11 = .ok (.iconst 0, 1) := by decide +kernel
theorem dX12_hide_12 : decode cX12_hide 12 = .ok (.iconst 1, 1) := by decide +kernel
theorem dX12_hide_13 : decode cX12_hide 13 = .ok (.invokestatic 53, 3) := by decide +kernel
theorem dX12_hide_16 : decode cX12_hide 16 = .ok (.ifCond .ne 6, 3) := by decide +kernel
theorem dX12_hide_19 : decode cX12_hide 19 = .ok (.ldc 61, 2) := by decide +kernel
theorem dX12_hide_21 : decode cX12_hide 21 = .ok (.ireturn, 1) := by decide +kernel
theorem dX12_hide_22 : decode cX12_hide 22 = .ok (.ldc 47, 2) := by decide +kernel
theorem dX12_hide_24 : decode cX12_hide 24 = .ok (.istore_n 2, 1) := by decide +kernel
theorem dX12_hide_25 : decode cX12_hide 25 = .ok (.iconst 0, 1) := by decide +kernel
theorem dX12_hide_26 : decode cX12_hide 26 = .ok (.istore_n 3, 1) := by decide +kernel
theorem dX12_hide_27 : decode cX12_hide 27 = .ok (.iconst 0, 1) := by decide +kernel
theorem dX12_hide_28 : decode cX12_hide 28 = .ok (.istore 4, 2) := by decide +kernel
theorem dX12_hide_30 : decode cX12_hide 30 = .ok (.iconst 0, 1) := by decide +kernel
theorem dX12_hide_31 : decode cX12_hide 31 = .ok (.istore 5, 2) := by decide +kernel
theorem dX12_hide_33 : decode cX12_hide 33 = .ok (.iload 5, 2) := by decide +kernel
theorem dX12_hide_35 : decode cX12_hide 35 = .ok (.iconst 1, 1) := by decide +kernel
theorem dX12_hide_36 : decode cX12_hide 36 = .ok (.aload_n 0, 1) := by decide +kernel
theorem dX12_hide_37 : decode cX12_hide 37 = .ok (.getfield 25, 3) := by decide +kernel
theorem dX12_hide_40 : decode cX12_hide 40 = .ok (.iconst 4, 1) := by decide +kernel
theorem dX12_hide_41 : decode cX12_hide 41 = .ok (.iaload, 1) := by decide +kernel
theorem dX12_hide_42 : decode cX12_hide 42 = .ok (.ishl, 1) := by decide +kernel
theorem dX12_hide_43 : decode cX12_hide 43 = .ok (.if_icmp .ge 194, 3) := by decide +kernel
theorem dX12_hide_46 : decode cX12_hide 46 = .ok (.aload_n 0, 1) := by decide +kernel
theorem dX12_hide_47 : decode cX12_hide 47 = .ok (.iload 5, 2) := by decide +kernel
theorem dX12_hide_49 : decode cX12_hide 49 = .ok (.invokevirtual 188, 3) := by decide +kernel
theorem dX12_hide_52 : decode cX12_hide 52 = .ok (.iconst 0, 1) := by decide +kernel
theorem dX12_hide_53 : decode cX12_hide 53 = .ok (.istore 6, 2) := by decide +kernel
theorem dX12_hide_55 : decode cX12_hide 55 = .ok (.aload_n 0, 1) := by decide +kernel
theorem dX12_hide_56 : decode cX12_hide 56 = .ok (.getfield 31, 3) := by decide +kernel
theorem dX12_hide_59 : decode cX12_hide 59 = .ok (.invokestatic 171, 3) := by decide +kernel
theorem dX12_hide_62 : decode cX12_hide 62 = .ok (.istore 7, 2) := by decide +kernel
theorem dX12_hide_64 : decode cX12_hide 64 = .ok (.iconst 1, 1) := by decide +kernel
theorem dX12_hide_65 : decode cX12_hide 65 = .ok (.istore 8, 2) := by decide +kernel
theorem dX12_hide_67 : decode cX12_hide 67 = .ok (.iload 8, 2) := by decide +kernel
theorem dX12_hide_69 : decode cX12_hide 69 = .ok (.bipush 100, 2) := by decide +kernel
theorem dX12_hide_71 : decode cX12_hide 71 = .ok (.if_icmp .ge 46, 3) := by decide +kernel
theorem dX12_hide_74 : decode cX12_hide 74 = .ok (.aload_n 0, 1) := by decide +kernel
theorem dX12_hide_75 : decode cX12_hide 75 = .ok (.getfield 31, 3) := by decide +kernel
theorem dX12_hide_78 : decode cX12_hide 78 = .ok (.invokestatic 154, 3) := by decide +kernel
theorem dX12_hide_81 : decode cX12_hide 81 = .ok (.aload_n 0, 1) := by decide +kernel
theorem dX12_hide_82 : decode cX12_hide 82 = .ok (.getfield 31, 3) := by decide +kernel
theorem dX12_hide_85 : decode cX12_hide 85 = .ok (.invokestatic 171, 3) := by decide +kernel
theorem dX12_hide_88 : decode cX12_hide 88 = .ok (.iload 7, 2) := by decide +kernel
theorem dX12_hide_90 : decode cX12_hide 90 = .ok (.if_icmp .ne 8, 3) := by decide +kernel
theorem dX12_hide_93 : decode cX12_hide 93 = .ok (.iload 6, 2) := by decide +kernel
theorem dX12_hide_95 : decode cX12_hide 95 = .ok (.goto 5, 3) := by decide +kernel
theorem dX12_hide_98 : decode cX12_hide 98 = .ok (.iload 8, 2) := by decide +kernel
theorem dX12_hide_100 : decode cX12_hide 100 = .ok (.istore 6, 2) := by decide +kernel
theorem dX12_hide_102 : decode cX12_hide 102 = .ok (.aload_n 0, 1) := by decide +kernel
theorem dX12_hide_103 : decode cX12_hide 103 = .ok (.getfield 31, 3) := by decide +kernel
theorem dX12_hide_106 : decode cX12_hide 106 = .ok (.invokestatic 171, 3) := by decide +kernel
theorem dX12_hide_109 : decode cX12_hide 109 = .ok (.istore 7, 2) := by decide +kernel
theorem dX12_hide_111 : decode cX12_hide 111 = .ok (.iinc 8 1, 3) := by decide +kernel
theorem dX12_hide_114 : decode cX12_hide 114 = .ok (.goto (-47), 3) := by decide +kernel
theorem dX12_hide_117 : decode cX12_hide 117 = .ok (.iload 7, 2) := by decide +kernel
theorem dX12_hide_119 : decode cX12_hide 119 = .ok (.invokestatic 191, 3) := by decide +kernel
theorem dX12_hide_122 : decode cX12_hide 122 = .ok (.istore 8, 2) := by decide +kernel
theorem dX12_hide_124 : decode cX12_hide 124 = .ok (.iload 8, 2) := by decide +kernel
theorem dX12_hide_126 : decode cX12_hide 126 = .ok (.iload_n 3, 1) := by decide +kernel
theorem dX12_hide_127 : decode cX12_hide 127 = .ok (.if_icmp .ne 26, 3) := by decide +kernel
theorem dX12_hide_130 : decode cX12_hide 130 = .ok (.iload 6, 2) := by decide +kernel
theorem dX12_hide_132 : decode cX12_hide 132 = .ok (.iload 4, 2) := by decide +kernel
theorem dX12_hide_134 : decode cX12_hide 134 = .ok (.if_icmp .ne 19, 3) := by decide +kernel
theorem dX12_hide_137 : decode cX12_hide 137 = .ok (.iload 5, 2) := by decide +kernel
theorem dX12_hide_139 : decode cX12_hide 139 = .ok (.invokestatic 191, 3) := by decide +kernel
theorem dX12_hide_142 : decode cX12_hide 142 = .ok (.iload_n 2, 1) := by decide +kernel
theorem dX12_hide_143 : decode cX12_hide 143 = .ok (.invokestatic 191, 3) := by decide +kernel
theorem dX12_hide_146 : decode cX12_hide 146 = .ok (.if_icmp .ge 7, 3) := by decide +kernel
theorem dX12_hide_149 : decode cX12_hide 149 = .ok (.iconst 1, 1) := by decide +kernel
theorem dX12_hide_150 : decode cX12_hide 150 = .ok (.goto 4, 3) := by decide +kernel
theorem dX12_hide_153 : decode cX12_hide 153 = .ok (.iconst 0, 1) := by decide +kernel
theorem dX12_hide_154 : decode cX12_hide 154 = .ok (.istore 9, 2) := by decide +kernel
theorem dX12_hide_156 : decode cX12_hide 156 = .ok (.iload_n 2, 1) := by decide +kernel
theorem dX12_hide_157 : decode cX12_hide 157 = .ok (.ldc 47, 2) := by decide +kernel
theorem dX12_hide_159 : decode cX12_hide 159 = .ok (.if_icmp .eq 27, 3) := by decide +kernel
theorem dX12_hide_162 : decode cX12_hide 162 = .ok (.iload 8, 2) := by decide +kernel
theorem dX12_hide_164 : decode cX12_hide 164 = .ok (.iload_n 3, 1) := by decide +kernel
theorem dX12_hide_165 : decode cX12_hide 165 = .ok (.if_icmp .gt 21, 3) := by decide +kernel
theorem dX12_hide_168 : decode cX12_hide 168 = .ok (.iload 8, 2) := by decide +kernel
theorem dX12_hide_170 : decode cX12_hide 170 = .ok (.iload_n 3, 1) := by decide +kernel
theorem dX12_hide_171 : decode cX12_hide 171 = .ok (.if_icmp .ne 10, 3) := by decide +kernel
theorem dX12_hide_174 : decode cX12_hide 174 = .ok (.iload 6, 2) := by decide +kernel
theorem dX12_hide_176 : decode cX12_hide 176 = .ok (.iload 4, 2) := by decide +kernel
theorem dX12_hide_178 : decode cX12_hide 178 = .ok (.if_icmp .lt 8, 3) := by decide +kernel
theorem dX12_hide_181 : decode cX12_hide 181 = .ok (.iload 9, 2) := by decide +kernel
theorem dX12_hide_183 : decode cX12_hide 183 = .ok (.ifCond .eq 7, 3) := by decide +kernel
theorem dX12_hide_186 : decode cX12_hide 186 = .ok (.iconst 1, 1) := by decide +kernel
theorem dX12_hide_187 : decode cX12_hide 187 = .ok (.goto 4, 3) := by decide +kernel
theorem dX12_hide_190 : decode cX12_hide 190 = .ok (.iconst 0, 1) := by decide +kernel
theorem dX12_hide_191 : decode cX12_hide 191 = .ok (.istore 10, 2) := by decide +kernel
theorem dX12_hide_193 : decode cX12_hide 193 = .ok (.iload 10, 2) := by decide +kernel
theorem dX12_hide_195 : decode cX12_hide 195 = .ok (.ifCond .eq 8, 3) := by decide +kernel
theorem dX12_hide_198 : decode cX12_hide 198 = .ok (.iload 5, 2) := by decide +kernel
theorem dX12_hide_200 : decode cX12_hide 200 = .ok (.goto 4, 3) := by decide +kernel
theorem dX12_hide_203 : decode cX12_hide 203 = .ok (.iload_n 2, 1) := by decide +kernel
theorem dX12_hide_204 : decode cX12_hide 204 = .ok (.istore_n 2, 1) := by decide +kernel
theorem dX12_hide_205 : decode cX12_hide 205 = .ok (.iload 10, 2) := by decide +kernel
theorem dX12_hide_207 : decode cX12_hide 207 = .ok (.ifCond .eq 8, 3) := by decide +kernel
theorem dX12_hide_210 : decode cX12_hide 210 = .ok (.iload 8, 2) := by decide +kernel
theorem dX12_hide_212 : decode cX12_hide 212 = .ok (.goto 4, 3) := by decide +kernel
theorem dX12_hide_215 : decode cX12_hide 215 = .ok (.iload_n 3, 1) := by decide +kernel
theorem dX12_hide_216 : decode cX12_hide 216 = .ok (.istore_n 3, 1) := by decide +kernel
theorem dX12_hide_217 : decode cX12_hide 217 = .ok (.iload 10, 2) := by decide +kernel
theorem dX12_hide_219 : decode cX12_hide 219 = .ok (.ifCond .eq 8, 3) := by decide +kernel
theorem dX12_hide_222 : decode cX12_hide 222 = .ok (.iload 6, 2) := by decide +kernel
theorem dX12_hide_224 : decode cX12_hide 224 = .ok (.goto 5, 3) := by decide +kernel
theorem dX12_hide_227 : decode cX12_hide 227 = .ok (.iload 4, 2) := by decide +kernel
theorem dX12_hide_229 : decode cX12_hide 229 = .ok (.istore 4, 2) := by decide +kernel
theorem dX12_hide_231 : decode cX12_hide 231 = .ok (.iinc 5 1, 3) := by decide +kernel
theorem dX12_hide_234 : decode cX12_hide 234 = .ok (.goto (-201), 3) := by decide +kernel
theorem dX12_hide_237 : decode cX12_hide 237 = .ok (.iload_n 1, 1) := by decide +kernel
theorem dX12_hide_238 : decode cX12_hide 238 = .ok (.ifCond .ne 7, 3) := by decide +kernel
theorem dX12_hide_241 : decode cX12_hide 241 = .ok (.iload_n 3, 1) := by decide +kernel
theorem dX12_hide_242 : decode cX12_hide 242 = .ok (.goto 4, 3) := by decide +kernel
theorem dX12_hide_245 : decode cX12_hide 245 = .ok (.iload_n 2, 1) := by decide +kernel
theorem dX12_hide_246 : decode cX12_hide 246 = .ok (.ireturn, 1) := by decide +kernel
theorem dX12_beside_0 : decode cX12_beside 0 = .ok (.aload_n 0, 1) := by decide +kernel
theorem dX12_beside_1 : decode cX12_beside 1 = .ok (.iload_n 1, 1) := by decide +kernel
theorem dX12_beside_2 : decode cX12_beside 2 = .ok (.invokevirtual 165, 3) := by decide +kernel
theorem dX12_beside_5 : decode cX12_beside 5 = .ok (.ifCond .eq 12, 3) := by decide +kernel
theorem dX12_beside_8 : decode cX12_beside 8 = .ok (.iload_n 2, 1) := by decide +kernel
theorem dX12_beside_9 : decode cX12_beside 9 = .ok (.iconst 0, 1) := by decide +kernel
theorem dX12_beside_10 : decode cX12_beside 10 = .ok (.iconst 1, 1) := by decide +kernel
theorem dX12_beside_11 : decode cX12_beside 11 = .ok (.invokestatic 53, 3) := by decide +kernel
theorem dX12_beside_14 : decode cX12_beside 14 = .ok (.ifCond .ne 6, 3) := by decide +kernel
theorem dX12_beside_17 : decode cX12_beside 17 = .ok (.ldc 61, 2) := by decide +kernel
theorem dX12_beside_19 : decode cX12_beside 19 = .ok (.ireturn, 1) := by decide +kernel
theorem dX12_beside_20 : decode cX12_beside 20 = .ok (.aload_n 0, 1) := by decide +kernel
theorem dX12_beside_21 : decode cX12_beside 21 = .ok (.getfield 25, 3) := by decide +kernel
theorem dX12_beside_24 : decode cX12_beside 24 = .ok (.iload_n 1, 1) := by decide +kernel
theorem dX12_beside_25 : decode cX12_beside 25 = .ok (.invokestatic 135, 3) := by decide +kernel
theorem dX12_beside_28 : decode cX12_beside 28 = .ok (.ifCond .ne 20, 3) := by decide +kernel
theorem dX12_beside_31 : decode cX12_beside 31 = .ok (.aload_n 0, 1) := by decide +kernel
theorem dX12_beside_32 : decode cX12_beside 32 = .ok (.getfield 25, 3) := by decide +kernel
theorem dX12_beside_35 : decode cX12_beside 35 = .ok (.iconst 5, 1) := by decide +kernel
theorem dX12_beside_36 : decode cX12_beside 36 = .ok (.bipush 6, 2) := by decide +kernel
theorem dX12_beside_38 : decode cX12_beside 38 = .ok (.iload_n 1, 1) := by decide +kernel
theorem dX12_beside_39 : decode cX12_beside 39 = .ok (.imul, 1) := by decide +kernel
theorem dX12_beside_40 : decode cX12_beside 40 = .ok (.iadd, 1) := by decide +kernel
theorem dX12_beside_41 : decode cX12_beside 41 = .ok (.iconst 5, 1) := by decide +kernel
theorem dX12_beside_42 : decode cX12_beside 42 = .ok (.iadd, 1) := by decide +kernel
theorem dX12_beside_43 : decode cX12_beside 43 = .ok (.iaload, 1) := by decide +kernel
theorem dX12_beside_44 : decode cX12_beside 44 = .ok (.iconst 1, 1) := by decide +kernel
theorem dX12_beside_45 : decode cX12_beside 45 = .ok (.if_icmp .ne 6, 3) := by decide +kernel
theorem dX12_beside_48 : decode cX12_beside 48 = .ok (.ldc 161, 2) := by decide +kernel
theorem dX12_beside_50 : decode cX12_beside 50 = .ok (.ireturn, 1) := by decide +kernel
theorem dX12_beside_51 : decode cX12_beside 51 = .ok (.ldc 47, 2) := by decide +kernel
theorem dX12_beside_53 : decode cX12_beside 53 = .ok (.istore_n 3, 1) := by decide +kernel
theorem dX12_beside_54 : decode cX12_beside 54 = .ok (.ldc 47, 2) := by decide +kernel
theorem dX12_beside_56 : decode cX12_beside 56 = .ok (.istore 4, 2) := by decide +kernel
theorem dX12_beside_58 : decode cX12_beside 58 = .ok (.iconst 0, 1) := by decide +kernel
theorem dX12_beside_59 : decode cX12_beside 59 = .ok (.istore 5, 2) := by decide +kernel
theorem dX12_beside_61 : decode cX12_beside 61 = .ok (.iload 5, 2) := by decide +kernel
theorem dX12_beside_63 : decode cX12_beside 63 = .ok (.aload_n 0, 1) := by decide +kernel
theorem dX12_beside_64 : decode cX12_beside 64 = .ok (.getfield 25, 3) := by decide +kernel
theorem dX12_beside_67 : decode cX12_beside 67 = .ok (.iconst 0, 1) := by decide +kernel
theorem dX12_beside_68 : decode cX12_beside 68 = .ok (.iaload, 1) := by decide +kernel
theorem dX12_beside_69 : decode cX12_beside 69 = .ok (.if_icmp .gt 91, 3) := by decide +kernel
theorem dX12_beside_72 : decode cX12_beside 72 = .ok (.aload_n 0, 1) := by decide +kernel
theorem dX12_beside_73 : decode cX12_beside 73 = .ok (.iconst 0, 1) := by decide +kernel
theorem dX12_beside_74 : decode cX12_beside 74 = .ok (.invokevirtual 177, 3) := by decide +kernel
theorem dX12_beside_77 : decode cX12_beside 77 = .ok (.aload_n 0, 1) := by decide +kernel
theorem dX12_beside_78 : decode cX12_beside 78 = .ok (.getfield 31, 3) := by decide +kernel
theorem dX12_beside_81 : decode cX12_beside 81 = .ok (.iconst 5, 1) := by decide +kernel
theorem dX12_beside_82 : decode cX12_beside 82 = .ok (.bipush 6, 2) := by decide +kernel
theorem dX12_beside_84 : decode cX12_beside 84 = .ok (.iload_n 1, 1) := by decide +kernel
theorem dX12_beside_85 : decode cX12_beside 85 = .ok (.imul, 1) := by decide +kernel
theorem dX12_beside_86 : decode cX12_beside 86 = .ok (.iadd, 1) := by decide +kernel
theorem dX12_beside_87 : decode cX12_beside 87 = .ok (.iconst 1, 1) := by decide +kernel
theorem dX12_beside_88 : decode cX12_beside 88 = .ok (.iadd, 1) := by decide +kernel
theorem dX12_beside_89 : decode cX12_beside 89 = .ok (.iload 5, 2) := by decide +kernel
theorem dX12_beside_91 : decode cX12_beside 91 = .ok (.iastore, 1) := by decide +kernel
theorem dX12_beside_92 : decode cX12_beside 92 = .ok (.aload_n 0, 1) := by decide +kernel
theorem dX12_beside_93 : decode cX12_beside 93 = .ok (.iload_n 1, 1) := by decide +kernel
theorem dX12_beside_94 : decode cX12_beside 94 = .ok (.bipush 99, 2) := by decide +kernel
theorem dX12_beside_96 : decode cX12_beside 96 = .ok (.invokevirtual 181, 3) := by decide +kernel
theorem dX12_beside_99 : decode cX12_beside 99 = .ok (.istore 6, 2) := by decide +kernel
theorem dX12_beside_101 : decode cX12_beside 101 = .ok (.iload 6, 2) := by decide +kernel
theorem dX12_beside_103 : decode cX12_beside 103 = .ok (.ldc 47, 2) := by decide +kernel
theorem dX12_beside_105 : decode cX12_beside 105 = .ok (.if_icmp .eq 20, 3) := by decide +kernel
theorem dX12_beside_108 : decode cX12_beside 108 = .ok (.iload_n 3, 1) := by decide +kernel
theorem dX12_beside_109 : decode cX12_beside 109 = .ok (.ldc 47, 2) := by decide +kernel
theorem dX12_beside_111 : decode cX12_beside 111 = .ok (.if_icmp .eq 10, 3) := by decide +kernel
theorem dX12_beside_114 : decode cX12_beside 114 = .ok (.iload 6, 2) := by decide +kernel
theorem dX12_beside_116 : decode cX12_beside 116 = .ok (.iload 4, 2) := by decide +kernel
theorem dX12_beside_118 : decode cX12_beside 118 = .ok (.if_icmp .ge 7, 3) := by decide +kernel
theorem dX12_beside_121 : decode cX12_beside 121 = .ok (.iconst 1, 1) := by decide +kernel
theorem dX12_beside_122 : decode cX12_beside 122 = .ok (.goto 4, 3) := by decide +kernel
theorem dX12_beside_125 : decode cX12_beside 125 = .ok (.iconst 0, 1) := by decide +kernel
theorem dX12_beside_126 : decode cX12_beside 126 = .ok (.istore 7, 2) := by decide +kernel
theorem dX12_beside_128 : decode cX12_beside 128 = .ok (.iload 7, 2) := by decide +kernel
theorem dX12_beside_130 : decode cX12_beside 130 = .ok (.ifCond .eq 8, 3) := by decide +kernel
theorem dX12_beside_133 : decode cX12_beside 133 = .ok (.iload 5, 2) := by decide +kernel
theorem dX12_beside_135 : decode cX12_beside 135 = .ok (.goto 4, 3) := by decide +kernel
theorem dX12_beside_138 : decode cX12_beside 138 = .ok (.iload_n 3, 1) := by decide +kernel
theorem dX12_beside_139 : decode cX12_beside 139 = .ok (.istore_n 3, 1) := by decide +kernel
theorem dX12_beside_140 : decode cX12_beside 140 = .ok (.iload 7, 2) := by decide +kernel
theorem dX12_beside_142 : decode cX12_beside 142 = .ok (.ifCond .eq 8, 3) := by decide +kernel
theorem dX12_beside_145 : decode cX12_beside 145 = .ok (.iload 6, 2) := by decide +kernel
theorem dX12_beside_147 : decode cX12_beside 147 = .ok (.goto 5, 3) := by decide +kernel
theorem dX12_beside_150 : decode cX12_beside 150 = .ok (.iload 4, 2) := by decide +kernel
theorem dX12_beside_152 : decode cX12_beside 152 = .ok (.istore 4, 2) := by decide +kernel
theorem dX12_beside_154 : decode cX12_beside 154 = .ok (.iinc 5 1, 3) := by decide +kernel
theorem dX12_beside_157 : decode cX12_beside 157 = .ok (.goto (-96), 3) := by decide +kernel
theorem dX12_beside_160 : decode cX12_beside 160 = .ok (.iload_n 2, 1) := by decide +kernel
theorem dX12_beside_161 : decode cX12_beside 161 = .ok (.ifCond .ne 7, 3) := by decide +kernel
theorem dX12_beside_164 : decode cX12_beside 164 = .ok (.iload_n 3, 1) := by decide +kernel
theorem dX12_beside_165 : decode cX12_beside 165 = .ok (.goto 5, 3) := by decide +kernel
theorem dX12_beside_168 : decode cX12_beside 168 = .ok (.iload 4, 2) := by decide +kernel
theorem dX12_beside_170 : decode cX12_beside 170 = .ok (.ireturn, 1) := by decide +kernel
theorem dX12_goesSo_0 : decode cX12_goesSo 0 = .ok (.iconst 1, 1) := by decide +kernel
theorem dX12_goesSo_1 : decode cX12_goesSo 1 = .ok (.istore_n 3, 1) := by decide +kernel
theorem dX12_goesSo_2 : decode cX12_goesSo 2 = .ok (.iconst 0, 1) := by decide +kernel
theorem dX12_goesSo_3 : decode cX12_goesSo 3 = .ok (.istore 4, 2) := by decide +kernel
theorem dX12_goesSo_5 : decode cX12_goesSo 5 = .ok (.iload 4, 2) := by decide +kernel
theorem dX12_goesSo_7 : decode cX12_goesSo 7 = .ok (.iload_n 2, 1) := by decide +kernel
theorem dX12_goesSo_8 : decode cX12_goesSo 8 = .ok (.if_icmp .ge 44, 3) := by decide +kernel
theorem dX12_goesSo_11 : decode cX12_goesSo 11 = .ok (.aload_n 0, 1) := by decide +kernel
theorem dX12_goesSo_12 : decode cX12_goesSo 12 = .ok (.getfield 31, 3) := by decide +kernel
theorem dX12_goesSo_15 : decode cX12_goesSo 15 = .ok (.invokestatic 154, 3) := by decide +kernel
theorem dX12_goesSo_18 : decode cX12_goesSo 18 = .ok (.iload_n 3, 1) := by decide +kernel
theorem dX12_goesSo_19 : decode cX12_goesSo 19 = .ok (.ifCond .eq 25, 3) := by decide +kernel
theorem dX12_goesSo_22 : decode cX12_goesSo 22 = .ok (.aload_n 0, 1) := by decide +kernel
theorem dX12_goesSo_23 : decode cX12_goesSo 23 = .ok (.getfield 31, 3) := by decide +kernel
theorem dX12_goesSo_26 : decode cX12_goesSo 26 = .ok (.iconst 1, 1) := by decide +kernel
theorem dX12_goesSo_27 : decode cX12_goesSo 27 = .ok (.iaload, 1) := by decide +kernel
theorem dX12_goesSo_28 : decode cX12_goesSo 28 = .ok (.aload_n 0, 1) := by decide +kernel
theorem dX12_goesSo_29 : decode cX12_goesSo 29 = .ok (.getfield 16, 3) := by decide +kernel
theorem dX12_goesSo_32 : decode cX12_goesSo 32 = .ok (.iload_n 1, 1) := by decide +kernel
theorem dX12_goesSo_33 : decode cX12_goesSo 33 = .ok (.iload 4, 2) := by decide +kernel
theorem dX12_goesSo_35 : decode cX12_goesSo 35 = .ok (.iadd, 1) := by decide +kernel
theorem dX12_goesSo_36 : decode cX12_goesSo 36 = .ok (.iaload, 1) := by decide +kernel
theorem dX12_goesSo_37 : decode cX12_goesSo 37 = .ok (.if_icmp .ne 7, 3) := by decide +kernel
theorem dX12_goesSo_40 : decode cX12_goesSo 40 = .ok (.iconst 1, 1) := by decide +kernel
theorem dX12_goesSo_41 : decode cX12_goesSo 41 = .ok (.goto 4, 3) := by decide +kernel
theorem dX12_goesSo_44 : decode cX12_goesSo 44 = .ok (.iconst 0, 1) := by decide +kernel
theorem dX12_goesSo_45 : decode cX12_goesSo 45 = .ok (.istore_n 3, 1) := by decide +kernel
theorem dX12_goesSo_46 : decode cX12_goesSo 46 = .ok (.iinc 4 1, 3) := by decide +kernel
theorem dX12_goesSo_49 : decode cX12_goesSo 49 = .ok (.goto (-44), 3) := by decide +kernel
theorem dX12_goesSo_52 : decode cX12_goesSo 52 = .ok (.iload_n 3, 1) := by decide +kernel
theorem dX12_goesSo_53 : decode cX12_goesSo 53 = .ok (.ireturn, 1) := by decide +kernel
theorem dX12_fits_0 : decode cX12_fits 0 = .ok (.aload_n 0, 1) := by decide +kernel
theorem dX12_fits_1 : decode cX12_fits 1 = .ok (.iload_n 1, 1) := by decide +kernel
theorem dX12_fits_2 : decode cX12_fits 2 = .ok (.invokevirtual 165, 3) := by decide +kernel
theorem dX12_fits_5 : decode cX12_fits 5 = .ok (.ifCond .eq 31, 3) := by decide +kernel
theorem dX12_fits_8 : decode cX12_fits 8 = .ok (.iload_n 2, 1) := by decide +kernel
theorem dX12_fits_9 : decode cX12_fits 9 = .ok (.invokestatic 57, 3) := by decide +kernel
theorem dX12_fits_12 : decode cX12_fits 12 = .ok (.ifCond .eq 24, 3) := by decide +kernel
theorem dX12_fits_15 : decode cX12_fits 15 = .ok (.iload 4, 2) := by decide +kernel
theorem dX12_fits_17 : decode cX12_fits 17 = .ok (.iconst 1, 1) := by decide +kernel
theorem dX12_fits_18 : decode cX12_fits 18 = .ok (.bipush 16, 2) := by decide +kernel
theorem dX12_fits_20 : decode cX12_fits 20 = .ok (.invokestatic 53, 3) := by decide +kernel
theorem dX12_fits_23 : decode cX12_fits 23 = .ok (.ifCond .eq 13, 3) := by decide +kernel
theorem dX12_fits_26 : decode cX12_fits 26 = .ok (.iload 5, 2) := by decide +kernel
theorem dX12_fits_28 : decode cX12_fits 28 = .ok (.iconst 0, 1) := by decide +kernel
theorem dX12_fits_29 : decode cX12_fits 29 = .ok (.iconst 2, 1) := by decide +kernel
theorem dX12_fits_30 : decode cX12_fits 30 = .ok (.invokestatic 53, 3) := by decide +kernel
theorem dX12_fits_33 : decode cX12_fits 33 = .ok (.ifCond .ne 6, 3) := by decide +kernel
theorem dX12_fits_36 : decode cX12_fits 36 = .ok (.ldc 61, 2) := by decide +kernel
theorem dX12_fits_38 : decode cX12_fits 38 = .ok (.ireturn, 1) := by decide +kernel
theorem dX12_fits_39 : decode cX12_fits 39 = .ok (.aload_n 0, 1) := by decide +kernel
theorem dX12_fits_40 : decode cX12_fits 40 = .ok (.iload_n 2, 1) := by decide +kernel
theorem dX12_fits_41 : decode cX12_fits 41 = .ok (.invokevirtual 69, 3) := by decide +kernel
theorem dX12_fits_44 : decode cX12_fits 44 = .ok (.ifCond .eq 9, 3) := by decide +kernel
theorem dX12_fits_47 : decode cX12_fits 47 = .ok (.aload_n 0, 1) := by decide +kernel
theorem dX12_fits_48 : decode cX12_fits 48 = .ok (.iconst 1, 1) := by decide +kernel
theorem dX12_fits_49 : decode cX12_fits 49 = .ok (.invokevirtual 62, 3) := by decide +kernel
theorem dX12_fits_52 : decode cX12_fits 52 = .ok (.ireturn, 1) := by decide +kernel
theorem dX12_fits_53 : decode cX12_fits 53 = .ok (.aload_n 0, 1) := by decide +kernel
theorem dX12_fits_54 : decode cX12_fits 54 = .ok (.iload_n 2, 1) := by decide +kernel
theorem dX12_fits_55 : decode cX12_fits 55 = .ok (.iload_n 3, 1) := by decide +kernel
theorem dX12_fits_56 : decode cX12_fits 56 = .ok (.iload 4, 2) := by decide +kernel
theorem dX12_fits_58 : decode cX12_fits 58 = .ok (.invokevirtual 76, 3) := by decide +kernel
theorem dX12_fits_61 : decode cX12_fits 61 = .ok (.ifCond .ne 9, 3) := by decide +kernel
theorem dX12_fits_64 : decode cX12_fits 64 = .ok (.aload_n 0, 1) := by decide +kernel
theorem dX12_fits_65 : decode cX12_fits 65 = .ok (.iconst 2, 1) := by decide +kernel
theorem dX12_fits_66 : decode cX12_fits 66 = .ok (.invokevirtual 62, 3) := by decide +kernel
theorem dX12_fits_69 : decode cX12_fits 69 = .ok (.ireturn, 1) := by decide +kernel
theorem dX12_fits_70 : decode cX12_fits 70 = .ok (.iconst 5, 1) := by decide +kernel
theorem dX12_fits_71 : decode cX12_fits 71 = .ok (.bipush 6, 2) := by decide +kernel
theorem dX12_fits_73 : decode cX12_fits 73 = .ok (.iload_n 1, 1) := by decide +kernel
theorem dX12_fits_74 : decode cX12_fits 74 = .ok (.imul, 1) := by decide +kernel
theorem dX12_fits_75 : decode cX12_fits 75 = .ok (.iadd, 1) := by decide +kernel
theorem dX12_fits_76 : decode cX12_fits 76 = .ok (.iload 5, 2) := by decide +kernel
theorem dX12_fits_78 : decode cX12_fits 78 = .ok (.ifCond .ne 7, 3) := by decide +kernel
theorem dX12_fits_81 : decode cX12_fits 81 = .ok (.iconst 0, 1) := by decide +kernel
theorem dX12_fits_82 : decode cX12_fits 82 = .ok (.goto 14, 3) := by decide +kernel
theorem dX12_fits_85 : decode cX12_fits 85 = .ok (.iload 5, 2) := by decide +kernel
theorem dX12_fits_87 : decode cX12_fits 87 = .ok (.iconst 1, 1) := by decide +kernel
theorem dX12_fits_88 : decode cX12_fits 88 = .ok (.if_icmp .ne 7, 3) := by decide +kernel
theorem dX12_fits_91 : decode cX12_fits 91 = .ok (.iconst 3, 1) := by decide +kernel
theorem dX12_fits_92 : decode cX12_fits 92 = .ok (.goto 4, 3) := by decide +kernel
theorem dX12_fits_95 : decode cX12_fits 95 = .ok (.iconst 2, 1) := by decide +kernel
theorem dX12_fits_96 : decode cX12_fits 96 = .ok (.iadd, 1) := by decide +kernel
theorem dX12_fits_97 : decode cX12_fits 97 = .ok (.istore 6, 2) := by decide +kernel
theorem dX12_fits_99 : decode cX12_fits 99 = .ok (.iload 5, 2) := by decide +kernel
theorem dX12_fits_101 : decode cX12_fits 101 = .ok (.ifCond .ne 7, 3) := by decide +kernel
theorem dX12_fits_104 : decode cX12_fits 104 = .ok (.iconst 1, 1) := by decide +kernel
theorem dX12_fits_105 : decode cX12_fits 105 = .ok (.goto 4, 3) := by decide +kernel
theorem dX12_fits_108 : decode cX12_fits 108 = .ok (.iconst 0, 1) := by decide +kernel
theorem dX12_fits_109 : decode cX12_fits 109 = .ok (.istore 7, 2) := by decide +kernel
theorem dX12_fits_111 : decode cX12_fits 111 = .ok (.iload 5, 2) := by decide +kernel
theorem dX12_fits_113 : decode cX12_fits 113 = .ok (.ifCond .ne 7, 3) := by decide +kernel
theorem dX12_fits_116 : decode cX12_fits 116 = .ok (.iconst 5, 1) := by decide +kernel
theorem dX12_fits_117 : decode cX12_fits 117 = .ok (.goto 20, 3) := by decide +kernel
theorem dX12_fits_120 : decode cX12_fits 120 = .ok (.iload 5, 2) := by decide +kernel
theorem dX12_fits_122 : decode cX12_fits 122 = .ok (.iconst 1, 1) := by decide +kernel
theorem dX12_fits_123 : decode cX12_fits 123 = .ok (.if_icmp .ne 8, 3) := by decide +kernel
theorem dX12_fits_126 : decode cX12_fits 126 = .ok (.bipush 9, 2) := by decide +kernel
theorem dX12_fits_128 : decode cX12_fits 128 = .ok (.goto 9, 3) := by decide +kernel
theorem dX12_fits_131 : decode cX12_fits 131 = .ok (.aload_n 0, 1) := by decide +kernel
theorem dX12_fits_132 : decode cX12_fits 132 = .ok (.getfield 25, 3) := by decide +kernel
theorem dX12_fits_135 : decode cX12_fits 135 = .ok (.iconst 0, 1) := by decide +kernel
theorem dX12_fits_136 : decode cX12_fits 136 = .ok (.iaload, 1) := by decide +kernel
theorem dX12_fits_137 : decode cX12_fits 137 = .ok (.istore 8, 2) := by decide +kernel
theorem dX12_fits_139 : decode cX12_fits 139 = .ok (.iconst 0, 1) := by decide +kernel
theorem dX12_fits_140 : decode cX12_fits 140 = .ok (.istore 9, 2) := by decide +kernel
theorem dX12_fits_142 : decode cX12_fits 142 = .ok (.iload 7, 2) := by decide +kernel
theorem dX12_fits_144 : decode cX12_fits 144 = .ok (.istore 10, 2) := by decide +kernel
theorem dX12_fits_146 : decode cX12_fits 146 = .ok (.iload 10, 2) := by decide +kernel
theorem dX12_fits_148 : decode cX12_fits 148 = .ok (.iload 8, 2) := by decide +kernel
theorem dX12_fits_150 : decode cX12_fits 150 = .ok (.if_icmp .gt 51, 3) := by decide +kernel
theorem dX12_fits_153 : decode cX12_fits 153 = .ok (.aload_n 0, 1) := by decide +kernel
theorem dX12_fits_154 : decode cX12_fits 154 = .ok (.iconst 0, 1) := by decide +kernel
theorem dX12_fits_155 : decode cX12_fits 155 = .ok (.invokevirtual 177, 3) := by decide +kernel
theorem dX12_fits_158 : decode cX12_fits 158 = .ok (.aload_n 0, 1) := by decide +kernel
theorem dX12_fits_159 : decode cX12_fits 159 = .ok (.getfield 31, 3) := by decide +kernel
theorem dX12_fits_162 : decode cX12_fits 162 = .ok (.iload 6, 2) := by decide +kernel
theorem dX12_fits_164 : decode cX12_fits 164 = .ok (.iload 10, 2) := by decide +kernel
theorem dX12_fits_166 : decode cX12_fits 166 = .ok (.iastore, 1) := by decide +kernel
theorem dX12_fits_167 : decode cX12_fits 167 = .ok (.iload 9, 2) := by decide +kernel
theorem dX12_fits_169 : decode cX12_fits 169 = .ok (.aload_n 0, 1) := by decide +kernel
theorem dX12_fits_170 : decode cX12_fits 170 = .ok (.bipush 40, 2) := by decide +kernel
theorem dX12_fits_172 : decode cX12_fits 172 = .ok (.iload_n 2, 1) := by decide +kernel
theorem dX12_fits_173 : decode cX12_fits 173 = .ok (.imul, 1) := by decide +kernel
theorem dX12_fits_174 : decode cX12_fits 174 = .ok (.iload_n 3, 1) := by decide +kernel
theorem dX12_fits_175 : decode cX12_fits 175 = .ok (.iadd, 1) := by decide +kernel
theorem dX12_fits_176 : decode cX12_fits 176 = .ok (.iload 4, 2) := by decide +kernel
theorem dX12_fits_178 : decode cX12_fits 178 = .ok (.invokevirtual 194, 3) := by decide +kernel
theorem dX12_fits_181 : decode cX12_fits 181 = .ok (.ifCond .eq 10, 3) := by decide +kernel
theorem dX12_fits_184 : decode cX12_fits 184 = .ok (.iconst 1, 1) := by decide +kernel
theorem dX12_fits_185 : decode cX12_fits 185 = .ok (.iload 10, 2) := by decide +kernel
theorem dX12_fits_187 : decode cX12_fits 187 = .ok (.ishl, 1) := by decide +kernel
theorem dX12_fits_188 : decode cX12_fits 188 = .ok (.goto 4, 3) := by decide +kernel
theorem dX12_fits_191 : decode cX12_fits 191 = .ok (.iconst 0, 1) := by decide +kernel
theorem dX12_fits_192 : decode cX12_fits 192 = .ok (.ior, 1) := by decide +kernel
theorem dX12_fits_193 : decode cX12_fits 193 = .ok (.istore 9, 2) := by decide +kernel
theorem dX12_fits_195 : decode cX12_fits 195 = .ok (.iinc 10 1, 3) := by decide +kernel
theorem dX12_fits_198 : decode cX12_fits 198 = .ok (.goto (-52), 3) := by decide +kernel
theorem dX12_fits_201 : decode cX12_fits 201 = .ok (.aload_n 0, 1) := by decide +kernel
theorem dX12_fits_202 : decode cX12_fits 202 = .ok (.iload 9, 2) := by decide +kernel
theorem dX12_fits_204 : decode cX12_fits 204 = .ok (.invokevirtual 66, 3) := by decide +kernel
theorem dX12_fits_207 : decode cX12_fits 207 = .ok (.ireturn, 1) := by decide +kernel
theorem dX12_hidden_0 : decode cX12_hidden 0 = .ok (.aload_n 0, 1) := by decide +kernel
theorem dX12_hidden_1 : decode cX12_hidden 1 = .ok (.iload_n 1, 1) := by decide +kernel
theorem dX12_hidden_2 : decode cX12_hidden 2 = .ok (.invokevirtual 165, 3) := by decide +kernel
theorem dX12_hidden_5 : decode cX12_hidden 5 = .ok (.ifCond .eq 30, 3) := by decide +kernel
theorem dX12_hidden_8 : decode cX12_hidden 8 = .ok (.iload_n 2, 1) := by decide +kernel
theorem dX12_hidden_9 : decode cX12_hidden 9 = .ok (.invokestatic 174, 3) := by decide +kernel
theorem dX12_hidden_12 : decode cX12_hidden 12 = .ok (.ifCond .eq 23, 3) := by decide +kernel
theorem dX12_hidden_15 : decode cX12_hidden 15 = .ok (.iload_n 3, 1) := by decide +kernel
theorem dX12_hidden_16 : decode cX12_hidden 16 = .ok (.iconst 0, 1) := by decide +kernel
theorem dX12_hidden_17 : decode cX12_hidden 17 = .ok (.bipush 10, 2) := by decide +kernel
theorem dX12_hidden_19 : decode cX12_hidden 19 = .ok (.invokestatic 53, 3) := by decide +kernel
theorem dX12_hidden_22 : decode cX12_hidden 22 = .ok (.ifCond .eq 13, 3) := by decide +kernel
theorem dX12_hidden_25 : decode cX12_hidden 25 = .ok (.iload 4, 2) := by decide +kernel
theorem dX12_hidden_27 : decode cX12_hidden 27 = .ok (.iconst 0, 1) := by decide +kernel
theorem dX12_hidden_28 : decode cX12_hidden 28 = .ok (.iconst 1, 1) := by decide +kernel
theorem dX12_hidden_29 : decode cX12_hidden 29 = .ok (.invokestatic 53, 3) := by decide +kernel
theorem dX12_hidden_32 : decode cX12_hidden 32 = .ok (.ifCond .ne 6, 3) := by decide +kernel
theorem dX12_hidden_35 : decode cX12_hidden 35 = .ok (.ldc 61, 2) := by decide +kernel
theorem dX12_hidden_37 : decode cX12_hidden 37 = .ok (.ireturn, 1) := by decide +kernel
theorem dX12_hidden_38 : decode cX12_hidden 38 = .ok (.iconst 0, 1) := by decide +kernel
theorem dX12_hidden_39 : decode cX12_hidden 39 = .ok (.istore 5, 2) := by decide +kernel
theorem dX12_hidden_41 : decode cX12_hidden 41 = .ok (.iconst 1, 1) := by decide +kernel
theorem dX12_hidden_42 : decode cX12_hidden 42 = .ok (.istore 6, 2) := by decide +kernel
theorem dX12_hidden_44 : decode cX12_hidden 44 = .ok (.iconst 0, 1) := by decide +kernel
theorem dX12_hidden_45 : decode cX12_hidden 45 = .ok (.istore 7, 2) := by decide +kernel
theorem dX12_hidden_47 : decode cX12_hidden 47 = .ok (.iload 7, 2) := by decide +kernel
theorem dX12_hidden_49 : decode cX12_hidden 49 = .ok (.aload_n 0, 1) := by decide +kernel
theorem dX12_hidden_50 : decode cX12_hidden 50 = .ok (.getfield 25, 3) := by decide +kernel
theorem dX12_hidden_53 : decode cX12_hidden 53 = .ok (.iconst 4, 1) := by decide +kernel
theorem dX12_hidden_54 : decode cX12_hidden 54 = .ok (.iaload, 1) := by decide +kernel
theorem dX12_hidden_55 : decode cX12_hidden 55 = .ok (.if_icmp .ge 67, 3) := by decide +kernel
theorem dX12_hidden_58 : decode cX12_hidden 58 = .ok (.aload_n 0, 1) := by decide +kernel
theorem dX12_hidden_59 : decode cX12_hidden 59 = .ok (.getfield 25, 3) := by decide +kernel
theorem dX12_hidden_62 : decode cX12_hidden 62 = .ok (.iconst 5, 1) := by decide +kernel
theorem dX12_hidden_63 : decode cX12_hidden 63 = .ok (.bipush 6, 2) := by decide +kernel
theorem dX12_hidden_65 : decode cX12_hidden 65 = .ok (.iload 7, 2) := by decide +kernel
theorem dX12_hidden_67 : decode cX12_hidden 67 = .ok (.imul, 1) := by decide +kernel
theorem dX12_hidden_68 : decode cX12_hidden 68 = .ok (.iadd, 1) := by decide +kernel
theorem dX12_hidden_69 : decode cX12_hidden 69 = .ok (.iconst 3, 1) := by decide +kernel
theorem dX12_hidden_70 : decode cX12_hidden 70 = .ok (.iadd, 1) := by decide +kernel
theorem dX12_hidden_71 : decode cX12_hidden 71 = .ok (.iaload, 1) := by decide +kernel
theorem dX12_hidden_72 : decode cX12_hidden 72 = .ok (.ifCond .le 7, 3) := by decide +kernel
theorem dX12_hidden_75 : decode cX12_hidden 75 = .ok (.iconst 1, 1) := by decide +kernel
theorem dX12_hidden_76 : decode cX12_hidden 76 = .ok (.goto 4, 3) := by decide +kernel
theorem dX12_hidden_79 : decode cX12_hidden 79 = .ok (.iconst 0, 1) := by decide +kernel
theorem dX12_hidden_80 : decode cX12_hidden 80 = .ok (.istore 8, 2) := by decide +kernel
theorem dX12_hidden_82 : decode cX12_hidden 82 = .ok (.iload 5, 2) := by decide +kernel
theorem dX12_hidden_84 : decode cX12_hidden 84 = .ok (.iload 8, 2) := by decide +kernel
theorem dX12_hidden_86 : decode cX12_hidden 86 = .ok (.ifCond .eq 10, 3) := by decide +kernel
theorem dX12_hidden_89 : decode cX12_hidden 89 = .ok (.iconst 1, 1) := by decide +kernel
theorem dX12_hidden_90 : decode cX12_hidden 90 = .ok (.iload 7, 2) := by decide +kernel
theorem dX12_hidden_92 : decode cX12_hidden 92 = .ok (.ishl, 1) := by decide +kernel
theorem dX12_hidden_93 : decode cX12_hidden 93 = .ok (.goto 4, 3) := by decide +kernel
theorem dX12_hidden_96 : decode cX12_hidden 96 = .ok (.iconst 0, 1) := by decide +kernel
theorem dX12_hidden_97 : decode cX12_hidden 97 = .ok (.ior, 1) := by decide +kernel
theorem dX12_hidden_98 : decode cX12_hidden 98 = .ok (.istore 5, 2) := by decide +kernel
theorem dX12_hidden_100 : decode cX12_hidden 100 = .ok (.iload 6, 2) := by decide +kernel
theorem dX12_hidden_102 : decode cX12_hidden 102 = .ok (.iload 8, 2) := by decide +kernel
theorem dX12_hidden_104 : decode cX12_hidden 104 = .ok (.ifCond .eq 8, 3) := by decide +kernel
theorem dX12_hidden_107 : decode cX12_hidden 107 = .ok (.bipush 10, 2) := by decide +kernel
theorem dX12_hidden_109 : decode cX12_hidden 109 = .ok (.goto 4, 3) := by decide +kernel
theorem dX12_hidden_112 : decode cX12_hidden 112 = .ok (.iconst 1, 1) := by decide +kernel
theorem dX12_hidden_113 : decode cX12_hidden 113 = .ok (.imul, 1) := by decide +kernel
theorem dX12_hidden_114 : decode cX12_hidden 114 = .ok (.istore 6, 2) := by decide +kernel
theorem dX12_hidden_116 : decode cX12_hidden 116 = .ok (.iinc 7 1, 3) := by decide +kernel
theorem dX12_hidden_119 : decode cX12_hidden 119 = .ok (.goto (-72), 3) := by decide +kernel
theorem dX12_hidden_122 : decode cX12_hidden 122 = .ok (.iconst 0, 1) := by decide +kernel
theorem dX12_hidden_123 : decode cX12_hidden 123 = .ok (.istore 7, 2) := by decide +kernel
theorem dX12_hidden_125 : decode cX12_hidden 125 = .ok (.iconst 0, 1) := by decide +kernel
theorem dX12_hidden_126 : decode cX12_hidden 126 = .ok (.istore 8, 2) := by decide +kernel
theorem dX12_hidden_128 : decode cX12_hidden 128 = .ok (.iload 8, 2) := by decide +kernel
theorem dX12_hidden_130 : decode cX12_hidden 130 = .ok (.iconst 1, 1) := by decide +kernel
theorem dX12_hidden_131 : decode cX12_hidden 131 = .ok (.aload_n 0, 1) := by decide +kernel
theorem dX12_hidden_132 : decode cX12_hidden 132 = .ok (.getfield 25, 3) := by decide +kernel
theorem dX12_hidden_135 : decode cX12_hidden 135 = .ok (.iconst 4, 1) := by decide +kernel
theorem dX12_hidden_136 : decode cX12_hidden 136 = .ok (.iaload, 1) := by decide +kernel
theorem dX12_hidden_137 : decode cX12_hidden 137 = .ok (.ishl, 1) := by decide +kernel
theorem dX12_hidden_138 : decode cX12_hidden 138 = .ok (.if_icmp .ge 111, 3) := by decide +kernel
theorem dX12_hidden_141 : decode cX12_hidden 141 = .ok (.iload 8, 2) := by decide +kernel
theorem dX12_hidden_143 : decode cX12_hidden 143 = .ok (.iload 5, 2) := by decide +kernel
theorem dX12_hidden_145 : decode cX12_hidden 145 = .ok (.iconst (-1), 1) := by decide +kernel
theorem dX12_hidden_146 : decode cX12_hidden 146 = .ok (.ixor, 1) := by decide +kernel
theorem dX12_hidden_147 : decode cX12_hidden 147 = .ok (.iand, 1) := by decide +kernel
theorem dX12_hidden_148 : decode cX12_hidden 148 = .ok (.ifCond .ne 7, 3) := by decide +kernel
theorem dX12_hidden_151 : decode cX12_hidden 151 = .ok (.iconst 1, 1) := by decide +kernel
theorem dX12_hidden_152 : decode cX12_hidden 152 = .ok (.goto 4, 3) := by decide +kernel
theorem dX12_hidden_155 : decode cX12_hidden 155 = .ok (.iconst 0, 1) := by decide +kernel
theorem dX12_hidden_156 : decode cX12_hidden 156 = .ok (.istore 9, 2) := by decide +kernel
theorem dX12_hidden_158 : decode cX12_hidden 158 = .ok (.iconst 0, 1) := by decide +kernel
theorem dX12_hidden_159 : decode cX12_hidden 159 = .ok (.istore 10, 2) := by decide +kernel
theorem dX12_hidden_161 : decode cX12_hidden 161 = .ok (.iload 10, 2) := by decide +kernel
theorem dX12_hidden_163 : decode cX12_hidden 163 = .ok (.aload_n 0, 1) := by decide +kernel
theorem dX12_hidden_164 : decode cX12_hidden 164 = .ok (.getfield 25, 3) := by decide +kernel
theorem dX12_hidden_167 : decode cX12_hidden 167 = .ok (.iconst 4, 1) := by decide +kernel
theorem dX12_hidden_168 : decode cX12_hidden 168 = .ok (.iaload, 1) := by decide +kernel
theorem dX12_hidden_169 : decode cX12_hidden 169 = .ok (.if_icmp .ge 46, 3) := by decide +kernel
theorem dX12_hidden_172 : decode cX12_hidden 172 = .ok (.iload 9, 2) := by decide +kernel
theorem dX12_hidden_174 : decode cX12_hidden 174 = .ok (.iload 5, 2) := by decide +kernel
theorem dX12_hidden_176 : decode cX12_hidden 176 = .ok (.iload 10, 2) := by decide +kernel
theorem dX12_hidden_178 : decode cX12_hidden 178 = .ok (.invokestatic 184, 3) := by decide +kernel
theorem dX12_hidden_181 : decode cX12_hidden 181 = .ok (.ifCond .ne 7, 3) := by decide +kernel
theorem dX12_hidden_184 : decode cX12_hidden 184 = .ok (.iconst 1, 1) := by decide +kernel
theorem dX12_hidden_185 : decode cX12_hidden 185 = .ok (.goto 21, 3) := by decide +kernel
theorem dX12_hidden_188 : decode cX12_hidden 188 = .ok (.iload 8, 2) := by decide +kernel
theorem dX12_hidden_190 : decode cX12_hidden 190 = .ok (.iload 10, 2) := by decide +kernel
theorem dX12_hidden_192 : decode cX12_hidden 192 = .ok (.invokestatic 184, 3) := by decide +kernel
theorem dX12_hidden_195 : decode cX12_hidden 195 = .ok (.ifCond .eq 7, 3) := by decide +kernel
theorem dX12_hidden_198 : decode cX12_hidden 198 = .ok (.iload_n 3, 1) := by decide +kernel
theorem dX12_hidden_199 : decode cX12_hidden 199 = .ok (.goto 7, 3) := by decide +kernel
theorem dX12_hidden_202 : decode cX12_hidden 202 = .ok (.bipush 10, 2) := by decide +kernel
theorem dX12_hidden_204 : decode cX12_hidden 204 = .ok (.iload_n 3, 1) := by decide +kernel
theorem dX12_hidden_205 : decode cX12_hidden 205 = .ok (.isub, 1) := by decide +kernel
theorem dX12_hidden_206 : decode cX12_hidden 206 = .ok (.imul, 1) := by decide +kernel
theorem dX12_hidden_207 : decode cX12_hidden 207 = .ok (.istore 9, 2) := by decide +kernel
theorem dX12_hidden_209 : decode cX12_hidden 209 = .ok (.iinc 10 1, 3) := by decide +kernel
theorem dX12_hidden_212 : decode cX12_hidden 212 = .ok (.goto (-51), 3) := by decide +kernel
theorem dX12_hidden_215 : decode cX12_hidden 215 = .ok (.aload_n 0, 1) := by decide +kernel
theorem dX12_hidden_216 : decode cX12_hidden 216 = .ok (.iload 8, 2) := by decide +kernel
theorem dX12_hidden_218 : decode cX12_hidden 218 = .ok (.invokevirtual 188, 3) := by decide +kernel
theorem dX12_hidden_221 : decode cX12_hidden 221 = .ok (.iload 7, 2) := by decide +kernel
theorem dX12_hidden_223 : decode cX12_hidden 223 = .ok (.aload_n 0, 1) := by decide +kernel
theorem dX12_hidden_224 : decode cX12_hidden 224 = .ok (.iload_n 1, 1) := by decide +kernel
theorem dX12_hidden_225 : decode cX12_hidden 225 = .ok (.iload_n 2, 1) := by decide +kernel
theorem dX12_hidden_226 : decode cX12_hidden 226 = .ok (.invokevirtual 181, 3) := by decide +kernel
theorem dX12_hidden_229 : decode cX12_hidden 229 = .ok (.ldc 47, 2) := by decide +kernel
theorem dX12_hidden_231 : decode cX12_hidden 231 = .ok (.if_icmp .eq 8, 3) := by decide +kernel
theorem dX12_hidden_234 : decode cX12_hidden 234 = .ok (.iload 9, 2) := by decide +kernel
theorem dX12_hidden_236 : decode cX12_hidden 236 = .ok (.goto 4, 3) := by decide +kernel
theorem dX12_hidden_239 : decode cX12_hidden 239 = .ok (.iconst 0, 1) := by decide +kernel
theorem dX12_hidden_240 : decode cX12_hidden 240 = .ok (.iadd, 1) := by decide +kernel
theorem dX12_hidden_241 : decode cX12_hidden 241 = .ok (.istore 7, 2) := by decide +kernel
theorem dX12_hidden_243 : decode cX12_hidden 243 = .ok (.iinc 8 1, 3) := by decide +kernel
theorem dX12_hidden_246 : decode cX12_hidden 246 = .ok (.goto (-118), 3) := by decide +kernel
theorem dX12_hidden_249 : decode cX12_hidden 249 = .ok (.iload 7, 2) := by decide +kernel
theorem dX12_hidden_251 : decode cX12_hidden 251 = .ok (.istore 8, 2) := by decide +kernel
theorem dX12_hidden_253 : decode cX12_hidden 253 = .ok (.iload 6, 2) := by decide +kernel
theorem dX12_hidden_255 : decode cX12_hidden 255 = .ok (.istore 9, 2) := by decide +kernel
theorem dX12_hidden_257 : decode cX12_hidden 257 = .ok (.iload 9, 2) := by decide +kernel
theorem dX12_hidden_259 : decode cX12_hidden 259 = .ok (.ifCond .eq 21, 3) := by decide +kernel
theorem dX12_hidden_262 : decode cX12_hidden 262 = .ok (.iload 8, 2) := by decide +kernel
theorem dX12_hidden_264 : decode cX12_hidden 264 = .ok (.iload 9, 2) := by decide +kernel
theorem dX12_hidden_266 : decode cX12_hidden 266 = .ok (.irem, 1) := by decide +kernel
theorem dX12_hidden_267 : decode cX12_hidden 267 = .ok (.istore 10, 2) := by decide +kernel
theorem dX12_hidden_269 : decode cX12_hidden 269 = .ok (.iload 9, 2) := by decide +kernel
theorem dX12_hidden_271 : decode cX12_hidden 271 = .ok (.istore 8, 2) := by decide +kernel
theorem dX12_hidden_273 : decode cX12_hidden 273 = .ok (.iload 10, 2) := by decide +kernel
theorem dX12_hidden_275 : decode cX12_hidden 275 = .ok (.istore 9, 2) := by decide +kernel
theorem dX12_hidden_277 : decode cX12_hidden 277 = .ok (.goto (-20), 3) := by decide +kernel
theorem dX12_hidden_280 : decode cX12_hidden 280 = .ok (.iload 4, 2) := by decide +kernel
theorem dX12_hidden_282 : decode cX12_hidden 282 = .ok (.ifCond .ne 8, 3) := by decide +kernel
theorem dX12_hidden_285 : decode cX12_hidden 285 = .ok (.iload 7, 2) := by decide +kernel
theorem dX12_hidden_287 : decode cX12_hidden 287 = .ok (.goto 5, 3) := by decide +kernel
theorem dX12_hidden_290 : decode cX12_hidden 290 = .ok (.iload 6, 2) := by decide +kernel
theorem dX12_hidden_292 : decode cX12_hidden 292 = .ok (.iload 8, 2) := by decide +kernel
theorem dX12_hidden_294 : decode cX12_hidden 294 = .ok (.idiv, 1) := by decide +kernel
theorem dX12_hidden_295 : decode cX12_hidden 295 = .ok (.ireturn, 1) := by decide +kernel
theorem dX12_drawn_0 : decode cX12_drawn 0 = .ok (.aload_n 0, 1) := by decide +kernel
theorem dX12_drawn_1 : decode cX12_drawn 1 = .ok (.invokevirtual 158, 3) := by decide +kernel
theorem dX12_drawn_4 : decode cX12_drawn 4 = .ok (.ifCond .ne 6, 3) := by decide +kernel
theorem dX12_drawn_7 : decode cX12_drawn 7 = .ok (.ldc 161, 2) := by decide +kernel
theorem dX12_drawn_9 : decode cX12_drawn 9 = .ok (.ireturn, 1) := by decide +kernel
theorem dX12_drawn_10 : decode cX12_drawn 10 = .ok (.iload_n 1, 1) := by decide +kernel
theorem dX12_drawn_11 : decode cX12_drawn 11 = .ok (.invokestatic 174, 3) := by decide +kernel
theorem dX12_drawn_14 : decode cX12_drawn 14 = .ok (.ifCond .eq 22, 3) := by decide +kernel
theorem dX12_drawn_17 : decode cX12_drawn 17 = .ok (.iload_n 2, 1) := by decide +kernel
theorem dX12_drawn_18 : decode cX12_drawn 18 = .ok (.iconst 1, 1) := by decide +kernel
theorem dX12_drawn_19 : decode cX12_drawn 19 = .ok (.ldc 197, 2) := by decide +kernel
theorem dX12_drawn_21 : decode cX12_drawn 21 = .ok (.invokestatic 53, 3) := by decide +kernel
theorem dX12_drawn_24 : decode cX12_drawn 24 = .ok (.ifCond .eq 12, 3) := by decide +kernel
theorem dX12_drawn_27 : decode cX12_drawn 27 = .ok (.iload_n 3, 1) := by decide +kernel
theorem dX12_drawn_28 : decode cX12_drawn 28 = .ok (.iconst 0, 1) := by decide +kernel
theorem dX12_drawn_29 : decode cX12_drawn 29 = .ok (.iconst 1, 1) := by decide +kernel
theorem dX12_drawn_30 : decode cX12_drawn 30 = .ok (.invokestatic 53, 3) := by decide +kernel
theorem dX12_drawn_33 : decode cX12_drawn 33 = .ok (.ifCond .ne 6, 3) := by decide +kernel
theorem dX12_drawn_36 : decode cX12_drawn 36 = .ok (.ldc 61, 2) := by decide +kernel
theorem dX12_drawn_38 : decode cX12_drawn 38 = .ok (.ireturn, 1) := by decide +kernel
theorem dX12_drawn_39 : decode cX12_drawn 39 = .ok (.aload_n 0, 1) := by decide +kernel
theorem dX12_drawn_40 : decode cX12_drawn 40 = .ok (.iconst 0, 1) := by decide +kernel
theorem dX12_drawn_41 : decode cX12_drawn 41 = .ok (.invokevirtual 177, 3) := by decide +kernel
theorem dX12_drawn_44 : decode cX12_drawn 44 = .ok (.iload_n 2, 1) := by decide +kernel
theorem dX12_drawn_45 : decode cX12_drawn 45 = .ok (.i2l, 1) := by decide +kernel
theorem dX12_drawn_46 : decode cX12_drawn 46 = .ok (.lstore 4, 2) := by decide +kernel
theorem dX12_drawn_48 : decode cX12_drawn 48 = .ok (.iconst 0, 1) := by decide +kernel
theorem dX12_drawn_49 : decode cX12_drawn 49 = .ok (.istore 6, 2) := by decide +kernel
theorem dX12_drawn_51 : decode cX12_drawn 51 = .ok (.iload 6, 2) := by decide +kernel
theorem dX12_drawn_53 : decode cX12_drawn 53 = .ok (.iload_n 1, 1) := by decide +kernel
theorem dX12_drawn_54 : decode cX12_drawn 54 = .ok (.if_icmp .ge 141, 3) := by decide +kernel
theorem dX12_drawn_57 : decode cX12_drawn 57 = .ok (.lload 4, 2) := by decide +kernel
theorem dX12_drawn_59 : decode cX12_drawn 59 = .ok (.ldc2_w 198, 3) := by decide +kernel
theorem dX12_drawn_62 : decode cX12_drawn 62 = .ok (.lmul, 1) := by decide +kernel
theorem dX12_drawn_63 : decode cX12_drawn 63 = .ok (.ldc2_w 200, 3) := by decide +kernel
theorem dX12_drawn_66 : decode cX12_drawn 66 = .ok (.lrem, 1) := by decide +kernel
theorem dX12_drawn_67 : decode cX12_drawn 67 = .ok (.lstore 4, 2) := by decide +kernel
theorem dX12_drawn_69 : decode cX12_drawn 69 = .ok (.aload_n 0, 1) := by decide +kernel
theorem dX12_drawn_70 : decode cX12_drawn 70 = .ok (.getfield 25, 3) := by decide +kernel
theorem dX12_drawn_73 : decode cX12_drawn 73 = .ok (.iconst 4, 1) := by decide +kernel
theorem dX12_drawn_74 : decode cX12_drawn 74 = .ok (.iaload, 1) := by decide +kernel
theorem dX12_drawn_75 : decode cX12_drawn 75 = .ok (.ifCond .le 107, 3) := by decide +kernel
theorem dX12_drawn_78 : decode cX12_drawn 78 = .ok (.lload 4, 2) := by decide +kernel
theorem dX12_drawn_80 : decode cX12_drawn 80 = .ok (.aload_n 0, 1) := by decide +kernel
theorem dX12_drawn_81 : decode cX12_drawn 81 = .ok (.getfield 25, 3) := by decide +kernel
theorem dX12_drawn_84 : decode cX12_drawn 84 = .ok (.iconst 4, 1) := by decide +kernel
theorem dX12_drawn_85 : decode cX12_drawn 85 = .ok (.iaload, 1) := by decide +kernel
theorem dX12_drawn_86 : decode cX12_drawn 86 = .ok (.i2l, 1) := by decide +kernel
theorem dX12_drawn_87 : decode cX12_drawn 87 = .ok (.lrem, 1) := by decide +kernel
theorem dX12_drawn_88 : decode cX12_drawn 88 = .ok (.l2i, 1) := by decide +kernel
theorem dX12_drawn_89 : decode cX12_drawn 89 = .ok (.istore 7, 2) := by decide +kernel
theorem dX12_drawn_91 : decode cX12_drawn 91 = .ok (.aload_n 0, 1) := by decide +kernel
theorem dX12_drawn_92 : decode cX12_drawn 92 = .ok (.getfield 31, 3) := by decide +kernel
theorem dX12_drawn_95 : decode cX12_drawn 95 = .ok (.iconst 5, 1) := by decide +kernel
theorem dX12_drawn_96 : decode cX12_drawn 96 = .ok (.bipush 6, 2) := by decide +kernel
theorem dX12_drawn_98 : decode cX12_drawn 98 = .ok (.iload 7, 2) := by decide +kernel
theorem dX12_drawn_100 : decode cX12_drawn 100 = .ok (.imul, 1) := by decide +kernel
theorem dX12_drawn_101 : decode cX12_drawn 101 = .ok (.iadd, 1) := by decide +kernel
theorem dX12_drawn_102 : decode cX12_drawn 102 = .ok (.iconst 1, 1) := by decide +kernel
theorem dX12_drawn_103 : decode cX12_drawn 103 = .ok (.iadd, 1) := by decide +kernel
theorem dX12_drawn_104 : decode cX12_drawn 104 = .ok (.iaload, 1) := by decide +kernel
theorem dX12_drawn_105 : decode cX12_drawn 105 = .ok (.lload 4, 2) := by decide +kernel
theorem dX12_drawn_107 : decode cX12_drawn 107 = .ok (.ldc2_w 202, 3) := by decide +kernel
theorem dX12_drawn_110 : decode cX12_drawn 110 = .ok (.lrem, 1) := by decide +kernel
theorem dX12_drawn_111 : decode cX12_drawn 111 = .ok (.lconst 0, 1) := by decide +kernel
theorem dX12_drawn_112 : decode cX12_drawn 112 = .ok (.lcmp, 1) := by decide +kernel
theorem dX12_drawn_113 : decode cX12_drawn 113 = .ok (.ifCond .ne 7, 3) := by decide +kernel
theorem dX12_drawn_116 : decode cX12_drawn 116 = .ok (.iconst 1, 1) := by decide +kernel
theorem dX12_drawn_117 : decode cX12_drawn 117 = .ok (.goto 19, 3) := by decide +kernel
theorem dX12_drawn_120 : decode cX12_drawn 120 = .ok (.lload 4, 2) := by decide +kernel
theorem dX12_drawn_122 : decode cX12_drawn 122 = .ok (.ldc2_w 202, 3) := by decide +kernel
theorem dX12_drawn_125 : decode cX12_drawn 125 = .ok (.lrem, 1) := by decide +kernel
theorem dX12_drawn_126 : decode cX12_drawn 126 = .ok (.lconst 1, 1) := by decide +kernel
theorem dX12_drawn_127 : decode cX12_drawn 127 = .ok (.lcmp, 1) := by decide +kernel
theorem dX12_drawn_128 : decode cX12_drawn 128 = .ok (.ifCond .ne 7, 3) := by decide +kernel
theorem dX12_drawn_131 : decode cX12_drawn 131 = .ok (.iconst (-1), 1) := by decide +kernel
theorem dX12_drawn_132 : decode cX12_drawn 132 = .ok (.goto 4, 3) := by decide +kernel
theorem dX12_drawn_135 : decode cX12_drawn 135 = .ok (.iconst 0, 1) := by decide +kernel
theorem dX12_drawn_136 : decode cX12_drawn 136 = .ok (.iadd, 1) := by decide +kernel
theorem dX12_drawn_137 : decode cX12_drawn 137 = .ok (.istore 8, 2) := by decide +kernel
theorem dX12_drawn_139 : decode cX12_drawn 139 = .ok (.aload_n 0, 1) := by decide +kernel
theorem dX12_drawn_140 : decode cX12_drawn 140 = .ok (.getfield 31, 3) := by decide +kernel
theorem dX12_drawn_143 : decode cX12_drawn 143 = .ok (.iload 7, 2) := by decide +kernel
theorem dX12_drawn_145 : decode cX12_drawn 145 = .ok (.invokestatic 135, 3) := by decide +kernel
theorem dX12_drawn_148 : decode cX12_drawn 148 = .ok (.ifCond .ne 34, 3) := by decide +kernel
theorem dX12_drawn_151 : decode cX12_drawn 151 = .ok (.iload 8, 2) := by decide +kernel
theorem dX12_drawn_153 : decode cX12_drawn 153 = .ok (.iconst 0, 1) := by decide +kernel
theorem dX12_drawn_154 : decode cX12_drawn 154 = .ok (.aload_n 0, 1) := by decide +kernel
theorem dX12_drawn_155 : decode cX12_drawn 155 = .ok (.getfield 25, 3) := by decide +kernel
theorem dX12_drawn_158 : decode cX12_drawn 158 = .ok (.iconst 0, 1) := by decide +kernel
theorem dX12_drawn_159 : decode cX12_drawn 159 = .ok (.iaload, 1) := by decide +kernel
theorem dX12_drawn_160 : decode cX12_drawn 160 = .ok (.invokestatic 53, 3) := by decide +kernel
theorem dX12_drawn_163 : decode cX12_drawn 163 = .ok (.ifCond .eq 19, 3) := by decide +kernel
theorem dX12_drawn_166 : decode cX12_drawn 166 = .ok (.aload_n 0, 1) := by decide +kernel
theorem dX12_drawn_167 : decode cX12_drawn 167 = .ok (.getfield 31, 3) := by decide +kernel
theorem dX12_drawn_170 : decode cX12_drawn 170 = .ok (.iconst 5, 1) := by decide +kernel
theorem dX12_drawn_171 : decode cX12_drawn 171 = .ok (.bipush 6, 2) := by decide +kernel
theorem dX12_drawn_173 : decode cX12_drawn 173 = .ok (.iload 7, 2) := by decide +kernel
theorem dX12_drawn_175 : decode cX12_drawn 175 = .ok (.imul, 1) := by decide +kernel
theorem dX12_drawn_176 : decode cX12_drawn 176 = .ok (.iadd, 1) := by decide +kernel
theorem dX12_drawn_177 : decode cX12_drawn 177 = .ok (.iconst 1, 1) := by decide +kernel
theorem dX12_drawn_178 : decode cX12_drawn 178 = .ok (.iadd, 1) := by decide +kernel
theorem dX12_drawn_179 : decode cX12_drawn 179 = .ok (.iload 8, 2) := by decide +kernel
theorem dX12_drawn_181 : decode cX12_drawn 181 = .ok (.iastore, 1) := by decide +kernel
theorem dX12_drawn_182 : decode cX12_drawn 182 = .ok (.aload_n 0, 1) := by decide +kernel
theorem dX12_drawn_183 : decode cX12_drawn 183 = .ok (.getfield 31, 3) := by decide +kernel
theorem dX12_drawn_186 : decode cX12_drawn 186 = .ok (.invokestatic 154, 3) := by decide +kernel
theorem dX12_drawn_189 : decode cX12_drawn 189 = .ok (.iinc 6 1, 3) := by decide +kernel
theorem dX12_drawn_192 : decode cX12_drawn 192 = .ok (.goto (-141), 3) := by decide +kernel
theorem dX12_drawn_195 : decode cX12_drawn 195 = .ok (.iload_n 3, 1) := by decide +kernel
theorem dX12_drawn_196 : decode cX12_drawn 196 = .ok (.ifCond .ne 16, 3) := by decide +kernel
theorem dX12_drawn_199 : decode cX12_drawn 199 = .ok (.aload_n 0, 1) := by decide +kernel
theorem dX12_drawn_200 : decode cX12_drawn 200 = .ok (.getfield 31, 3) := by decide +kernel
theorem dX12_drawn_203 : decode cX12_drawn 203 = .ok (.invokestatic 171, 3) := by decide +kernel
theorem dX12_drawn_206 : decode cX12_drawn 206 = .ok (.invokestatic 191, 3) := by decide +kernel
theorem dX12_drawn_209 : decode cX12_drawn 209 = .ok (.goto 9, 3) := by decide +kernel
theorem dX12_drawn_212 : decode cX12_drawn 212 = .ok (.aload_n 0, 1) := by decide +kernel
theorem dX12_drawn_213 : decode cX12_drawn 213 = .ok (.getfield 31, 3) := by decide +kernel
theorem dX12_drawn_216 : decode cX12_drawn 216 = .ok (.iconst 1, 1) := by decide +kernel
theorem dX12_drawn_217 : decode cX12_drawn 217 = .ok (.iaload, 1) := by decide +kernel
theorem dX12_drawn_218 : decode cX12_drawn 218 = .ok (.ireturn, 1) := by decide +kernel
theorem dX12_image_0 : decode cX12_image 0 = .ok (.iload_n 1, 1) := by decide +kernel
theorem dX12_image_1 : decode cX12_image 1 = .ok (.iconst 0, 1) := by decide +kernel
theorem dX12_image_2 : decode cX12_image 2 = .ok (.iconst 1, 1) := by decide +kernel
theorem dX12_image_3 : decode cX12_image 3 = .ok (.invokestatic 53, 3) := by decide +kernel
theorem dX12_image_6 : decode cX12_image 6 = .ok (.ifCond .ne 6, 3) := by decide +kernel
theorem dX12_image_9 : decode cX12_image 9 = .ok (.ldc 61, 2) := by decide +kernel
theorem dX12_image_11 : decode cX12_image 11 = .ok (.ireturn, 1) := by decide +kernel
theorem dX12_image_12 : decode cX12_image 12 = .ok (.aload_n 0, 1) := by decide +kernel
theorem dX12_image_13 : decode cX12_image 13 = .ok (.invokevirtual 158, 3) := by decide +kernel
theorem dX12_image_16 : decode cX12_image 16 = .ok (.ifCond .ne 6, 3) := by decide +kernel
theorem dX12_image_19 : decode cX12_image 19 = .ok (.ldc 161, 2) := by decide +kernel
theorem dX12_image_21 : decode cX12_image 21 = .ok (.ireturn, 1) := by decide +kernel
theorem dX12_image_22 : decode cX12_image 22 = .ok (.aload_n 0, 1) := by decide +kernel
theorem dX12_image_23 : decode cX12_image 23 = .ok (.getfield 25, 3) := by decide +kernel
theorem dX12_image_26 : decode cX12_image 26 = .ok (.iconst 0, 1) := by decide +kernel
theorem dX12_image_27 : decode cX12_image 27 = .ok (.aload_n 0, 1) := by decide +kernel
theorem dX12_image_28 : decode cX12_image 28 = .ok (.getfield 37, 3) := by decide +kernel
theorem dX12_image_31 : decode cX12_image 31 = .ok (.bipush 41, 2) := by decide +kernel
theorem dX12_image_33 : decode cX12_image 33 = .ok (.iload_n 1, 1) := by decide +kernel
theorem dX12_image_34 : decode cX12_image 34 = .ok (.imul, 1) := by decide +kernel
theorem dX12_image_35 : decode cX12_image 35 = .ok (.invokestatic 128, 3) := by decide +kernel
theorem dX12_image_38 : decode cX12_image 38 = .ok (.aload_n 0, 1) := by decide +kernel
theorem dX12_image_39 : decode cX12_image 39 = .ok (.getfield 40, 3) := by decide +kernel
theorem dX12_image_42 : decode cX12_image 42 = .ok (.iload_n 1, 1) := by decide +kernel
theorem dX12_image_43 : decode cX12_image 43 = .ok (.iconst 1, 1) := by decide +kernel
theorem dX12_image_44 : decode cX12_image 44 = .ok (.bastore, 1) := by decide +kernel
theorem dX12_image_45 : decode cX12_image 45 = .ok (.iconst 1, 1) := by decide +kernel
theorem dX12_image_46 : decode cX12_image 46 = .ok (.ireturn, 1) := by decide +kernel
theorem dX12_restore_0 : decode cX12_restore 0 = .ok (.iload_n 1, 1) := by decide +kernel
theorem dX12_restore_1 : decode cX12_restore 1 = .ok (.iconst 0, 1) := by decide +kernel
theorem dX12_restore_2 : decode cX12_restore 2 = .ok (.iconst 1, 1) := by decide +kernel
theorem dX12_restore_3 : decode cX12_restore 3 = .ok (.invokestatic 53, 3) := by decide +kernel
theorem dX12_restore_6 : decode cX12_restore 6 = .ok (.ifCond .ne 6, 3) := by decide +kernel
theorem dX12_restore_9 : decode cX12_restore 9 = .ok (.ldc 61, 2) := by decide +kernel
theorem dX12_restore_11 : decode cX12_restore 11 = .ok (.ireturn, 1) := by decide +kernel
theorem dX12_restore_12 : decode cX12_restore 12 = .ok (.aload_n 0, 1) := by decide +kernel
theorem dX12_restore_13 : decode cX12_restore 13 = .ok (.getfield 40, 3) := by decide +kernel
theorem dX12_restore_16 : decode cX12_restore 16 = .ok (.iload_n 1, 1) := by decide +kernel
theorem dX12_restore_17 : decode cX12_restore 17 = .ok (.baload, 1) := by decide +kernel
theorem dX12_restore_18 : decode cX12_restore 18 = .ok (.ifCond .ne 6, 3) := by decide +kernel
theorem dX12_restore_21 : decode cX12_restore 21 = .ok (.ldc 161, 2) := by decide +kernel
theorem dX12_restore_23 : decode cX12_restore 23 = .ok (.ireturn, 1) := by decide +kernel
theorem dX12_restore_24 : decode cX12_restore 24 = .ok (.aload_n 0, 1) := by decide +kernel
theorem dX12_restore_25 : decode cX12_restore 25 = .ok (.getfield 37, 3) := by decide +kernel
theorem dX12_restore_28 : decode cX12_restore 28 = .ok (.bipush 41, 2) := by decide +kernel
theorem dX12_restore_30 : decode cX12_restore 30 = .ok (.iload_n 1, 1) := by decide +kernel
theorem dX12_restore_31 : decode cX12_restore 31 = .ok (.imul, 1) := by decide +kernel
theorem dX12_restore_32 : decode cX12_restore 32 = .ok (.aload_n 0, 1) := by decide +kernel
theorem dX12_restore_33 : decode cX12_restore 33 = .ok (.getfield 25, 3) := by decide +kernel
theorem dX12_restore_36 : decode cX12_restore 36 = .ok (.iconst 0, 1) := by decide +kernel
theorem dX12_restore_37 : decode cX12_restore 37 = .ok (.invokestatic 128, 3) := by decide +kernel
theorem dX12_restore_40 : decode cX12_restore 40 = .ok (.aload_n 0, 1) := by decide +kernel
theorem dX12_restore_41 : decode cX12_restore 41 = .ok (.iconst 0, 1) := by decide +kernel
theorem dX12_restore_42 : decode cX12_restore 42 = .ok (.putfield 132, 3) := by decide +kernel
theorem dX12_restore_45 : decode cX12_restore 45 = .ok (.iconst 1, 1) := by decide +kernel
theorem dX12_restore_46 : decode cX12_restore 46 = .ok (.ireturn, 1) := by decide +kernel
theorem dX12_kindIn_0 : decode cX12_kindIn 0 = .ok (.aload_n 0, 1) := by decide +kernel
theorem dX12_kindIn_1 : decode cX12_kindIn 1 = .ok (.getfield 25, 3) := by decide +kernel
theorem dX12_kindIn_4 : decode cX12_kindIn 4 = .ok (.iconst 5, 1) := by decide +kernel
theorem dX12_kindIn_5 : decode cX12_kindIn 5 = .ok (.bipush 6, 2) := by decide +kernel
theorem dX12_kindIn_7 : decode cX12_kindIn 7 = .ok (.iload_n 1, 1) := by decide +kernel
theorem dX12_kindIn_8 : decode cX12_kindIn 8 = .ok (.imul, 1) := by decide +kernel
theorem dX12_kindIn_9 : decode cX12_kindIn 9 = .ok (.iadd, 1) := by decide +kernel
theorem dX12_kindIn_10 : decode cX12_kindIn 10 = .ok (.iaload, 1) := by decide +kernel
theorem dX12_kindIn_11 : decode cX12_kindIn 11 = .ok (.ireturn, 1) := by decide +kernel
theorem dX12_kind_0 : decode cX12_kind 0 = .ok (.aload_n 0, 1) := by decide +kernel
theorem dX12_kind_1 : decode cX12_kind 1 = .ok (.iload_n 1, 1) := by decide +kernel
theorem dX12_kind_2 : decode cX12_kind 2 = .ok (.invokevirtual 165, 3) := by decide +kernel
theorem dX12_kind_5 : decode cX12_kind 5 = .ok (.ifCond .eq 11, 3) := by decide +kernel
theorem dX12_kind_8 : decode cX12_kind 8 = .ok (.aload_n 0, 1) := by decide +kernel
theorem dX12_kind_9 : decode cX12_kind 9 = .ok (.iload_n 1, 1) := by decide +kernel
theorem dX12_kind_10 : decode cX12_kind 10 = .ok (.invokevirtual 204, 3) := by decide +kernel
theorem dX12_kind_13 : decode cX12_kind 13 = .ok (.goto 5, 3) := by decide +kernel
theorem dX12_kind_16 : decode cX12_kind 16 = .ok (.ldc 61, 2) := by decide +kernel
theorem dX12_kind_18 : decode cX12_kind 18 = .ok (.ireturn, 1) := by decide +kernel
theorem dX12_as_0 : decode cX12_as 0 = .ok (.aload_n 0, 1) := by decide +kernel
theorem dX12_as_1 : decode cX12_as 1 = .ok (.iload_n 1, 1) := by decide +kernel
theorem dX12_as_2 : decode cX12_as 2 = .ok (.invokevirtual 165, 3) := by decide +kernel
theorem dX12_as_5 : decode cX12_as 5 = .ok (.ifCond .eq 12, 3) := by decide +kernel
theorem dX12_as_8 : decode cX12_as 8 = .ok (.iload_n 2, 1) := by decide +kernel
theorem dX12_as_9 : decode cX12_as 9 = .ok (.iconst 0, 1) := by decide +kernel
theorem dX12_as_10 : decode cX12_as 10 = .ok (.iconst 5, 1) := by decide +kernel
theorem dX12_as_11 : decode cX12_as 11 = .ok (.invokestatic 53, 3) := by decide +kernel
theorem dX12_as_14 : decode cX12_as 14 = .ok (.ifCond .ne 6, 3) := by decide +kernel
theorem dX12_as_17 : decode cX12_as 17 = .ok (.ldc 61, 2) := by decide +kernel
theorem dX12_as_19 : decode cX12_as 19 = .ok (.ireturn, 1) := by decide +kernel
theorem dX12_as_20 : decode cX12_as 20 = .ok (.aload_n 0, 1) := by decide +kernel
theorem dX12_as_21 : decode cX12_as 21 = .ok (.iload_n 1, 1) := by decide +kernel
theorem dX12_as_22 : decode cX12_as 22 = .ok (.invokevirtual 204, 3) := by decide +kernel
theorem dX12_as_25 : decode cX12_as 25 = .ok (.istore_n 3, 1) := by decide +kernel
theorem dX12_as_26 : decode cX12_as 26 = .ok (.iload_n 2, 1) := by decide +kernel
theorem dX12_as_27 : decode cX12_as 27 = .ok (.ifCond .eq 28, 3) := by decide +kernel
theorem dX12_as_30 : decode cX12_as 30 = .ok (.iload_n 2, 1) := by decide +kernel
theorem dX12_as_31 : decode cX12_as 31 = .ok (.iload_n 3, 1) := by decide +kernel
theorem dX12_as_32 : decode cX12_as 32 = .ok (.if_icmp .eq 23, 3) := by decide +kernel
theorem dX12_as_35 : decode cX12_as 35 = .ok (.iload_n 2, 1) := by decide +kernel
theorem dX12_as_36 : decode cX12_as 36 = .ok (.iconst 1, 1) := by decide +kernel
theorem dX12_as_37 : decode cX12_as 37 = .ok (.if_icmp .ne 8, 3) := by decide +kernel
theorem dX12_as_40 : decode cX12_as 40 = .ok (.iload_n 3, 1) := by decide +kernel
theorem dX12_as_41 : decode cX12_as 41 = .ok (.iconst 4, 1) := by decide +kernel
theorem dX12_as_42 : decode cX12_as 42 = .ok (.if_icmp .lt 13, 3) := by decide +kernel
theorem dX12_as_45 : decode cX12_as 45 = .ok (.iload_n 2, 1) := by decide +kernel
theorem dX12_as_46 : decode cX12_as 46 = .ok (.iconst 4, 1) := by decide +kernel
theorem dX12_as_47 : decode cX12_as 47 = .ok (.if_icmp .ne 12, 3) := by decide +kernel
theorem dX12_as_50 : decode cX12_as 50 = .ok (.iload_n 3, 1) := by decide +kernel
theorem dX12_as_51 : decode cX12_as 51 = .ok (.iconst 5, 1) := by decide +kernel
theorem dX12_as_52 : decode cX12_as 52 = .ok (.if_icmp .ne 7, 3) := by decide +kernel
theorem dX12_as_55 : decode cX12_as 55 = .ok (.iconst 1, 1) := by decide +kernel
theorem dX12_as_56 : decode cX12_as 56 = .ok (.goto 4, 3) := by decide +kernel
theorem dX12_as_59 : decode cX12_as 59 = .ok (.iconst 0, 1) := by decide +kernel
theorem dX12_as_60 : decode cX12_as 60 = .ok (.istore 4, 2) := by decide +kernel
theorem dX12_as_62 : decode cX12_as 62 = .ok (.iload 4, 2) := by decide +kernel
theorem dX12_as_64 : decode cX12_as 64 = .ok (.ifCond .eq 11, 3) := by decide +kernel
theorem dX12_as_67 : decode cX12_as 67 = .ok (.aload_n 0, 1) := by decide +kernel
theorem dX12_as_68 : decode cX12_as 68 = .ok (.iload_n 1, 1) := by decide +kernel
theorem dX12_as_69 : decode cX12_as 69 = .ok (.invokevirtual 66, 3) := by decide +kernel
theorem dX12_as_72 : decode cX12_as 72 = .ok (.goto 8, 3) := by decide +kernel
theorem dX12_as_75 : decode cX12_as 75 = .ok (.aload_n 0, 1) := by decide +kernel
theorem dX12_as_76 : decode cX12_as 76 = .ok (.iconst 3, 1) := by decide +kernel
theorem dX12_as_77 : decode cX12_as 77 = .ok (.invokevirtual 62, 3) := by decide +kernel
theorem dX12_as_80 : decode cX12_as 80 = .ok (.ireturn, 1) := by decide +kernel
theorem dX12_begins_0 : decode cX12_begins 0 = .ok (.aload_n 0, 1) := by decide +kernel
theorem dX12_begins_1 : decode cX12_begins 1 = .ok (.getfield 207, 3) := by decide +kernel
theorem dX12_begins_4 : decode cX12_begins 4 = .ok (.bipush 16, 2) := by decide +kernel
theorem dX12_begins_6 : decode cX12_begins 6 = .ok (.if_icmp .ge 23, 3) := by decide +kernel
theorem dX12_begins_9 : decode cX12_begins 9 = .ok (.aload_n 0, 1) := by decide +kernel
theorem dX12_begins_10 : decode cX12_begins 10 = .ok (.getfield 44, 3) := by decide +kernel
theorem dX12_begins_13 : decode cX12_begins 13 = .ok (.aload_n 0, 1) := by decide +kernel
theorem dX12_begins_14 : decode cX12_begins 14 = .ok (.getfield 207, 3) := by decide +kernel
theorem dX12_begins_17 : decode cX12_begins 17 = .ok (.iload_n 1, 1) := by decide +kernel
theorem dX12_begins_18 : decode cX12_begins 18 = .ok (.iastore, 1) := by decide +kernel
theorem dX12_begins_19 : decode cX12_begins 19 = .ok (.aload_n 0, 1) := by decide +kernel
theorem dX12_begins_20 : decode cX12_begins 20 = .ok (.dup, 1) := by decide +kernel
theorem dX12_begins_21 : decode cX12_begins 21 = .ok (.getfield 207, 3) := by decide +kernel
theorem dX12_begins_24 : decode cX12_begins 24 = .ok (.iconst 1, 1) := by decide +kernel
theorem dX12_begins_25 : decode cX12_begins 25 = .ok (.iadd, 1) := by decide +kernel
theorem dX12_begins_26 : decode cX12_begins 26 = .ok (.putfield 207, 3) := by decide +kernel
theorem dX12_begins_29 : decode cX12_begins 29 = .ok (.return_, 1) := by decide +kernel
theorem dX12_clerkMark_0 : decode cX12_clerkMark 0 = .ok (.aload_n 0, 1) := by decide +kernel
theorem dX12_clerkMark_1 : decode cX12_clerkMark 1 = .ok (.iload_n 1, 1) := by decide +kernel
theorem dX12_clerkMark_2 : decode cX12_clerkMark 2 = .ok (.invokevirtual 204, 3) := by decide +kernel
theorem dX12_clerkMark_5 : decode cX12_clerkMark 5 = .ok (.istore_n 2, 1) := by decide +kernel
theorem dX12_clerkMark_6 : decode cX12_clerkMark 6 = .ok (.iload_n 2, 1) := by decide +kernel
theorem dX12_clerkMark_7 : decode cX12_clerkMark 7 = .ok (.iconst 1, 1) := by decide +kernel
theorem dX12_clerkMark_8 : decode cX12_clerkMark 8 = .ok (.if_icmp .eq 19, 3) := by decide +kernel
theorem dX12_clerkMark_11 : decode cX12_clerkMark 11 = .ok (.aload_n 0, 1) := by decide +kernel
theorem dX12_clerkMark_12 : decode cX12_clerkMark 12 = .ok (.iload_n 2, 1) := by decide +kernel
theorem dX12_clerkMark_13 : decode cX12_clerkMark 13 = .ok (.iconst 2, 1) := by decide +kernel
theorem dX12_clerkMark_14 : decode cX12_clerkMark 14 = .ok (.if_icmp .ne 8, 3) := by decide +kernel
theorem dX12_clerkMark_17 : decode cX12_clerkMark 17 = .ok (.bipush 24, 2) := by decide +kernel
theorem dX12_clerkMark_19 : decode cX12_clerkMark 19 = .ok (.goto 5, 3) := by decide +kernel
theorem dX12_clerkMark_22 : decode cX12_clerkMark 22 = .ok (.bipush 22, 2) := by decide +kernel
theorem dX12_clerkMark_24 : decode cX12_clerkMark 24 = .ok (.invokevirtual 210, 3) := by decide +kernel
theorem dX12_clerkMark_27 : decode cX12_clerkMark 27 = .ok (.aload_n 0, 1) := by decide +kernel
theorem dX12_clerkMark_28 : decode cX12_clerkMark 28 = .ok (.bipush 21, 2) := by decide +kernel
theorem dX12_clerkMark_30 : decode cX12_clerkMark 30 = .ok (.invokevirtual 210, 3) := by decide +kernel
theorem dX12_clerkMark_33 : decode cX12_clerkMark 33 = .ok (.aload_n 0, 1) := by decide +kernel
theorem dX12_clerkMark_34 : decode cX12_clerkMark 34 = .ok (.bipush 20, 2) := by decide +kernel
theorem dX12_clerkMark_36 : decode cX12_clerkMark 36 = .ok (.invokevirtual 210, 3) := by decide +kernel
theorem dX12_clerkMark_39 : decode cX12_clerkMark 39 = .ok (.iload_n 1, 1) := by decide +kernel
theorem dX12_clerkMark_40 : decode cX12_clerkMark 40 = .ok (.aload_n 0, 1) := by decide +kernel
theorem dX12_clerkMark_41 : decode cX12_clerkMark 41 = .ok (.getfield 25, 3) := by decide +kernel
theorem dX12_clerkMark_44 : decode cX12_clerkMark 44 = .ok (.iload_n 1, 1) := by decide +kernel
theorem dX12_clerkMark_45 : decode cX12_clerkMark 45 = .ok (.invokestatic 143, 3) := by decide +kernel
theorem dX12_clerkMark_48 : decode cX12_clerkMark 48 = .ok (.iadd, 1) := by decide +kernel
theorem dX12_clerkMark_49 : decode cX12_clerkMark 49 = .ok (.istore_n 3, 1) := by decide +kernel
theorem dX12_clerkMark_50 : decode cX12_clerkMark 50 = .ok (.iload_n 2, 1) := by decide +kernel
theorem dX12_clerkMark_51 : decode cX12_clerkMark 51 = .ok (.iconst 2, 1) := by decide +kernel
theorem dX12_clerkMark_52 : decode cX12_clerkMark 52 = .ok (.if_icmp .ne 9, 3) := by decide +kernel
theorem dX12_clerkMark_55 : decode cX12_clerkMark 55 = .ok (.iconst 2, 1) := by decide +kernel
theorem dX12_clerkMark_56 : decode cX12_clerkMark 56 = .ok (.iload_n 3, 1) := by decide +kernel
theorem dX12_clerkMark_57 : decode cX12_clerkMark 57 = .ok (.imul, 1) := by decide +kernel
theorem dX12_clerkMark_58 : decode cX12_clerkMark 58 = .ok (.goto 17, 3) := by decide +kernel
theorem dX12_clerkMark_61 : decode cX12_clerkMark 61 = .ok (.iload_n 2, 1) := by decide +kernel
theorem dX12_clerkMark_62 : decode cX12_clerkMark 62 = .ok (.iconst 3, 1) := by decide +kernel
theorem dX12_clerkMark_63 : decode cX12_clerkMark 63 = .ok (.if_icmp .ne 11, 3) := by decide +kernel
theorem dX12_clerkMark_66 : decode cX12_clerkMark 66 = .ok (.iload_n 3, 1) := by decide +kernel
theorem dX12_clerkMark_67 : decode cX12_clerkMark 67 = .ok (.sipush 1000, 3) := by decide +kernel
theorem dX12_clerkMark_70 : decode cX12_clerkMark 70 = .ok (.isub, 1) := by decide +kernel
theorem dX12_clerkMark_71 : decode cX12_clerkMark 71 = .ok (.goto 4, 3) := by decide +kernel
theorem dX12_clerkMark_74 : decode cX12_clerkMark 74 = .ok (.iload_n 3, 1) := by decide +kernel
theorem dX12_clerkMark_75 : decode cX12_clerkMark 75 = .ok (.ireturn, 1) := by decide +kernel
theorem dX12_chiefSize_0 : decode cX12_chiefSize 0 = .ok (.aload_n 0, 1) := by decide +kernel
theorem dX12_chiefSize_1 : decode cX12_chiefSize 1 = .ok (.iload_n 1, 1) := by decide +kernel
theorem dX12_chiefSize_2 : decode cX12_chiefSize 2 = .ok (.invokevirtual 204, 3) := by decide +kernel
theorem dX12_chiefSize_5 : decode cX12_chiefSize 5 = .ok (.iconst 5, 1) := by decide +kernel
theorem dX12_chiefSize_6 : decode cX12_chiefSize 6 = .ok (.if_icmp .ne 7, 3) := by decide +kernel
theorem dX12_chiefSize_9 : decode cX12_chiefSize 9 = .ok (.iconst 1, 1) := by decide +kernel
theorem dX12_chiefSize_10 : decode cX12_chiefSize 10 = .ok (.goto 4, 3) := by decide +kernel
theorem dX12_chiefSize_13 : decode cX12_chiefSize 13 = .ok (.iconst 0, 1) := by decide +kernel
theorem dX12_chiefSize_14 : decode cX12_chiefSize 14 = .ok (.istore_n 2, 1) := by decide +kernel
theorem dX12_chiefSize_15 : decode cX12_chiefSize 15 = .ok (.iload_n 2, 1) := by decide +kernel
theorem dX12_chiefSize_16 : decode cX12_chiefSize 16 = .ok (.ifCond .eq 9, 3) := by decide +kernel
theorem dX12_chiefSize_19 : decode cX12_chiefSize 19 = .ok (.aload_n 0, 1) := by decide +kernel
theorem dX12_chiefSize_20 : decode cX12_chiefSize 20 = .ok (.bipush 14, 2) := by decide +kernel
theorem dX12_chiefSize_22 : decode cX12_chiefSize 22 = .ok (.invokevirtual 210, 3) := by decide +kernel
theorem dX12_chiefSize_25 : decode cX12_chiefSize 25 = .ok (.aload_n 0, 1) := by decide +kernel
theorem dX12_chiefSize_26 : decode cX12_chiefSize 26 = .ok (.bipush 13, 2) := by decide +kernel
theorem dX12_chiefSize_28 : decode cX12_chiefSize 28 = .ok (.invokevirtual 210, 3) := by decide +kernel
theorem dX12_chiefSize_31 : decode cX12_chiefSize 31 = .ok (.aload_n 0, 1) := by decide +kernel
theorem dX12_chiefSize_32 : decode cX12_chiefSize 32 = .ok (.bipush 10, 2) := by decide +kernel
theorem dX12_chiefSize_34 : decode cX12_chiefSize 34 = .ok (.invokevirtual 210, 3) := by decide +kernel
theorem dX12_chiefSize_37 : decode cX12_chiefSize 37 = .ok (.aload_n 0, 1) := by decide +kernel
theorem dX12_chiefSize_38 : decode cX12_chiefSize 38 = .ok (.getfield 25, 3) := by decide +kernel
theorem dX12_chiefSize_41 : decode cX12_chiefSize 41 = .ok (.iconst 5, 1) := by decide +kernel
theorem dX12_chiefSize_42 : decode cX12_chiefSize 42 = .ok (.bipush 6, 2) := by decide +kernel
theorem dX12_chiefSize_44 : decode cX12_chiefSize 44 = .ok (.iload_n 1, 1) := by decide +kernel
theorem dX12_chiefSize_45 : decode cX12_chiefSize 45 = .ok (.imul, 1) := by decide +kernel
theorem dX12_chiefSize_46 : decode cX12_chiefSize 46 = .ok (.iadd, 1) := by decide +kernel
theorem dX12_chiefSize_47 : decode cX12_chiefSize 47 = .ok (.iconst 2, 1) := by decide +kernel
theorem dX12_chiefSize_48 : decode cX12_chiefSize 48 = .ok (.iadd, 1) := by decide +kernel
theorem dX12_chiefSize_49 : decode cX12_chiefSize 49 = .ok (.iaload, 1) := by decide +kernel
theorem dX12_chiefSize_50 : decode cX12_chiefSize 50 = .ok (.bipush 100, 2) := by decide +kernel
theorem dX12_chiefSize_52 : decode cX12_chiefSize 52 = .ok (.isub, 1) := by decide +kernel
theorem dX12_chiefSize_53 : decode cX12_chiefSize 53 = .ok (.istore_n 3, 1) := by decide +kernel
theorem dX12_chiefSize_54 : decode cX12_chiefSize 54 = .ok (.iload_n 2, 1) := by decide +kernel
theorem dX12_chiefSize_55 : decode cX12_chiefSize 55 = .ok (.ifCond .eq 9, 3) := by decide +kernel
theorem dX12_chiefSize_58 : decode cX12_chiefSize 58 = .ok (.iconst 2, 1) := by decide +kernel
theorem dX12_chiefSize_59 : decode cX12_chiefSize 59 = .ok (.iload_n 3, 1) := by decide +kernel
theorem dX12_chiefSize_60 : decode cX12_chiefSize 60 = .ok (.imul, 1) := by decide +kernel
theorem dX12_chiefSize_61 : decode cX12_chiefSize 61 = .ok (.goto 4, 3) := by decide +kernel
theorem dX12_chiefSize_64 : decode cX12_chiefSize 64 = .ok (.iload_n 3, 1) := by decide +kernel
theorem dX12_chiefSize_65 : decode cX12_chiefSize 65 = .ok (.ireturn, 1) := by decide +kernel
theorem dX12_clerkSize_0 : decode cX12_clerkSize 0 = .ok (.aload_n 0, 1) := by decide +kernel
theorem dX12_clerkSize_1 : decode cX12_clerkSize 1 = .ok (.iload_n 1, 1) := by decide +kernel
theorem dX12_clerkSize_2 : decode cX12_clerkSize 2 = .ok (.invokevirtual 204, 3) := by decide +kernel
theorem dX12_clerkSize_5 : decode cX12_clerkSize 5 = .ok (.iconst 2, 1) := by decide +kernel
theorem dX12_clerkSize_6 : decode cX12_clerkSize 6 = .ok (.if_icmp .ne 7, 3) := by decide +kernel
theorem dX12_clerkSize_9 : decode cX12_clerkSize 9 = .ok (.iconst 1, 1) := by decide +kernel
theorem dX12_clerkSize_10 : decode cX12_clerkSize 10 = .ok (.goto 4, 3) := by decide +kernel
theorem dX12_clerkSize_13 : decode cX12_clerkSize 13 = .ok (.iconst 0, 1) := by decide +kernel
theorem dX12_clerkSize_14 : decode cX12_clerkSize 14 = .ok (.istore_n 2, 1) := by decide +kernel
theorem dX12_clerkSize_15 : decode cX12_clerkSize 15 = .ok (.iload_n 2, 1) := by decide +kernel
theorem dX12_clerkSize_16 : decode cX12_clerkSize 16 = .ok (.ifCond .eq 9, 3) := by decide +kernel
theorem dX12_clerkSize_19 : decode cX12_clerkSize 19 = .ok (.aload_n 0, 1) := by decide +kernel
theorem dX12_clerkSize_20 : decode cX12_clerkSize 20 = .ok (.bipush 12, 2) := by decide +kernel
theorem dX12_clerkSize_22 : decode cX12_clerkSize 22 = .ok (.invokevirtual 210, 3) := by decide +kernel
theorem dX12_clerkSize_25 : decode cX12_clerkSize 25 = .ok (.aload_n 0, 1) := by decide +kernel
theorem dX12_clerkSize_26 : decode cX12_clerkSize 26 = .ok (.bipush 11, 2) := by decide +kernel
theorem dX12_clerkSize_28 : decode cX12_clerkSize 28 = .ok (.invokevirtual 210, 3) := by decide +kernel
theorem dX12_clerkSize_31 : decode cX12_clerkSize 31 = .ok (.aload_n 0, 1) := by decide +kernel
theorem dX12_clerkSize_32 : decode cX12_clerkSize 32 = .ok (.bipush 10, 2) := by decide +kernel
theorem dX12_clerkSize_34 : decode cX12_clerkSize 34 = .ok (.invokevirtual 210, 3) := by decide +kernel
theorem dX12_clerkSize_37 : decode cX12_clerkSize 37 = .ok (.aload_n 0, 1) := by decide +kernel
theorem dX12_clerkSize_38 : decode cX12_clerkSize 38 = .ok (.getfield 25, 3) := by decide +kernel
theorem dX12_clerkSize_41 : decode cX12_clerkSize 41 = .ok (.iconst 5, 1) := by decide +kernel
theorem dX12_clerkSize_42 : decode cX12_clerkSize 42 = .ok (.bipush 6, 2) := by decide +kernel
theorem dX12_clerkSize_44 : decode cX12_clerkSize 44 = .ok (.iload_n 1, 1) := by decide +kernel
theorem dX12_clerkSize_45 : decode cX12_clerkSize 45 = .ok (.imul, 1) := by decide +kernel
theorem dX12_clerkSize_46 : decode cX12_clerkSize 46 = .ok (.iadd, 1) := by decide +kernel
theorem dX12_clerkSize_47 : decode cX12_clerkSize 47 = .ok (.iconst 2, 1) := by decide +kernel
theorem dX12_clerkSize_48 : decode cX12_clerkSize 48 = .ok (.iadd, 1) := by decide +kernel
theorem dX12_clerkSize_49 : decode cX12_clerkSize 49 = .ok (.iaload, 1) := by decide +kernel
theorem dX12_clerkSize_50 : decode cX12_clerkSize 50 = .ok (.aload_n 0, 1) := by decide +kernel
theorem dX12_clerkSize_51 : decode cX12_clerkSize 51 = .ok (.iload_n 1, 1) := by decide +kernel
theorem dX12_clerkSize_52 : decode cX12_clerkSize 52 = .ok (.invokevirtual 213, 3) := by decide +kernel
theorem dX12_clerkSize_55 : decode cX12_clerkSize 55 = .ok (.iadd, 1) := by decide +kernel
theorem dX12_clerkSize_56 : decode cX12_clerkSize 56 = .ok (.istore_n 3, 1) := by decide +kernel
theorem dX12_clerkSize_57 : decode cX12_clerkSize 57 = .ok (.iload_n 2, 1) := by decide +kernel
theorem dX12_clerkSize_58 : decode cX12_clerkSize 58 = .ok (.ifCond .eq 8, 3) := by decide +kernel
theorem dX12_clerkSize_61 : decode cX12_clerkSize 61 = .ok (.iload_n 3, 1) := by decide +kernel
theorem dX12_clerkSize_62 : decode cX12_clerkSize 62 = .ok (.ineg, 1) := by decide +kernel
theorem dX12_clerkSize_63 : decode cX12_clerkSize 63 = .ok (.goto 4, 3) := by decide +kernel
theorem dX12_clerkSize_66 : decode cX12_clerkSize 66 = .ok (.iload_n 3, 1) := by decide +kernel
theorem dX12_clerkSize_67 : decode cX12_clerkSize 67 = .ok (.ireturn, 1) := by decide +kernel
theorem dX12_chiefMark_0 : decode cX12_chiefMark 0 = .ok (.aload_n 0, 1) := by decide +kernel
theorem dX12_chiefMark_1 : decode cX12_chiefMark 1 = .ok (.bipush 23, 2) := by decide +kernel
theorem dX12_chiefMark_3 : decode cX12_chiefMark 3 = .ok (.invokevirtual 210, 3) := by decide +kernel
theorem dX12_chiefMark_6 : decode cX12_chiefMark 6 = .ok (.aload_n 0, 1) := by decide +kernel
theorem dX12_chiefMark_7 : decode cX12_chiefMark 7 = .ok (.bipush 20, 2) := by decide +kernel
theorem dX12_chiefMark_9 : decode cX12_chiefMark 9 = .ok (.invokevirtual 210, 3) := by decide +kernel
theorem dX12_chiefMark_12 : decode cX12_chiefMark 12 = .ok (.iload_n 1, 1) := by decide +kernel
theorem dX12_chiefMark_13 : decode cX12_chiefMark 13 = .ok (.aload_n 0, 1) := by decide +kernel
theorem dX12_chiefMark_14 : decode cX12_chiefMark 14 = .ok (.iload_n 1, 1) := by decide +kernel
theorem dX12_chiefMark_15 : decode cX12_chiefMark 15 = .ok (.invokevirtual 216, 3) := by decide +kernel
theorem dX12_chiefMark_18 : decode cX12_chiefMark 18 = .ok (.isub, 1) := by decide +kernel
theorem dX12_chiefMark_19 : decode cX12_chiefMark 19 = .ok (.ireturn, 1) := by decide +kernel
theorem dX12_ask_0 : decode cX12_ask 0 = .ok (.aload_n 0, 1) := by decide +kernel
theorem dX12_ask_1 : decode cX12_ask 1 = .ok (.iload_n 1, 1) := by decide +kernel
theorem dX12_ask_2 : decode cX12_ask 2 = .ok (.invokevirtual 165, 3) := by decide +kernel
theorem dX12_ask_5 : decode cX12_ask 5 = .ok (.ifCond .eq 12, 3) := by decide +kernel
theorem dX12_ask_8 : decode cX12_ask 8 = .ok (.iload_n 2, 1) := by decide +kernel
theorem dX12_ask_9 : decode cX12_ask 9 = .ok (.iconst 0, 1) := by decide +kernel
theorem dX12_ask_10 : decode cX12_ask 10 = .ok (.iconst 1, 1) := by decide +kernel
theorem dX12_ask_11 : decode cX12_ask 11 = .ok (.invokestatic 53, 3) := by decide +kernel
theorem dX12_ask_14 : decode cX12_ask 14 = .ok (.ifCond .ne 6, 3) := by decide +kernel
theorem dX12_ask_17 : decode cX12_ask 17 = .ok (.ldc 61, 2) := by decide +kernel
theorem dX12_ask_19 : decode cX12_ask 19 = .ok (.ireturn, 1) := by decide +kernel
theorem dX12_ask_20 : decode cX12_ask 20 = .ok (.aload_n 0, 1) := by decide +kernel
theorem dX12_ask_21 : decode cX12_ask 21 = .ok (.iconst 0, 1) := by decide +kernel
theorem dX12_ask_22 : decode cX12_ask 22 = .ok (.putfield 207, 3) := by decide +kernel
theorem dX12_ask_25 : decode cX12_ask 25 = .ok (.aload_n 0, 1) := by decide +kernel
theorem dX12_ask_26 : decode cX12_ask 26 = .ok (.iload_n 1, 1) := by decide +kernel
theorem dX12_ask_27 : decode cX12_ask 27 = .ok (.invokevirtual 204, 3) := by decide +kernel
theorem dX12_ask_30 : decode cX12_ask 30 = .ok (.iconst 4, 1) := by decide +kernel
theorem dX12_ask_31 : decode cX12_ask 31 = .ok (.if_icmp .lt 7, 3) := by decide +kernel
theorem dX12_ask_34 : decode cX12_ask 34 = .ok (.iconst 1, 1) := by decide +kernel
theorem dX12_ask_35 : decode cX12_ask 35 = .ok (.goto 4, 3) := by decide +kernel
theorem dX12_ask_38 : decode cX12_ask 38 = .ok (.iconst 0, 1) := by decide +kernel
theorem dX12_ask_39 : decode cX12_ask 39 = .ok (.istore_n 3, 1) := by decide +kernel
theorem dX12_ask_40 : decode cX12_ask 40 = .ok (.iload_n 2, 1) := by decide +kernel
theorem dX12_ask_41 : decode cX12_ask 41 = .ok (.ifCond .ne 21, 3) := by decide +kernel
theorem dX12_ask_44 : decode cX12_ask 44 = .ok (.iload_n 3, 1) := by decide +kernel
theorem dX12_ask_45 : decode cX12_ask 45 = .ok (.ifCond .eq 11, 3) := by decide +kernel
theorem dX12_ask_48 : decode cX12_ask 48 = .ok (.aload_n 0, 1) := by decide +kernel
theorem dX12_ask_49 : decode cX12_ask 49 = .ok (.iload_n 1, 1) := by decide +kernel
theorem dX12_ask_50 : decode cX12_ask 50 = .ok (.invokevirtual 216, 3) := by decide +kernel
theorem dX12_ask_53 : decode cX12_ask 53 = .ok (.goto 8, 3) := by decide +kernel
theorem dX12_ask_56 : decode cX12_ask 56 = .ok (.aload_n 0, 1) := by decide +kernel
theorem dX12_ask_57 : decode cX12_ask 57 = .ok (.iload_n 1, 1) := by decide +kernel
theorem dX12_ask_58 : decode cX12_ask 58 = .ok (.invokevirtual 219, 3) := by decide +kernel
theorem dX12_ask_61 : decode cX12_ask 61 = .ok (.ireturn, 1) := by decide +kernel
theorem dX12_ask_62 : decode cX12_ask 62 = .ok (.iload_n 3, 1) := by decide +kernel
theorem dX12_ask_63 : decode cX12_ask 63 = .ok (.ifCond .eq 11, 3) := by decide +kernel
theorem dX12_ask_66 : decode cX12_ask 66 = .ok (.aload_n 0, 1) := by decide +kernel
theorem dX12_ask_67 : decode cX12_ask 67 = .ok (.iload_n 1, 1) := by decide +kernel
theorem dX12_ask_68 : decode cX12_ask 68 = .ok (.invokevirtual 222, 3) := by decide +kernel
theorem dX12_ask_71 : decode cX12_ask 71 = .ok (.goto 8, 3) := by decide +kernel
theorem dX12_ask_74 : decode cX12_ask 74 = .ok (.aload_n 0, 1) := by decide +kernel
theorem dX12_ask_75 : decode cX12_ask 75 = .ok (.iload_n 1, 1) := by decide +kernel
theorem dX12_ask_76 : decode cX12_ask 76 = .ok (.invokevirtual 213, 3) := by decide +kernel
theorem dX12_ask_79 : decode cX12_ask 79 = .ok (.ireturn, 1) := by decide +kernel
theorem dX12_trace_0 : decode cX12_trace 0 = .ok (.iload_n 1, 1) := by decide +kernel
theorem dX12_trace_1 : decode cX12_trace 1 = .ok (.iconst 0, 1) := by decide +kernel
theorem dX12_trace_2 : decode cX12_trace 2 = .ok (.aload_n 0, 1) := by decide +kernel
theorem dX12_trace_3 : decode cX12_trace 3 = .ok (.getfield 207, 3) := by decide +kernel
theorem dX12_trace_6 : decode cX12_trace 6 = .ok (.iconst 1, 1) := by decide +kernel
theorem dX12_trace_7 : decode cX12_trace 7 = .ok (.isub, 1) := by decide +kernel
theorem dX12_trace_8 : decode cX12_trace 8 = .ok (.invokestatic 53, 3) := by decide +kernel
theorem dX12_trace_11 : decode cX12_trace 11 = .ok (.ifCond .eq 12, 3) := by decide +kernel
theorem dX12_trace_14 : decode cX12_trace 14 = .ok (.aload_n 0, 1) := by decide +kernel
theorem dX12_trace_15 : decode cX12_trace 15 = .ok (.getfield 44, 3) := by decide +kernel
theorem dX12_trace_18 : decode cX12_trace 18 = .ok (.iload_n 1, 1) := by decide +kernel
theorem dX12_trace_19 : decode cX12_trace 19 = .ok (.iaload, 1) := by decide +kernel
theorem dX12_trace_20 : decode cX12_trace 20 = .ok (.goto 5, 3) := by decide +kernel
theorem dX12_trace_23 : decode cX12_trace 23 = .ok (.ldc 47, 2) := by decide +kernel
theorem dX12_trace_25 : decode cX12_trace 25 = .ok (.ireturn, 1) := by decide +kernel
theorem dX12_count_0 : decode cX12_count 0 = .ok (.iconst 0, 1) := by decide +kernel
theorem dX12_count_1 : decode cX12_count 1 = .ok (.istore_n 2, 1) := by decide +kernel
theorem dX12_count_2 : decode cX12_count 2 = .ok (.iload_n 1, 1) := by decide +kernel
theorem dX12_count_3 : decode cX12_count 3 = .ok (.tableswitch 115 0 6 #[41, 73, 80, 87, 94, 105, 110], 41) := by decide +kernel
theorem dX12_count_44 : decode cX12_count 44 = .ok (.iconst 0, 1) := by decide +kernel
theorem dX12_count_45 : decode cX12_count 45 = .ok (.istore_n 3, 1) := by decide +kernel
theorem dX12_count_46 : decode cX12_count 46 = .ok (.iload_n 3, 1) := by decide +kernel
theorem dX12_count_47 : decode cX12_count 47 = .ok (.bipush 8, 2) := by decide +kernel
theorem dX12_count_49 : decode cX12_count 49 = .ok (.if_icmp .ge 25, 3) := by decide +kernel
theorem dX12_count_52 : decode cX12_count 52 = .ok (.iload_n 2, 1) := by decide +kernel
theorem dX12_count_53 : decode cX12_count 53 = .ok (.aload_n 0, 1) := by decide +kernel
theorem dX12_count_54 : decode cX12_count 54 = .ok (.iload_n 3, 1) := by decide +kernel
theorem dX12_count_55 : decode cX12_count 55 = .ok (.invokevirtual 69, 3) := by decide +kernel
theorem dX12_count_58 : decode cX12_count 58 = .ok (.ifCond .eq 7, 3) := by decide +kernel
theorem dX12_count_61 : decode cX12_count 61 = .ok (.iconst 0, 1) := by decide +kernel
theorem dX12_count_62 : decode cX12_count 62 = .ok (.goto 4, 3) := by decide +kernel
theorem dX12_count_65 : decode cX12_count 65 = .ok (.iconst 1, 1) := by decide +kernel
theorem dX12_count_66 : decode cX12_count 66 = .ok (.iadd, 1) := by decide +kernel
theorem dX12_count_67 : decode cX12_count 67 = .ok (.istore_n 2, 1) := by decide +kernel
theorem dX12_count_68 : decode cX12_count 68 = .ok (.iinc 3 1, 3) := by decide +kernel
theorem dX12_count_71 : decode cX12_count 71 = .ok (.goto (-25), 3) := by decide +kernel
theorem dX12_count_74 : decode cX12_count 74 = .ok (.iload_n 2, 1) := by decide +kernel
theorem dX12_count_75 : decode cX12_count 75 = .ok (.ireturn, 1) := by decide +kernel
theorem dX12_count_76 : decode cX12_count 76 = .ok (.aload_n 0, 1) := by decide +kernel
theorem dX12_count_77 : decode cX12_count 77 = .ok (.getfield 25, 3) := by decide +kernel
theorem dX12_count_80 : decode cX12_count 80 = .ok (.iconst 4, 1) := by decide +kernel
theorem dX12_count_81 : decode cX12_count 81 = .ok (.iaload, 1) := by decide +kernel
theorem dX12_count_82 : decode cX12_count 82 = .ok (.ireturn, 1) := by decide +kernel
theorem dX12_count_83 : decode cX12_count 83 = .ok (.aload_n 0, 1) := by decide +kernel
theorem dX12_count_84 : decode cX12_count 84 = .ok (.getfield 25, 3) := by decide +kernel
theorem dX12_count_87 : decode cX12_count 87 = .ok (.iconst 2, 1) := by decide +kernel
theorem dX12_count_88 : decode cX12_count 88 = .ok (.iaload, 1) := by decide +kernel
theorem dX12_count_89 : decode cX12_count 89 = .ok (.ireturn, 1) := by decide +kernel
theorem dX12_count_90 : decode cX12_count 90 = .ok (.aload_n 0, 1) := by decide +kernel
theorem dX12_count_91 : decode cX12_count 91 = .ok (.getfield 25, 3) := by decide +kernel
theorem dX12_count_94 : decode cX12_count 94 = .ok (.iconst 0, 1) := by decide +kernel
theorem dX12_count_95 : decode cX12_count 95 = .ok (.iaload, 1) := by decide +kernel
theorem dX12_count_96 : decode cX12_count 96 = .ok (.ireturn, 1) := by decide +kernel
theorem dX12_count_97 : decode cX12_count 97 = .ok (.aload_n 0, 1) := by decide +kernel
theorem dX12_count_98 : decode cX12_count 98 = .ok (.getfield 25, 3) := by decide +kernel
theorem dX12_count_101 : decode cX12_count 101 = .ok (.invokestatic 171, 3) := by decide +kernel
theorem dX12_count_104 : decode cX12_count 104 = .ok (.invokestatic 191, 3) := by decide +kernel
theorem dX12_count_107 : decode cX12_count 107 = .ok (.ireturn, 1) := by decide +kernel
theorem dX12_count_108 : decode cX12_count 108 = .ok (.aload_n 0, 1) := by decide +kernel
theorem dX12_count_109 : decode cX12_count 109 = .ok (.getfield 132, 3) := by decide +kernel
theorem dX12_count_112 : decode cX12_count 112 = .ok (.ireturn, 1) := by decide +kernel
theorem dX12_count_113 : decode cX12_count 113 = .ok (.aload_n 0, 1) := by decide +kernel
theorem dX12_count_114 : decode cX12_count 114 = .ok (.getfield 79, 3) := by decide +kernel
theorem dX12_count_117 : decode cX12_count 117 = .ok (.ireturn, 1) := by decide +kernel
theorem dX12_count_118 : decode cX12_count 118 = .ok (.ldc 61, 2) := by decide +kernel
theorem dX12_count_120 : decode cX12_count 120 = .ok (.ireturn, 1) := by decide +kernel
theorem dX12_status_0 : decode cX12_status 0 = .ok (.aload_n 0, 1) := by decide +kernel
theorem dX12_status_1 : decode cX12_status 1 = .ok (.getfield 48, 3) := by decide +kernel
theorem dX12_status_4 : decode cX12_status 4 = .ok (.ireturn, 1) := by decide +kernel
theorem dJ6_compare_7cf53_0 : decode cJ6_compare_7cf53 0 = .ok (.iload_n 0, 1) := by decide +kernel
theorem dJ6_compare_7cf53_1 : decode cJ6_compare_7cf53 1 = .ok (.iload_n 1, 1) := by decide +kernel
theorem dJ6_compare_7cf53_2 : decode cJ6_compare_7cf53 2 = .ok (.if_icmp .ge 7, 3) := by decide +kernel
theorem dJ6_compare_7cf53_5 : decode cJ6_compare_7cf53 5 = .ok (.iconst (-1), 1) := by decide +kernel
theorem dJ6_compare_7cf53_6 : decode cJ6_compare_7cf53 6 = .ok (.goto 13, 3) := by decide +kernel
theorem dJ6_compare_7cf53_9 : decode cJ6_compare_7cf53 9 = .ok (.iload_n 0, 1) := by decide +kernel
theorem dJ6_compare_7cf53_10 : decode cJ6_compare_7cf53 10 = .ok (.iload_n 1, 1) := by decide +kernel
theorem dJ6_compare_7cf53_11 : decode cJ6_compare_7cf53 11 = .ok (.if_icmp .ne 7, 3) := by decide +kernel
theorem dJ6_compare_7cf53_14 : decode cJ6_compare_7cf53 14 = .ok (.iconst 0, 1) := by decide +kernel
theorem dJ6_compare_7cf53_15 : decode cJ6_compare_7cf53 15 = .ok (.goto 4, 3) := by decide +kernel
theorem dJ6_compare_7cf53_18 : decode cJ6_compare_7cf53 18 = .ok (.iconst 1, 1) := by decide +kernel
theorem dJ6_compare_7cf53_19 : decode cJ6_compare_7cf53 19 = .ok (.ireturn, 1) := by decide +kernel
theorem dJ6_bitCount_0f7a4_0 : decode cJ6_bitCount_0f7a4 0 = .ok (.iload_n 0, 1) := by decide +kernel
theorem dJ6_bitCount_0f7a4_1 : decode cJ6_bitCount_0f7a4 1 = .ok (.iload_n 0, 1) := by decide +kernel
theorem dJ6_bitCount_0f7a4_2 : decode cJ6_bitCount_0f7a4 2 = .ok (.iconst 1, 1) := by decide +kernel
theorem dJ6_bitCount_0f7a4_3 : decode cJ6_bitCount_0f7a4 3 = .ok (.iushr, 1) := by decide +kernel
theorem dJ6_bitCount_0f7a4_4 : decode cJ6_bitCount_0f7a4 4 = .ok (.ldc_w 265, 3) := by decide +kernel
theorem dJ6_bitCount_0f7a4_7 : decode cJ6_bitCount_0f7a4 7 = .ok (.iand, 1) := by decide +kernel
theorem dJ6_bitCount_0f7a4_8 : decode cJ6_bitCount_0f7a4 8 = .ok (.isub, 1) := by decide +kernel
theorem dJ6_bitCount_0f7a4_9 : decode cJ6_bitCount_0f7a4 9 = .ok (.istore_n 0, 1) := by decide +kernel
theorem dJ6_bitCount_0f7a4_10 : decode cJ6_bitCount_0f7a4 10 = .ok (.iload_n 0, 1) := by decide +kernel
theorem dJ6_bitCount_0f7a4_11 : decode cJ6_bitCount_0f7a4 11 = .ok (.ldc_w 266, 3) := by decide +kernel
theorem dJ6_bitCount_0f7a4_14 : decode cJ6_bitCount_0f7a4 14 = .ok (.iand, 1) := by decide +kernel
theorem dJ6_bitCount_0f7a4_15 : decode cJ6_bitCount_0f7a4 15 = .ok (.iload_n 0, 1) := by decide +kernel
theorem dJ6_bitCount_0f7a4_16 : decode cJ6_bitCount_0f7a4 16 = .ok (.iconst 2, 1) := by decide +kernel
theorem dJ6_bitCount_0f7a4_17 : decode cJ6_bitCount_0f7a4 17 = .ok (.iushr, 1) := by decide +kernel
theorem dJ6_bitCount_0f7a4_18 : decode cJ6_bitCount_0f7a4 18 = .ok (.ldc_w 266, 3) := by decide +kernel
theorem dJ6_bitCount_0f7a4_21 : decode cJ6_bitCount_0f7a4 21 = .ok (.iand, 1) := by decide +kernel
theorem dJ6_bitCount_0f7a4_22 : decode cJ6_bitCount_0f7a4 22 = .ok (.iadd, 1) := by decide +kernel
theorem dJ6_bitCount_0f7a4_23 : decode cJ6_bitCount_0f7a4 23 = .ok (.istore_n 0, 1) := by decide +kernel
theorem dJ6_bitCount_0f7a4_24 : decode cJ6_bitCount_0f7a4 24 = .ok (.iload_n 0, 1) := by decide +kernel
theorem dJ6_bitCount_0f7a4_25 : decode cJ6_bitCount_0f7a4 25 = .ok (.iload_n 0, 1) := by decide +kernel
theorem dJ6_bitCount_0f7a4_26 : decode cJ6_bitCount_0f7a4 26 = .ok (.iconst 4, 1) := by decide +kernel
theorem dJ6_bitCount_0f7a4_27 : decode cJ6_bitCount_0f7a4 27 = .ok (.iushr, 1) := by decide +kernel
theorem dJ6_bitCount_0f7a4_28 : decode cJ6_bitCount_0f7a4 28 = .ok (.iadd, 1) := by decide +kernel
theorem dJ6_bitCount_0f7a4_29 : decode cJ6_bitCount_0f7a4 29 = .ok (.ldc_w 267, 3) := by decide +kernel
theorem dJ6_bitCount_0f7a4_32 : decode cJ6_bitCount_0f7a4 32 = .ok (.iand, 1) := by decide +kernel
theorem dJ6_bitCount_0f7a4_33 : decode cJ6_bitCount_0f7a4 33 = .ok (.istore_n 0, 1) := by decide +kernel
theorem dJ6_bitCount_0f7a4_34 : decode cJ6_bitCount_0f7a4 34 = .ok (.iload_n 0, 1) := by decide +kernel
theorem dJ6_bitCount_0f7a4_35 : decode cJ6_bitCount_0f7a4 35 = .ok (.iload_n 0, 1) := by decide +kernel
theorem dJ6_bitCount_0f7a4_36 : decode cJ6_bitCount_0f7a4 36 = .ok (.bipush 8, 2) := by decide +kernel
theorem dJ6_bitCount_0f7a4_38 : decode cJ6_bitCount_0f7a4 38 = .ok (.iushr, 1) := by decide +kernel
theorem dJ6_bitCount_0f7a4_39 : decode cJ6_bitCount_0f7a4 39 = .ok (.iadd, 1) := by decide +kernel
theorem dJ6_bitCount_0f7a4_40 : decode cJ6_bitCount_0f7a4 40 = .ok (.istore_n 0, 1) := by decide +kernel
theorem dJ6_bitCount_0f7a4_41 : decode cJ6_bitCount_0f7a4 41 = .ok (.iload_n 0, 1) := by decide +kernel
theorem dJ6_bitCount_0f7a4_42 : decode cJ6_bitCount_0f7a4 42 = .ok (.iload_n 0, 1) := by decide +kernel
theorem dJ6_bitCount_0f7a4_43 : decode cJ6_bitCount_0f7a4 43 = .ok (.bipush 16, 2) := by decide +kernel
theorem dJ6_bitCount_0f7a4_45 : decode cJ6_bitCount_0f7a4 45 = .ok (.iushr, 1) := by decide +kernel
theorem dJ6_bitCount_0f7a4_46 : decode cJ6_bitCount_0f7a4 46 = .ok (.iadd, 1) := by decide +kernel
theorem dJ6_bitCount_0f7a4_47 : decode cJ6_bitCount_0f7a4 47 = .ok (.istore_n 0, 1) := by decide +kernel
theorem dJ6_bitCount_0f7a4_48 : decode cJ6_bitCount_0f7a4 48 = .ok (.iload_n 0, 1) := by decide +kernel
theorem dJ6_bitCount_0f7a4_49 : decode cJ6_bitCount_0f7a4 49 = .ok (.bipush 63, 2) := by decide +kernel
theorem dJ6_bitCount_0f7a4_51 : decode cJ6_bitCount_0f7a4 51 = .ok (.iand, 1) := by decide +kernel
theorem dJ6_bitCount_0f7a4_52 : decode cJ6_bitCount_0f7a4 52 = .ok (.ireturn, 1) := by decide +kernel
theorem dJ9_max_7cf53_0 : decode cJ9_max_7cf53 0 = .ok (.iload_n 0, 1) := by decide +kernel
theorem dJ9_max_7cf53_1 : decode cJ9_max_7cf53 1 = .ok (.iload_n 1, 1) := by decide +kernel
theorem dJ9_max_7cf53_2 : decode cJ9_max_7cf53 2 = .ok (.if_icmp .lt 7, 3) := by decide +kernel
theorem dJ9_max_7cf53_5 : decode cJ9_max_7cf53 5 = .ok (.iload_n 0, 1) := by decide +kernel
theorem dJ9_max_7cf53_6 : decode cJ9_max_7cf53 6 = .ok (.goto 4, 3) := by decide +kernel
theorem dJ9_max_7cf53_9 : decode cJ9_max_7cf53 9 = .ok (.iload_n 1, 1) := by decide +kernel
theorem dJ9_max_7cf53_10 : decode cJ9_max_7cf53 10 = .ok (.ireturn, 1) := by decide +kernel
theorem dJ9_min_7cf53_0 : decode cJ9_min_7cf53 0 = .ok (.iload_n 0, 1) := by decide +kernel
theorem dJ9_min_7cf53_1 : decode cJ9_min_7cf53 1 = .ok (.iload_n 1, 1) := by decide +kernel
theorem dJ9_min_7cf53_2 : decode cJ9_min_7cf53 2 = .ok (.if_icmp .gt 7, 3) := by decide +kernel
theorem dJ9_min_7cf53_5 : decode cJ9_min_7cf53 5 = .ok (.iload_n 0, 1) := by decide +kernel
theorem dJ9_min_7cf53_6 : decode cJ9_min_7cf53 6 = .ok (.goto 4, 3) := by decide +kernel
theorem dJ9_min_7cf53_9 : decode cJ9_min_7cf53 9 = .ok (.iload_n 1, 1) := by decide +kernel
theorem dJ9_min_7cf53_10 : decode cJ9_min_7cf53 10 = .ok (.ireturn, 1) := by decide +kernel
theorem dL_law_0 : decode cL_law 0 = .ok (.new 7, 3) := by decide +kernel
theorem dL_law_3 : decode cL_law 3 = .ok (.dup, 1) := by decide +kernel
theorem dL_law_4 : decode cL_law 4 = .ok (.invokespecial 9, 3) := by decide +kernel
theorem dL_law_7 : decode cL_law 7 = .ok (.astore_n 1, 1) := by decide +kernel
theorem dL_law_8 : decode cL_law 8 = .ok (.new 10, 3) := by decide +kernel
theorem dL_law_11 : decode cL_law 11 = .ok (.dup, 1) := by decide +kernel
theorem dL_law_12 : decode cL_law 12 = .ok (.invokespecial 12, 3) := by decide +kernel
theorem dL_law_15 : decode cL_law 15 = .ok (.astore_n 2, 1) := by decide +kernel
theorem dL_law_16 : decode cL_law 16 = .ok (.iconst 0, 1) := by decide +kernel
theorem dL_law_17 : decode cL_law 17 = .ok (.istore_n 3, 1) := by decide +kernel
theorem dL_law_18 : decode cL_law 18 = .ok (.iload_n 3, 1) := by decide +kernel
theorem dL_law_19 : decode cL_law 19 = .ok (.aload_n 0, 1) := by decide +kernel
theorem dL_law_20 : decode cL_law 20 = .ok (.arraylength, 1) := by decide +kernel
theorem dL_law_21 : decode cL_law 21 = .ok (.bipush 6, 2) := by decide +kernel
theorem dL_law_23 : decode cL_law 23 = .ok (.isub, 1) := by decide +kernel
theorem dL_law_24 : decode cL_law 24 = .ok (.if_icmp .gt 1104, 3) := by decide +kernel
theorem dL_law_27 : decode cL_law 27 = .ok (.aload_n 0, 1) := by decide +kernel
theorem dL_law_28 : decode cL_law 28 = .ok (.iload_n 3, 1) := by decide +kernel
theorem dL_law_29 : decode cL_law 29 = .ok (.iaload, 1) := by decide +kernel
theorem dL_law_30 : decode cL_law 30 = .ok (.bipush 31, 2) := by decide +kernel
theorem dL_law_32 : decode cL_law 32 = .ok (.iand, 1) := by decide +kernel
theorem dL_law_33 : decode cL_law 33 = .ok (.tableswitch 1089 0 31 #[143, 186, 229, 292, 315, 338, 351, 364, 387, 420, 453, 466, 499, 532, 555, 588, 611, 634, 647, 680, 703, 736, 799, 852, 895, 918, 941, 964, 997, 1030, 1053, 1076], 143) := by decide +kernel
theorem dL_law_176 : decode cL_law 176 = .ok (.aload_n 1, 1) := by decide +kernel
theorem dL_law_177 : decode cL_law 177 = .ok (.aload_n 0, 1) := by decide +kernel
theorem dL_law_178 : decode cL_law 178 = .ok (.iload_n 3, 1) := by decide +kernel
theorem dL_law_179 : decode cL_law 179 = .ok (.iconst 1, 1) := by decide +kernel
theorem dL_law_180 : decode cL_law 180 = .ok (.iadd, 1) := by decide +kernel
theorem dL_law_181 : decode cL_law 181 = .ok (.iaload, 1) := by decide +kernel
theorem dL_law_182 : decode cL_law 182 = .ok (.aload_n 0, 1) := by decide +kernel
theorem dL_law_183 : decode cL_law 183 = .ok (.iload_n 3, 1) := by decide +kernel
theorem dL_law_184 : decode cL_law 184 = .ok (.iconst 2, 1) := by decide +kernel
theorem dL_law_185 : decode cL_law 185 = .ok (.iadd, 1) := by decide +kernel
theorem dL_law_186 : decode cL_law 186 = .ok (.iaload, 1) := by decide +kernel
theorem dL_law_187 : decode cL_law 187 = .ok (.aload_n 0, 1) := by decide +kernel
theorem dL_law_188 : decode cL_law 188 = .ok (.iload_n 3, 1) := by decide +kernel
theorem dL_law_189 : decode cL_law 189 = .ok (.iconst 3, 1) := by decide +kernel
theorem dL_law_190 : decode cL_law 190 = .ok (.iadd, 1) := by decide +kernel
theorem dL_law_191 : decode cL_law 191 = .ok (.iaload, 1) := by decide +kernel
theorem dL_law_192 : decode cL_law 192 = .ok (.invokevirtual 13, 3) := by decide +kernel
theorem dL_law_195 : decode cL_law 195 = .ok (.aload_n 2, 1) := by decide +kernel
theorem dL_law_196 : decode cL_law 196 = .ok (.aload_n 0, 1) := by decide +kernel
theorem dL_law_197 : decode cL_law 197 = .ok (.iload_n 3, 1) := by decide +kernel
theorem dL_law_198 : decode cL_law 198 = .ok (.iconst 1, 1) := by decide +kernel
theorem dL_law_199 : decode cL_law 199 = .ok (.iadd, 1) := by decide +kernel
theorem dL_law_200 : decode cL_law 200 = .ok (.iaload, 1) := by decide +kernel
theorem dL_law_201 : decode cL_law 201 = .ok (.aload_n 0, 1) := by decide +kernel
theorem dL_law_202 : decode cL_law 202 = .ok (.iload_n 3, 1) := by decide +kernel
theorem dL_law_203 : decode cL_law 203 = .ok (.iconst 2, 1) := by decide +kernel
theorem dL_law_204 : decode cL_law 204 = .ok (.iadd, 1) := by decide +kernel
theorem dL_law_205 : decode cL_law 205 = .ok (.iaload, 1) := by decide +kernel
theorem dL_law_206 : decode cL_law 206 = .ok (.aload_n 0, 1) := by decide +kernel
theorem dL_law_207 : decode cL_law 207 = .ok (.iload_n 3, 1) := by decide +kernel
theorem dL_law_208 : decode cL_law 208 = .ok (.iconst 3, 1) := by decide +kernel
theorem dL_law_209 : decode cL_law 209 = .ok (.iadd, 1) := by decide +kernel
theorem dL_law_210 : decode cL_law 210 = .ok (.iaload, 1) := by decide +kernel
theorem dL_law_211 : decode cL_law 211 = .ok (.invokevirtual 17, 3) := by decide +kernel
theorem dL_law_214 : decode cL_law 214 = .ok (.if_icmp .eq 908, 3) := by decide +kernel
theorem dL_law_217 : decode cL_law 217 = .ok (.iconst 0, 1) := by decide +kernel
theorem dL_law_218 : decode cL_law 218 = .ok (.ireturn, 1) := by decide +kernel
theorem dL_law_219 : decode cL_law 219 = .ok (.aload_n 1, 1) := by decide +kernel
theorem dL_law_220 : decode cL_law 220 = .ok (.aload_n 0, 1) := by decide +kernel
theorem dL_law_221 : decode cL_law 221 = .ok (.iload_n 3, 1) := by decide +kernel
theorem dL_law_222 : decode cL_law 222 = .ok (.iconst 1, 1) := by decide +kernel
theorem dL_law_223 : decode cL_law 223 = .ok (.iadd, 1) := by decide +kernel
theorem dL_law_224 : decode cL_law 224 = .ok (.iaload, 1) := by decide +kernel
theorem dL_law_225 : decode cL_law 225 = .ok (.aload_n 0, 1) := by decide +kernel
theorem dL_law_226 : decode cL_law 226 = .ok (.iload_n 3, 1) := by decide +kernel
theorem dL_law_227 : decode cL_law 227 = .ok (.iconst 2, 1) := by decide +kernel
theorem dL_law_228 : decode cL_law 228 = .ok (.iadd, 1) := by decide +kernel
theorem dL_law_229 : decode cL_law 229 = .ok (.iaload, 1) := by decide +kernel
theorem dL_law_230 : decode cL_law 230 = .ok (.aload_n 0, 1) := by decide +kernel
theorem dL_law_231 : decode cL_law 231 = .ok (.iload_n 3, 1) := by decide +kernel
theorem dL_law_232 : decode cL_law 232 = .ok (.iconst 3, 1) := by decide +kernel
theorem dL_law_233 : decode cL_law 233 = .ok (.iadd, 1) := by decide +kernel
theorem dL_law_234 : decode cL_law 234 = .ok (.iaload, 1) := by decide +kernel
theorem dL_law_235 : decode cL_law 235 = .ok (.invokevirtual 18, 3) := by decide +kernel
theorem dL_law_238 : decode cL_law 238 = .ok (.aload_n 2, 1) := by decide +kernel
theorem dL_law_239 : decode cL_law 239 = .ok (.aload_n 0, 1) := by decide +kernel
theorem dL_law_240 : decode cL_law 240 = .ok (.iload_n 3, 1) := by decide +kernel
theorem dL_law_241 : decode cL_law 241 = .ok (.iconst 1, 1) := by decide +kernel
theorem dL_law_242 : decode cL_law 242 = .ok (.iadd, 1) := by decide +kernel
theorem dL_law_243 : decode cL_law 243 = .ok (.iaload, 1) := by decide +kernel
theorem dL_law_244 : decode cL_law 244 = .ok (.aload_n 0, 1) := by decide +kernel
theorem dL_law_245 : decode cL_law 245 = .ok (.iload_n 3, 1) := by decide +kernel
theorem dL_law_246 : decode cL_law 246 = .ok (.iconst 2, 1) := by decide +kernel
theorem dL_law_247 : decode cL_law 247 = .ok (.iadd, 1) := by decide +kernel
theorem dL_law_248 : decode cL_law 248 = .ok (.iaload, 1) := by decide +kernel
theorem dL_law_249 : decode cL_law 249 = .ok (.aload_n 0, 1) := by decide +kernel
theorem dL_law_250 : decode cL_law 250 = .ok (.iload_n 3, 1) := by decide +kernel
theorem dL_law_251 : decode cL_law 251 = .ok (.iconst 3, 1) := by decide +kernel
theorem dL_law_252 : decode cL_law 252 = .ok (.iadd, 1) := by decide +kernel
theorem dL_law_253 : decode cL_law 253 = .ok (.iaload, 1) := by decide +kernel
theorem dL_law_254 : decode cL_law 254 = .ok (.invokevirtual 21, 3) := by decide +kernel
theorem dL_law_257 : decode cL_law 257 = .ok (.if_icmp .eq 865, 3) := by decide +kernel
theorem dL_law_260 : decode cL_law 260 = .ok (.iconst 0, 1) := by decide +kernel
theorem dL_law_261 : decode cL_law 261 = .ok (.ireturn, 1) := by decide +kernel
theorem dL_law_262 : decode cL_law 262 = .ok (.aload_n 1, 1) := by decide +kernel
theorem dL_law_263 : decode cL_law 263 = .ok (.aload_n 0, 1) := by decide +kernel
theorem dL_law_264 : decode cL_law 264 = .ok (.iload_n 3, 1) := by decide +kernel
theorem dL_law_265 : decode cL_law 265 = .ok (.iconst 1, 1) := by decide +kernel
theorem dL_law_266 : decode cL_law 266 = .ok (.iadd, 1) := by decide +kernel
theorem dL_law_267 : decode cL_law 267 = .ok (.iaload, 1) := by decide +kernel
theorem dL_law_268 : decode cL_law 268 = .ok (.aload_n 0, 1) := by decide +kernel
theorem dL_law_269 : decode cL_law 269 = .ok (.iload_n 3, 1) := by decide +kernel
theorem dL_law_270 : decode cL_law 270 = .ok (.iconst 2, 1) := by decide +kernel
theorem dL_law_271 : decode cL_law 271 = .ok (.iadd, 1) := by decide +kernel
theorem dL_law_272 : decode cL_law 272 = .ok (.iaload, 1) := by decide +kernel
theorem dL_law_273 : decode cL_law 273 = .ok (.aload_n 0, 1) := by decide +kernel
theorem dL_law_274 : decode cL_law 274 = .ok (.iload_n 3, 1) := by decide +kernel
theorem dL_law_275 : decode cL_law 275 = .ok (.iconst 3, 1) := by decide +kernel
theorem dL_law_276 : decode cL_law 276 = .ok (.iadd, 1) := by decide +kernel
theorem dL_law_277 : decode cL_law 277 = .ok (.iaload, 1) := by decide +kernel
theorem dL_law_278 : decode cL_law 278 = .ok (.aload_n 0, 1) := by decide +kernel
theorem dL_law_279 : decode cL_law 279 = .ok (.iload_n 3, 1) := by decide +kernel
theorem dL_law_280 : decode cL_law 280 = .ok (.iconst 4, 1) := by decide +kernel
theorem dL_law_281 : decode cL_law 281 = .ok (.iadd, 1) := by decide +kernel
theorem dL_law_282 : decode cL_law 282 = .ok (.iaload, 1) := by decide +kernel
theorem dL_law_283 : decode cL_law 283 = .ok (.aload_n 0, 1) := by decide +kernel
theorem dL_law_284 : decode cL_law 284 = .ok (.iload_n 3, 1) := by decide +kernel
theorem dL_law_285 : decode cL_law 285 = .ok (.iconst 5, 1) := by decide +kernel
theorem dL_law_286 : decode cL_law 286 = .ok (.iadd, 1) := by decide +kernel
theorem dL_law_287 : decode cL_law 287 = .ok (.iaload, 1) := by decide +kernel
theorem dL_law_288 : decode cL_law 288 = .ok (.invokevirtual 22, 3) := by decide +kernel
theorem dL_law_291 : decode cL_law 291 = .ok (.aload_n 2, 1) := by decide +kernel
theorem dL_law_292 : decode cL_law 292 = .ok (.aload_n 0, 1) := by decide +kernel
theorem dL_law_293 : decode cL_law 293 = .ok (.iload_n 3, 1) := by decide +kernel
theorem dL_law_294 : decode cL_law 294 = .ok (.iconst 1, 1) := by decide +kernel
theorem dL_law_295 : decode cL_law 295 = .ok (.iadd, 1) := by decide +kernel
theorem dL_law_296 : decode cL_law 296 = .ok (.iaload, 1) := by decide +kernel
theorem dL_law_297 : decode cL_law 297 = .ok (.aload_n 0, 1) := by decide +kernel
theorem dL_law_298 : decode cL_law 298 = .ok (.iload_n 3, 1) := by decide +kernel
theorem dL_law_299 : decode cL_law 299 = .ok (.iconst 2, 1) := by decide +kernel
theorem dL_law_300 : decode cL_law 300 = .ok (.iadd, 1) := by decide +kernel
theorem dL_law_301 : decode cL_law 301 = .ok (.iaload, 1) := by decide +kernel
theorem dL_law_302 : decode cL_law 302 = .ok (.aload_n 0, 1) := by decide +kernel
theorem dL_law_303 : decode cL_law 303 = .ok (.iload_n 3, 1) := by decide +kernel
theorem dL_law_304 : decode cL_law 304 = .ok (.iconst 3, 1) := by decide +kernel
theorem dL_law_305 : decode cL_law 305 = .ok (.iadd, 1) := by decide +kernel
theorem dL_law_306 : decode cL_law 306 = .ok (.iaload, 1) := by decide +kernel
theorem dL_law_307 : decode cL_law 307 = .ok (.aload_n 0, 1) := by decide +kernel
theorem dL_law_308 : decode cL_law 308 = .ok (.iload_n 3, 1) := by decide +kernel
theorem dL_law_309 : decode cL_law 309 = .ok (.iconst 4, 1) := by decide +kernel
theorem dL_law_310 : decode cL_law 310 = .ok (.iadd, 1) := by decide +kernel
theorem dL_law_311 : decode cL_law 311 = .ok (.iaload, 1) := by decide +kernel
theorem dL_law_312 : decode cL_law 312 = .ok (.aload_n 0, 1) := by decide +kernel
theorem dL_law_313 : decode cL_law 313 = .ok (.iload_n 3, 1) := by decide +kernel
theorem dL_law_314 : decode cL_law 314 = .ok (.iconst 5, 1) := by decide +kernel
theorem dL_law_315 : decode cL_law 315 = .ok (.iadd, 1) := by decide +kernel
theorem dL_law_316 : decode cL_law 316 = .ok (.iaload, 1) := by decide +kernel
theorem dL_law_317 : decode cL_law 317 = .ok (.invokevirtual 26, 3) := by decide +kernel
theorem dL_law_320 : decode cL_law 320 = .ok (.if_icmp .eq 802, 3) := by decide +kernel
theorem dL_law_323 : decode cL_law 323 = .ok (.iconst 0, 1) := by decide +kernel
theorem dL_law_324 : decode cL_law 324 = .ok (.ireturn, 1) := by decide +kernel
theorem dL_law_325 : decode cL_law 325 = .ok (.aload_n 1, 1) := by decide +kernel
theorem dL_law_326 : decode cL_law 326 = .ok (.aload_n 0, 1) := by decide +kernel
theorem dL_law_327 : decode cL_law 327 = .ok (.iload_n 3, 1) := by decide +kernel
theorem dL_law_328 : decode cL_law 328 = .ok (.iconst 1, 1) := by decide +kernel
theorem dL_law_329 : decode cL_law 329 = .ok (.iadd, 1) := by decide +kernel
theorem dL_law_330 : decode cL_law 330 = .ok (.iaload, 1) := by decide +kernel
theorem dL_law_331 : decode cL_law 331 = .ok (.invokevirtual 27, 3) := by decide +kernel
theorem dL_law_334 : decode cL_law 334 = .ok (.aload_n 2, 1) := by decide +kernel
theorem dL_law_335 : decode cL_law 335 = .ok (.aload_n 0, 1) := by decide +kernel
theorem dL_law_336 : decode cL_law 336 = .ok (.iload_n 3, 1) := by decide +kernel
theorem dL_law_337 : decode cL_law 337 = .ok (.iconst 1, 1) := by decide +kernel
theorem dL_law_338 : decode cL_law 338 = .ok (.iadd, 1) := by decide +kernel
theorem dL_law_339 : decode cL_law 339 = .ok (.iaload, 1) := by decide +kernel
theorem dL_law_340 : decode cL_law 340 = .ok (.invokevirtual 31, 3) := by decide +kernel
theorem dL_law_343 : decode cL_law 343 = .ok (.if_icmp .eq 779, 3) := by decide +kernel
theorem dL_law_346 : decode cL_law 346 = .ok (.iconst 0, 1) := by decide +kernel
theorem dL_law_347 : decode cL_law 347 = .ok (.ireturn, 1) := by decide +kernel
theorem dL_law_348 : decode cL_law 348 = .ok (.aload_n 1, 1) := by decide +kernel
theorem dL_law_349 : decode cL_law 349 = .ok (.aload_n 0, 1) := by decide +kernel
theorem dL_law_350 : decode cL_law 350 = .ok (.iload_n 3, 1) := by decide +kernel
theorem dL_law_351 : decode cL_law 351 = .ok (.iconst 1, 1) := by decide +kernel
theorem dL_law_352 : decode cL_law 352 = .ok (.iadd, 1) := by decide +kernel
theorem dL_law_353 : decode cL_law 353 = .ok (.iaload, 1) := by decide +kernel
theorem dL_law_354 : decode cL_law 354 = .ok (.invokevirtual 32, 3) := by decide +kernel
theorem dL_law_357 : decode cL_law 357 = .ok (.aload_n 2, 1) := by decide +kernel
theorem dL_law_358 : decode cL_law 358 = .ok (.aload_n 0, 1) := by decide +kernel
theorem dL_law_359 : decode cL_law 359 = .ok (.iload_n 3, 1) := by decide +kernel
theorem dL_law_360 : decode cL_law 360 = .ok (.iconst 1, 1) := by decide +kernel
theorem dL_law_361 : decode cL_law 361 = .ok (.iadd, 1) := by decide +kernel
theorem dL_law_362 : decode cL_law 362 = .ok (.iaload, 1) := by decide +kernel
theorem dL_law_363 : decode cL_law 363 = .ok (.invokevirtual 35, 3) := by decide +kernel
theorem dL_law_366 : decode cL_law 366 = .ok (.if_icmp .eq 756, 3) := by decide +kernel
theorem dL_law_369 : decode cL_law 369 = .ok (.iconst 0, 1) := by decide +kernel
theorem dL_law_370 : decode cL_law 370 = .ok (.ireturn, 1) := by decide +kernel
theorem dL_law_371 : decode cL_law 371 = .ok (.aload_n 1, 1) := by decide +kernel
theorem dL_law_372 : decode cL_law 372 = .ok (.invokevirtual 36, 3) := by decide +kernel
theorem dL_law_375 : decode cL_law 375 = .ok (.aload_n 2, 1) := by decide +kernel
theorem dL_law_376 : decode cL_law 376 = .ok (.invokevirtual 40, 3) := by decide +kernel
theorem dL_law_379 : decode cL_law 379 = .ok (.if_icmp .eq 743, 3) := by decide +kernel
theorem dL_law_382 : decode cL_law 382 = .ok (.iconst 0, 1) := by decide +kernel
theorem dL_law_383 : decode cL_law 383 = .ok (.ireturn, 1) := by decide +kernel
theorem dL_law_384 : decode cL_law 384 = .ok (.aload_n 1, 1) := by decide +kernel
theorem dL_law_385 : decode cL_law 385 = .ok (.invokevirtual 41, 3) := by decide +kernel
theorem dL_law_388 : decode cL_law 388 = .ok (.aload_n 2, 1) := by decide +kernel
theorem dL_law_389 : decode cL_law 389 = .ok (.invokevirtual 44, 3) := by decide +kernel
theorem dL_law_392 : decode cL_law 392 = .ok (.if_icmp .eq 730, 3) := by decide +kernel
theorem dL_law_395 : decode cL_law 395 = .ok (.iconst 0, 1) := by decide +kernel
theorem dL_law_396 : decode cL_law 396 = .ok (.ireturn, 1) := by decide +kernel
theorem dL_law_397 : decode cL_law 397 = .ok (.aload_n 1, 1) := by decide +kernel
theorem dL_law_398 : decode cL_law 398 = .ok (.aload_n 0, 1) := by decide +kernel
theorem dL_law_399 : decode cL_law 399 = .ok (.iload_n 3, 1) := by decide +kernel
theorem dL_law_400 : decode cL_law 400 = .ok (.iconst 1, 1) := by decide +kernel
theorem dL_law_401 : decode cL_law 401 = .ok (.iadd, 1) := by decide +kernel
theorem dL_law_402 : decode cL_law 402 = .ok (.iaload, 1) := by decide +kernel
theorem dL_law_403 : decode cL_law 403 = .ok (.invokevirtual 45, 3) := by decide +kernel
theorem dL_law_406 : decode cL_law 406 = .ok (.aload_n 2, 1) := by decide +kernel
theorem dL_law_407 : decode cL_law 407 = .ok (.aload_n 0, 1) := by decide +kernel
theorem dL_law_408 : decode cL_law 408 = .ok (.iload_n 3, 1) := by decide +kernel
theorem dL_law_409 : decode cL_law 409 = .ok (.iconst 1, 1) := by decide +kernel
theorem dL_law_410 : decode cL_law 410 = .ok (.iadd, 1) := by decide +kernel
theorem dL_law_411 : decode cL_law 411 = .ok (.iaload, 1) := by decide +kernel
theorem dL_law_412 : decode cL_law 412 = .ok (.invokevirtual 48, 3) := by decide +kernel
theorem dL_law_415 : decode cL_law 415 = .ok (.if_icmp .eq 707, 3) := by decide +kernel
theorem dL_law_418 : decode cL_law 418 = .ok (.iconst 0, 1) := by decide +kernel
theorem dL_law_419 : decode cL_law 419 = .ok (.ireturn, 1) := by decide +kernel
theorem dL_law_420 : decode cL_law 420 = .ok (.aload_n 1, 1) := by decide +kernel
theorem dL_law_421 : decode cL_law 421 = .ok (.aload_n 0, 1) := by decide +kernel
theorem dL_law_422 : decode cL_law 422 = .ok (.iload_n 3, 1) := by decide +kernel
theorem dL_law_423 : decode cL_law 423 = .ok (.iconst 1, 1) := by decide +kernel
theorem dL_law_424 : decode cL_law 424 = .ok (.iadd, 1) := by decide +kernel
theorem dL_law_425 : decode cL_law 425 = .ok (.iaload, 1) := by decide +kernel
theorem dL_law_426 : decode cL_law 426 = .ok (.aload_n 0, 1) := by decide +kernel
theorem dL_law_427 : decode cL_law 427 = .ok (.iload_n 3, 1) := by decide +kernel
theorem dL_law_428 : decode cL_law 428 = .ok (.iconst 2, 1) := by decide +kernel
theorem dL_law_429 : decode cL_law 429 = .ok (.iadd, 1) := by decide +kernel
theorem dL_law_430 : decode cL_law 430 = .ok (.iaload, 1) := by decide +kernel
theorem dL_law_431 : decode cL_law 431 = .ok (.invokevirtual 49, 3) := by decide +kernel
theorem dL_law_434 : decode cL_law 434 = .ok (.aload_n 2, 1) := by decide +kernel
theorem dL_law_435 : decode cL_law 435 = .ok (.aload_n 0, 1) := by decide +kernel
theorem dL_law_436 : decode cL_law 436 = .ok (.iload_n 3, 1) := by decide +kernel
theorem dL_law_437 : decode cL_law 437 = .ok (.iconst 1, 1) := by decide +kernel
theorem dL_law_438 : decode cL_law 438 = .ok (.iadd, 1) := by decide +kernel
theorem dL_law_439 : decode cL_law 439 = .ok (.iaload, 1) := by decide +kernel
theorem dL_law_440 : decode cL_law 440 = .ok (.aload_n 0, 1) := by decide +kernel
theorem dL_law_441 : decode cL_law 441 = .ok (.iload_n 3, 1) := by decide +kernel
theorem dL_law_442 : decode cL_law 442 = .ok (.iconst 2, 1) := by decide +kernel
theorem dL_law_443 : decode cL_law 443 = .ok (.iadd, 1) := by decide +kernel
theorem dL_law_444 : decode cL_law 444 = .ok (.iaload, 1) := by decide +kernel
theorem dL_law_445 : decode cL_law 445 = .ok (.invokevirtual 53, 3) := by decide +kernel
theorem dL_law_448 : decode cL_law 448 = .ok (.if_icmp .eq 674, 3) := by decide +kernel
theorem dL_law_451 : decode cL_law 451 = .ok (.iconst 0, 1) := by decide +kernel
theorem dL_law_452 : decode cL_law 452 = .ok (.ireturn, 1) := by decide +kernel
theorem dL_law_453 : decode cL_law 453 = .ok (.aload_n 1, 1) := by decide +kernel
theorem dL_law_454 : decode cL_law 454 = .ok (.aload_n 0, 1) := by decide +kernel
theorem dL_law_455 : decode cL_law 455 = .ok (.iload_n 3, 1) := by decide +kernel
theorem dL_law_456 : decode cL_law 456 = .ok (.iconst 1, 1) := by decide +kernel
theorem dL_law_457 : decode cL_law 457 = .ok (.iadd, 1) := by decide +kernel
theorem dL_law_458 : decode cL_law 458 = .ok (.iaload, 1) := by decide +kernel
theorem dL_law_459 : decode cL_law 459 = .ok (.aload_n 0, 1) := by decide +kernel
theorem dL_law_460 : decode cL_law 460 = .ok (.iload_n 3, 1) := by decide +kernel
theorem dL_law_461 : decode cL_law 461 = .ok (.iconst 2, 1) := by decide +kernel
theorem dL_law_462 : decode cL_law 462 = .ok (.iadd, 1) := by decide +kernel
theorem dL_law_463 : decode cL_law 463 = .ok (.iaload, 1) := by decide +kernel
theorem dL_law_464 : decode cL_law 464 = .ok (.invokevirtual 54, 3) := by decide +kernel
theorem dL_law_467 : decode cL_law 467 = .ok (.aload_n 2, 1) := by decide +kernel
theorem dL_law_468 : decode cL_law 468 = .ok (.aload_n 0, 1) := by decide +kernel
theorem dL_law_469 : decode cL_law 469 = .ok (.iload_n 3, 1) := by decide +kernel
theorem dL_law_470 : decode cL_law 470 = .ok (.iconst 1, 1) := by decide +kernel
theorem dL_law_471 : decode cL_law 471 = .ok (.iadd, 1) := by decide +kernel
theorem dL_law_472 : decode cL_law 472 = .ok (.iaload, 1) := by decide +kernel
theorem dL_law_473 : decode cL_law 473 = .ok (.aload_n 0, 1) := by decide +kernel
theorem dL_law_474 : decode cL_law 474 = .ok (.iload_n 3, 1) := by decide +kernel
theorem dL_law_475 : decode cL_law 475 = .ok (.iconst 2, 1) := by decide +kernel
theorem dL_law_476 : decode cL_law 476 = .ok (.iadd, 1) := by decide +kernel
theorem dL_law_477 : decode cL_law 477 = .ok (.iaload, 1) := by decide +kernel
theorem dL_law_478 : decode cL_law 478 = .ok (.invokevirtual 57, 3) := by decide +kernel
theorem dL_law_481 : decode cL_law 481 = .ok (.if_icmp .eq 641, 3) := by decide +kernel
theorem dL_law_484 : decode cL_law 484 = .ok (.iconst 0, 1) := by decide +kernel
theorem dL_law_485 : decode cL_law 485 = .ok (.ireturn, 1) := by decide +kernel
theorem dL_law_486 : decode cL_law 486 = .ok (.aload_n 1, 1) := by decide +kernel
theorem dL_law_487 : decode cL_law 487 = .ok (.invokevirtual 58, 3) := by decide +kernel
theorem dL_law_490 : decode cL_law 490 = .ok (.aload_n 2, 1) := by decide +kernel
theorem dL_law_491 : decode cL_law 491 = .ok (.invokevirtual 61, 3) := by decide +kernel
theorem dL_law_494 : decode cL_law 494 = .ok (.if_icmp .eq 628, 3) := by decide +kernel
theorem dL_law_497 : decode cL_law 497 = .ok (.iconst 0, 1) := by decide +kernel
theorem dL_law_498 : decode cL_law 498 = .ok (.ireturn, 1) := by decide +kernel
theorem dL_law_499 : decode cL_law 499 = .ok (.aload_n 1, 1) := by decide +kernel
theorem dL_law_500 : decode cL_law 500 = .ok (.aload_n 0, 1) := by decide +kernel
theorem dL_law_501 : decode cL_law 501 = .ok (.iload_n 3, 1) := by decide +kernel
theorem dL_law_502 : decode cL_law 502 = .ok (.iconst 1, 1) := by decide +kernel
theorem dL_law_503 : decode cL_law 503 = .ok (.iadd, 1) := by decide +kernel
theorem dL_law_504 : decode cL_law 504 = .ok (.iaload, 1) := by decide +kernel
theorem dL_law_505 : decode cL_law 505 = .ok (.aload_n 0, 1) := by decide +kernel
theorem dL_law_506 : decode cL_law 506 = .ok (.iload_n 3, 1) := by decide +kernel
theorem dL_law_507 : decode cL_law 507 = .ok (.iconst 2, 1) := by decide +kernel
theorem dL_law_508 : decode cL_law 508 = .ok (.iadd, 1) := by decide +kernel
theorem dL_law_509 : decode cL_law 509 = .ok (.iaload, 1) := by decide +kernel
theorem dL_law_510 : decode cL_law 510 = .ok (.invokevirtual 62, 3) := by decide +kernel
theorem dL_law_513 : decode cL_law 513 = .ok (.aload_n 2, 1) := by decide +kernel
theorem dL_law_514 : decode cL_law 514 = .ok (.aload_n 0, 1) := by decide +kernel
theorem dL_law_515 : decode cL_law 515 = .ok (.iload_n 3, 1) := by decide +kernel
theorem dL_law_516 : decode cL_law 516 = .ok (.iconst 1, 1) := by decide +kernel
theorem dL_law_517 : decode cL_law 517 = .ok (.iadd, 1) := by decide +kernel
theorem dL_law_518 : decode cL_law 518 = .ok (.iaload, 1) := by decide +kernel
theorem dL_law_519 : decode cL_law 519 = .ok (.aload_n 0, 1) := by decide +kernel
theorem dL_law_520 : decode cL_law 520 = .ok (.iload_n 3, 1) := by decide +kernel
theorem dL_law_521 : decode cL_law 521 = .ok (.iconst 2, 1) := by decide +kernel
theorem dL_law_522 : decode cL_law 522 = .ok (.iadd, 1) := by decide +kernel
theorem dL_law_523 : decode cL_law 523 = .ok (.iaload, 1) := by decide +kernel
theorem dL_law_524 : decode cL_law 524 = .ok (.invokevirtual 65, 3) := by decide +kernel
theorem dL_law_527 : decode cL_law 527 = .ok (.if_icmp .eq 595, 3) := by decide +kernel
theorem dL_law_530 : decode cL_law 530 = .ok (.iconst 0, 1) := by decide +kernel
theorem dL_law_531 : decode cL_law 531 = .ok (.ireturn, 1) := by decide +kernel
theorem dL_law_532 : decode cL_law 532 = .ok (.aload_n 1, 1) := by decide +kernel
theorem dL_law_533 : decode cL_law 533 = .ok (.aload_n 0, 1) := by decide +kernel
theorem dL_law_534 : decode cL_law 534 = .ok (.iload_n 3, 1) := by decide +kernel
theorem dL_law_535 : decode cL_law 535 = .ok (.iconst 1, 1) := by decide +kernel
theorem dL_law_536 : decode cL_law 536 = .ok (.iadd, 1) := by decide +kernel
theorem dL_law_537 : decode cL_law 537 = .ok (.iaload, 1) := by decide +kernel
theorem dL_law_538 : decode cL_law 538 = .ok (.aload_n 0, 1) := by decide +kernel
theorem dL_law_539 : decode cL_law 539 = .ok (.iload_n 3, 1) := by decide +kernel
theorem dL_law_540 : decode cL_law 540 = .ok (.iconst 2, 1) := by decide +kernel
theorem dL_law_541 : decode cL_law 541 = .ok (.iadd, 1) := by decide +kernel
theorem dL_law_542 : decode cL_law 542 = .ok (.iaload, 1) := by decide +kernel
theorem dL_law_543 : decode cL_law 543 = .ok (.invokevirtual 66, 3) := by decide +kernel
theorem dL_law_546 : decode cL_law 546 = .ok (.aload_n 2, 1) := by decide +kernel
theorem dL_law_547 : decode cL_law 547 = .ok (.aload_n 0, 1) := by decide +kernel
theorem dL_law_548 : decode cL_law 548 = .ok (.iload_n 3, 1) := by decide +kernel
theorem dL_law_549 : decode cL_law 549 = .ok (.iconst 1, 1) := by decide +kernel
theorem dL_law_550 : decode cL_law 550 = .ok (.iadd, 1) := by decide +kernel
theorem dL_law_551 : decode cL_law 551 = .ok (.iaload, 1) := by decide +kernel
theorem dL_law_552 : decode cL_law 552 = .ok (.aload_n 0, 1) := by decide +kernel
theorem dL_law_553 : decode cL_law 553 = .ok (.iload_n 3, 1) := by decide +kernel
theorem dL_law_554 : decode cL_law 554 = .ok (.iconst 2, 1) := by decide +kernel
theorem dL_law_555 : decode cL_law 555 = .ok (.iadd, 1) := by decide +kernel
theorem dL_law_556 : decode cL_law 556 = .ok (.iaload, 1) := by decide +kernel
theorem dL_law_557 : decode cL_law 557 = .ok (.invokevirtual 69, 3) := by decide +kernel
theorem dL_law_560 : decode cL_law 560 = .ok (.if_icmp .eq 562, 3) := by decide +kernel
theorem dL_law_563 : decode cL_law 563 = .ok (.iconst 0, 1) := by decide +kernel
theorem dL_law_564 : decode cL_law 564 = .ok (.ireturn, 1) := by decide +kernel
theorem dL_law_565 : decode cL_law 565 = .ok (.aload_n 1, 1) := by decide +kernel
theorem dL_law_566 : decode cL_law 566 = .ok (.aload_n 0, 1) := by decide +kernel
theorem dL_law_567 : decode cL_law 567 = .ok (.iload_n 3, 1) := by decide +kernel
theorem dL_law_568 : decode cL_law 568 = .ok (.iconst 1, 1) := by decide +kernel
theorem dL_law_569 : decode cL_law 569 = .ok (.iadd, 1) := by decide +kernel
theorem dL_law_570 : decode cL_law 570 = .ok (.iaload, 1) := by decide +kernel
theorem dL_law_571 : decode cL_law 571 = .ok (.invokevirtual 70, 3) := by decide +kernel
theorem dL_law_574 : decode cL_law 574 = .ok (.aload_n 2, 1) := by decide +kernel
theorem dL_law_575 : decode cL_law 575 = .ok (.aload_n 0, 1) := by decide +kernel
theorem dL_law_576 : decode cL_law 576 = .ok (.iload_n 3, 1) := by decide +kernel
theorem dL_law_577 : decode cL_law 577 = .ok (.iconst 1, 1) := by decide +kernel
theorem dL_law_578 : decode cL_law 578 = .ok (.iadd, 1) := by decide +kernel
theorem dL_law_579 : decode cL_law 579 = .ok (.iaload, 1) := by decide +kernel
theorem dL_law_580 : decode cL_law 580 = .ok (.invokevirtual 73, 3) := by decide +kernel
theorem dL_law_583 : decode cL_law 583 = .ok (.if_icmp .eq 539, 3) := by decide +kernel
theorem dL_law_586 : decode cL_law 586 = .ok (.iconst 0, 1) := by decide +kernel
theorem dL_law_587 : decode cL_law 587 = .ok (.ireturn, 1) := by decide +kernel
theorem dL_law_588 : decode cL_law 588 = .ok (.aload_n 1, 1) := by decide +kernel
theorem dL_law_589 : decode cL_law 589 = .ok (.aload_n 0, 1) := by decide +kernel
theorem dL_law_590 : decode cL_law 590 = .ok (.iload_n 3, 1) := by decide +kernel
theorem dL_law_591 : decode cL_law 591 = .ok (.iconst 1, 1) := by decide +kernel
theorem dL_law_592 : decode cL_law 592 = .ok (.iadd, 1) := by decide +kernel
theorem dL_law_593 : decode cL_law 593 = .ok (.iaload, 1) := by decide +kernel
theorem dL_law_594 : decode cL_law 594 = .ok (.aload_n 0, 1) := by decide +kernel
theorem dL_law_595 : decode cL_law 595 = .ok (.iload_n 3, 1) := by decide +kernel
theorem dL_law_596 : decode cL_law 596 = .ok (.iconst 2, 1) := by decide +kernel
theorem dL_law_597 : decode cL_law 597 = .ok (.iadd, 1) := by decide +kernel
theorem dL_law_598 : decode cL_law 598 = .ok (.iaload, 1) := by decide +kernel
theorem dL_law_599 : decode cL_law 599 = .ok (.invokevirtual 74, 3) := by decide +kernel
theorem dL_law_602 : decode cL_law 602 = .ok (.aload_n 2, 1) := by decide +kernel
theorem dL_law_603 : decode cL_law 603 = .ok (.aload_n 0, 1) := by decide +kernel
theorem dL_law_604 : decode cL_law 604 = .ok (.iload_n 3, 1) := by decide +kernel
theorem dL_law_605 : decode cL_law 605 = .ok (.iconst 1, 1) := by decide +kernel
theorem dL_law_606 : decode cL_law 606 = .ok (.iadd, 1) := by decide +kernel
theorem dL_law_607 : decode cL_law 607 = .ok (.iaload, 1) := by decide +kernel
theorem dL_law_608 : decode cL_law 608 = .ok (.aload_n 0, 1) := by decide +kernel
theorem dL_law_609 : decode cL_law 609 = .ok (.iload_n 3, 1) := by decide +kernel
theorem dL_law_610 : decode cL_law 610 = .ok (.iconst 2, 1) := by decide +kernel
theorem dL_law_611 : decode cL_law 611 = .ok (.iadd, 1) := by decide +kernel
theorem dL_law_612 : decode cL_law 612 = .ok (.iaload, 1) := by decide +kernel
theorem dL_law_613 : decode cL_law 613 = .ok (.invokevirtual 77, 3) := by decide +kernel
theorem dL_law_616 : decode cL_law 616 = .ok (.if_icmp .eq 506, 3) := by decide +kernel
theorem dL_law_619 : decode cL_law 619 = .ok (.iconst 0, 1) := by decide +kernel
theorem dL_law_620 : decode cL_law 620 = .ok (.ireturn, 1) := by decide +kernel
theorem dL_law_621 : decode cL_law 621 = .ok (.aload_n 1, 1) := by decide +kernel
theorem dL_law_622 : decode cL_law 622 = .ok (.aload_n 0, 1) := by decide +kernel
theorem dL_law_623 : decode cL_law 623 = .ok (.iload_n 3, 1) := by decide +kernel
theorem dL_law_624 : decode cL_law 624 = .ok (.iconst 1, 1) := by decide +kernel
theorem dL_law_625 : decode cL_law 625 = .ok (.iadd, 1) := by decide +kernel
theorem dL_law_626 : decode cL_law 626 = .ok (.iaload, 1) := by decide +kernel
theorem dL_law_627 : decode cL_law 627 = .ok (.invokevirtual 78, 3) := by decide +kernel
theorem dL_law_630 : decode cL_law 630 = .ok (.aload_n 2, 1) := by decide +kernel
theorem dL_law_631 : decode cL_law 631 = .ok (.aload_n 0, 1) := by decide +kernel
theorem dL_law_632 : decode cL_law 632 = .ok (.iload_n 3, 1) := by decide +kernel
theorem dL_law_633 : decode cL_law 633 = .ok (.iconst 1, 1) := by decide +kernel
theorem dL_law_634 : decode cL_law 634 = .ok (.iadd, 1) := by decide +kernel
theorem dL_law_635 : decode cL_law 635 = .ok (.iaload, 1) := by decide +kernel
theorem dL_law_636 : decode cL_law 636 = .ok (.invokevirtual 81, 3) := by decide +kernel
theorem dL_law_639 : decode cL_law 639 = .ok (.if_icmp .eq 483, 3) := by decide +kernel
theorem dL_law_642 : decode cL_law 642 = .ok (.iconst 0, 1) := by decide +kernel
theorem dL_law_643 : decode cL_law 643 = .ok (.ireturn, 1) := by decide +kernel
theorem dL_law_644 : decode cL_law 644 = .ok (.aload_n 1, 1) := by decide +kernel
theorem dL_law_645 : decode cL_law 645 = .ok (.aload_n 0, 1) := by decide +kernel
theorem dL_law_646 : decode cL_law 646 = .ok (.iload_n 3, 1) := by decide +kernel
theorem dL_law_647 : decode cL_law 647 = .ok (.iconst 1, 1) := by decide +kernel
theorem dL_law_648 : decode cL_law 648 = .ok (.iadd, 1) := by decide +kernel
theorem dL_law_649 : decode cL_law 649 = .ok (.iaload, 1) := by decide +kernel
theorem dL_law_650 : decode cL_law 650 = .ok (.invokevirtual 82, 3) := by decide +kernel
theorem dL_law_653 : decode cL_law 653 = .ok (.aload_n 2, 1) := by decide +kernel
theorem dL_law_654 : decode cL_law 654 = .ok (.aload_n 0, 1) := by decide +kernel
theorem dL_law_655 : decode cL_law 655 = .ok (.iload_n 3, 1) := by decide +kernel
theorem dL_law_656 : decode cL_law 656 = .ok (.iconst 1, 1) := by decide +kernel
theorem dL_law_657 : decode cL_law 657 = .ok (.iadd, 1) := by decide +kernel
theorem dL_law_658 : decode cL_law 658 = .ok (.iaload, 1) := by decide +kernel
theorem dL_law_659 : decode cL_law 659 = .ok (.invokevirtual 85, 3) := by decide +kernel
theorem dL_law_662 : decode cL_law 662 = .ok (.if_icmp .eq 460, 3) := by decide +kernel
theorem dL_law_665 : decode cL_law 665 = .ok (.iconst 0, 1) := by decide +kernel
theorem dL_law_666 : decode cL_law 666 = .ok (.ireturn, 1) := by decide +kernel
theorem dL_law_667 : decode cL_law 667 = .ok (.aload_n 1, 1) := by decide +kernel
theorem dL_law_668 : decode cL_law 668 = .ok (.invokevirtual 86, 3) := by decide +kernel
theorem dL_law_671 : decode cL_law 671 = .ok (.aload_n 2, 1) := by decide +kernel
theorem dL_law_672 : decode cL_law 672 = .ok (.invokevirtual 89, 3) := by decide +kernel
theorem dL_law_675 : decode cL_law 675 = .ok (.if_icmp .eq 447, 3) := by decide +kernel
theorem dL_law_678 : decode cL_law 678 = .ok (.iconst 0, 1) := by decide +kernel
theorem dL_law_679 : decode cL_law 679 = .ok (.ireturn, 1) := by decide +kernel
theorem dL_law_680 : decode cL_law 680 = .ok (.aload_n 1, 1) := by decide +kernel
theorem dL_law_681 : decode cL_law 681 = .ok (.aload_n 0, 1) := by decide +kernel
theorem dL_law_682 : decode cL_law 682 = .ok (.iload_n 3, 1) := by decide +kernel
theorem dL_law_683 : decode cL_law 683 = .ok (.iconst 1, 1) := by decide +kernel
theorem dL_law_684 : decode cL_law 684 = .ok (.iadd, 1) := by decide +kernel
theorem dL_law_685 : decode cL_law 685 = .ok (.iaload, 1) := by decide +kernel
theorem dL_law_686 : decode cL_law 686 = .ok (.aload_n 0, 1) := by decide +kernel
theorem dL_law_687 : decode cL_law 687 = .ok (.iload_n 3, 1) := by decide +kernel
theorem dL_law_688 : decode cL_law 688 = .ok (.iconst 2, 1) := by decide +kernel
theorem dL_law_689 : decode cL_law 689 = .ok (.iadd, 1) := by decide +kernel
theorem dL_law_690 : decode cL_law 690 = .ok (.iaload, 1) := by decide +kernel
theorem dL_law_691 : decode cL_law 691 = .ok (.invokevirtual 90, 3) := by decide +kernel
theorem dL_law_694 : decode cL_law 694 = .ok (.aload_n 2, 1) := by decide +kernel
theorem dL_law_695 : decode cL_law 695 = .ok (.aload_n 0, 1) := by decide +kernel
theorem dL_law_696 : decode cL_law 696 = .ok (.iload_n 3, 1) := by decide +kernel
theorem dL_law_697 : decode cL_law 697 = .ok (.iconst 1, 1) := by decide +kernel
theorem dL_law_698 : decode cL_law 698 = .ok (.iadd, 1) := by decide +kernel
theorem dL_law_699 : decode cL_law 699 = .ok (.iaload, 1) := by decide +kernel
theorem dL_law_700 : decode cL_law 700 = .ok (.aload_n 0, 1) := by decide +kernel
theorem dL_law_701 : decode cL_law 701 = .ok (.iload_n 3, 1) := by decide +kernel
theorem dL_law_702 : decode cL_law 702 = .ok (.iconst 2, 1) := by decide +kernel
theorem dL_law_703 : decode cL_law 703 = .ok (.iadd, 1) := by decide +kernel
theorem dL_law_704 : decode cL_law 704 = .ok (.iaload, 1) := by decide +kernel
theorem dL_law_705 : decode cL_law 705 = .ok (.invokevirtual 93, 3) := by decide +kernel
theorem dL_law_708 : decode cL_law 708 = .ok (.if_icmp .eq 414, 3) := by decide +kernel
theorem dL_law_711 : decode cL_law 711 = .ok (.iconst 0, 1) := by decide +kernel
theorem dL_law_712 : decode cL_law 712 = .ok (.ireturn, 1) := by decide +kernel
theorem dL_law_713 : decode cL_law 713 = .ok (.aload_n 1, 1) := by decide +kernel
theorem dL_law_714 : decode cL_law 714 = .ok (.aload_n 0, 1) := by decide +kernel
theorem dL_law_715 : decode cL_law 715 = .ok (.iload_n 3, 1) := by decide +kernel
theorem dL_law_716 : decode cL_law 716 = .ok (.iconst 1, 1) := by decide +kernel
theorem dL_law_717 : decode cL_law 717 = .ok (.iadd, 1) := by decide +kernel
theorem dL_law_718 : decode cL_law 718 = .ok (.iaload, 1) := by decide +kernel
theorem dL_law_719 : decode cL_law 719 = .ok (.invokevirtual 94, 3) := by decide +kernel
theorem dL_law_722 : decode cL_law 722 = .ok (.aload_n 2, 1) := by decide +kernel
theorem dL_law_723 : decode cL_law 723 = .ok (.aload_n 0, 1) := by decide +kernel
theorem dL_law_724 : decode cL_law 724 = .ok (.iload_n 3, 1) := by decide +kernel
theorem dL_law_725 : decode cL_law 725 = .ok (.iconst 1, 1) := by decide +kernel
theorem dL_law_726 : decode cL_law 726 = .ok (.iadd, 1) := by decide +kernel
theorem dL_law_727 : decode cL_law 727 = .ok (.iaload, 1) := by decide +kernel
theorem dL_law_728 : decode cL_law 728 = .ok (.invokevirtual 97, 3) := by decide +kernel
theorem dL_law_731 : decode cL_law 731 = .ok (.if_icmp .eq 391, 3) := by decide +kernel
theorem dL_law_734 : decode cL_law 734 = .ok (.iconst 0, 1) := by decide +kernel
theorem dL_law_735 : decode cL_law 735 = .ok (.ireturn, 1) := by decide +kernel
theorem dL_law_736 : decode cL_law 736 = .ok (.aload_n 1, 1) := by decide +kernel
theorem dL_law_737 : decode cL_law 737 = .ok (.aload_n 0, 1) := by decide +kernel
theorem dL_law_738 : decode cL_law 738 = .ok (.iload_n 3, 1) := by decide +kernel
theorem dL_law_739 : decode cL_law 739 = .ok (.iconst 1, 1) := by decide +kernel
theorem dL_law_740 : decode cL_law 740 = .ok (.iadd, 1) := by decide +kernel
theorem dL_law_741 : decode cL_law 741 = .ok (.iaload, 1) := by decide +kernel
theorem dL_law_742 : decode cL_law 742 = .ok (.aload_n 0, 1) := by decide +kernel
theorem dL_law_743 : decode cL_law 743 = .ok (.iload_n 3, 1) := by decide +kernel
theorem dL_law_744 : decode cL_law 744 = .ok (.iconst 2, 1) := by decide +kernel
theorem dL_law_745 : decode cL_law 745 = .ok (.iadd, 1) := by decide +kernel
theorem dL_law_746 : decode cL_law 746 = .ok (.iaload, 1) := by decide +kernel
theorem dL_law_747 : decode cL_law 747 = .ok (.invokevirtual 98, 3) := by decide +kernel
theorem dL_law_750 : decode cL_law 750 = .ok (.aload_n 2, 1) := by decide +kernel
theorem dL_law_751 : decode cL_law 751 = .ok (.aload_n 0, 1) := by decide +kernel
theorem dL_law_752 : decode cL_law 752 = .ok (.iload_n 3, 1) := by decide +kernel
theorem dL_law_753 : decode cL_law 753 = .ok (.iconst 1, 1) := by decide +kernel
theorem dL_law_754 : decode cL_law 754 = .ok (.iadd, 1) := by decide +kernel
theorem dL_law_755 : decode cL_law 755 = .ok (.iaload, 1) := by decide +kernel
theorem dL_law_756 : decode cL_law 756 = .ok (.aload_n 0, 1) := by decide +kernel
theorem dL_law_757 : decode cL_law 757 = .ok (.iload_n 3, 1) := by decide +kernel
theorem dL_law_758 : decode cL_law 758 = .ok (.iconst 2, 1) := by decide +kernel
theorem dL_law_759 : decode cL_law 759 = .ok (.iadd, 1) := by decide +kernel
theorem dL_law_760 : decode cL_law 760 = .ok (.iaload, 1) := by decide +kernel
theorem dL_law_761 : decode cL_law 761 = .ok (.invokevirtual 101, 3) := by decide +kernel
theorem dL_law_764 : decode cL_law 764 = .ok (.if_icmp .eq 358, 3) := by decide +kernel
theorem dL_law_767 : decode cL_law 767 = .ok (.iconst 0, 1) := by decide +kernel
theorem dL_law_768 : decode cL_law 768 = .ok (.ireturn, 1) := by decide +kernel
theorem dL_law_769 : decode cL_law 769 = .ok (.aload_n 1, 1) := by decide +kernel
theorem dL_law_770 : decode cL_law 770 = .ok (.aload_n 0, 1) := by decide +kernel
theorem dL_law_771 : decode cL_law 771 = .ok (.iload_n 3, 1) := by decide +kernel
theorem dL_law_772 : decode cL_law 772 = .ok (.iconst 1, 1) := by decide +kernel
theorem dL_law_773 : decode cL_law 773 = .ok (.iadd, 1) := by decide +kernel
theorem dL_law_774 : decode cL_law 774 = .ok (.iaload, 1) := by decide +kernel
theorem dL_law_775 : decode cL_law 775 = .ok (.aload_n 0, 1) := by decide +kernel
theorem dL_law_776 : decode cL_law 776 = .ok (.iload_n 3, 1) := by decide +kernel
theorem dL_law_777 : decode cL_law 777 = .ok (.iconst 2, 1) := by decide +kernel
theorem dL_law_778 : decode cL_law 778 = .ok (.iadd, 1) := by decide +kernel
theorem dL_law_779 : decode cL_law 779 = .ok (.iaload, 1) := by decide +kernel
theorem dL_law_780 : decode cL_law 780 = .ok (.aload_n 0, 1) := by decide +kernel
theorem dL_law_781 : decode cL_law 781 = .ok (.iload_n 3, 1) := by decide +kernel
theorem dL_law_782 : decode cL_law 782 = .ok (.iconst 3, 1) := by decide +kernel
theorem dL_law_783 : decode cL_law 783 = .ok (.iadd, 1) := by decide +kernel
theorem dL_law_784 : decode cL_law 784 = .ok (.iaload, 1) := by decide +kernel
theorem dL_law_785 : decode cL_law 785 = .ok (.aload_n 0, 1) := by decide +kernel
theorem dL_law_786 : decode cL_law 786 = .ok (.iload_n 3, 1) := by decide +kernel
theorem dL_law_787 : decode cL_law 787 = .ok (.iconst 4, 1) := by decide +kernel
theorem dL_law_788 : decode cL_law 788 = .ok (.iadd, 1) := by decide +kernel
theorem dL_law_789 : decode cL_law 789 = .ok (.iaload, 1) := by decide +kernel
theorem dL_law_790 : decode cL_law 790 = .ok (.aload_n 0, 1) := by decide +kernel
theorem dL_law_791 : decode cL_law 791 = .ok (.iload_n 3, 1) := by decide +kernel
theorem dL_law_792 : decode cL_law 792 = .ok (.iconst 5, 1) := by decide +kernel
theorem dL_law_793 : decode cL_law 793 = .ok (.iadd, 1) := by decide +kernel
theorem dL_law_794 : decode cL_law 794 = .ok (.iaload, 1) := by decide +kernel
theorem dL_law_795 : decode cL_law 795 = .ok (.invokevirtual 102, 3) := by decide +kernel
theorem dL_law_798 : decode cL_law 798 = .ok (.aload_n 2, 1) := by decide +kernel
theorem dL_law_799 : decode cL_law 799 = .ok (.aload_n 0, 1) := by decide +kernel
theorem dL_law_800 : decode cL_law 800 = .ok (.iload_n 3, 1) := by decide +kernel
theorem dL_law_801 : decode cL_law 801 = .ok (.iconst 1, 1) := by decide +kernel
theorem dL_law_802 : decode cL_law 802 = .ok (.iadd, 1) := by decide +kernel
theorem dL_law_803 : decode cL_law 803 = .ok (.iaload, 1) := by decide +kernel
theorem dL_law_804 : decode cL_law 804 = .ok (.aload_n 0, 1) := by decide +kernel
theorem dL_law_805 : decode cL_law 805 = .ok (.iload_n 3, 1) := by decide +kernel
theorem dL_law_806 : decode cL_law 806 = .ok (.iconst 2, 1) := by decide +kernel
theorem dL_law_807 : decode cL_law 807 = .ok (.iadd, 1) := by decide +kernel
theorem dL_law_808 : decode cL_law 808 = .ok (.iaload, 1) := by decide +kernel
theorem dL_law_809 : decode cL_law 809 = .ok (.aload_n 0, 1) := by decide +kernel
theorem dL_law_810 : decode cL_law 810 = .ok (.iload_n 3, 1) := by decide +kernel
theorem dL_law_811 : decode cL_law 811 = .ok (.iconst 3, 1) := by decide +kernel
theorem dL_law_812 : decode cL_law 812 = .ok (.iadd, 1) := by decide +kernel
theorem dL_law_813 : decode cL_law 813 = .ok (.iaload, 1) := by decide +kernel
theorem dL_law_814 : decode cL_law 814 = .ok (.aload_n 0, 1) := by decide +kernel
theorem dL_law_815 : decode cL_law 815 = .ok (.iload_n 3, 1) := by decide +kernel
theorem dL_law_816 : decode cL_law 816 = .ok (.iconst 4, 1) := by decide +kernel
theorem dL_law_817 : decode cL_law 817 = .ok (.iadd, 1) := by decide +kernel
theorem dL_law_818 : decode cL_law 818 = .ok (.iaload, 1) := by decide +kernel
theorem dL_law_819 : decode cL_law 819 = .ok (.aload_n 0, 1) := by decide +kernel
theorem dL_law_820 : decode cL_law 820 = .ok (.iload_n 3, 1) := by decide +kernel
theorem dL_law_821 : decode cL_law 821 = .ok (.iconst 5, 1) := by decide +kernel
theorem dL_law_822 : decode cL_law 822 = .ok (.iadd, 1) := by decide +kernel
theorem dL_law_823 : decode cL_law 823 = .ok (.iaload, 1) := by decide +kernel
theorem dL_law_824 : decode cL_law 824 = .ok (.invokevirtual 105, 3) := by decide +kernel
theorem dL_law_827 : decode cL_law 827 = .ok (.if_icmp .eq 295, 3) := by decide +kernel
theorem dL_law_830 : decode cL_law 830 = .ok (.iconst 0, 1) := by decide +kernel
theorem dL_law_831 : decode cL_law 831 = .ok (.ireturn, 1) := by decide +kernel
theorem dL_law_832 : decode cL_law 832 = .ok (.aload_n 1, 1) := by decide +kernel
theorem dL_law_833 : decode cL_law 833 = .ok (.aload_n 0, 1) := by decide +kernel
theorem dL_law_834 : decode cL_law 834 = .ok (.iload_n 3, 1) := by decide +kernel
theorem dL_law_835 : decode cL_law 835 = .ok (.iconst 1, 1) := by decide +kernel
theorem dL_law_836 : decode cL_law 836 = .ok (.iadd, 1) := by decide +kernel
theorem dL_law_837 : decode cL_law 837 = .ok (.iaload, 1) := by decide +kernel
theorem dL_law_838 : decode cL_law 838 = .ok (.aload_n 0, 1) := by decide +kernel
theorem dL_law_839 : decode cL_law 839 = .ok (.iload_n 3, 1) := by decide +kernel
theorem dL_law_840 : decode cL_law 840 = .ok (.iconst 2, 1) := by decide +kernel
theorem dL_law_841 : decode cL_law 841 = .ok (.iadd, 1) := by decide +kernel
theorem dL_law_842 : decode cL_law 842 = .ok (.iaload, 1) := by decide +kernel
theorem dL_law_843 : decode cL_law 843 = .ok (.aload_n 0, 1) := by decide +kernel
theorem dL_law_844 : decode cL_law 844 = .ok (.iload_n 3, 1) := by decide +kernel
theorem dL_law_845 : decode cL_law 845 = .ok (.iconst 3, 1) := by decide +kernel
theorem dL_law_846 : decode cL_law 846 = .ok (.iadd, 1) := by decide +kernel
theorem dL_law_847 : decode cL_law 847 = .ok (.iaload, 1) := by decide +kernel
theorem dL_law_848 : decode cL_law 848 = .ok (.aload_n 0, 1) := by decide +kernel
theorem dL_law_849 : decode cL_law 849 = .ok (.iload_n 3, 1) := by decide +kernel
theorem dL_law_850 : decode cL_law 850 = .ok (.iconst 4, 1) := by decide +kernel
theorem dL_law_851 : decode cL_law 851 = .ok (.iadd, 1) := by decide +kernel
theorem dL_law_852 : decode cL_law 852 = .ok (.iaload, 1) := by decide +kernel
theorem dL_law_853 : decode cL_law 853 = .ok (.invokevirtual 106, 3) := by decide +kernel
theorem dL_law_856 : decode cL_law 856 = .ok (.aload_n 2, 1) := by decide +kernel
theorem dL_law_857 : decode cL_law 857 = .ok (.aload_n 0, 1) := by decide +kernel
theorem dL_law_858 : decode cL_law 858 = .ok (.iload_n 3, 1) := by decide +kernel
theorem dL_law_859 : decode cL_law 859 = .ok (.iconst 1, 1) := by decide +kernel
theorem dL_law_860 : decode cL_law 860 = .ok (.iadd, 1) := by decide +kernel
theorem dL_law_861 : decode cL_law 861 = .ok (.iaload, 1) := by decide +kernel
theorem dL_law_862 : decode cL_law 862 = .ok (.aload_n 0, 1) := by decide +kernel
theorem dL_law_863 : decode cL_law 863 = .ok (.iload_n 3, 1) := by decide +kernel
theorem dL_law_864 : decode cL_law 864 = .ok (.iconst 2, 1) := by decide +kernel
theorem dL_law_865 : decode cL_law 865 = .ok (.iadd, 1) := by decide +kernel
theorem dL_law_866 : decode cL_law 866 = .ok (.iaload, 1) := by decide +kernel
theorem dL_law_867 : decode cL_law 867 = .ok (.aload_n 0, 1) := by decide +kernel
theorem dL_law_868 : decode cL_law 868 = .ok (.iload_n 3, 1) := by decide +kernel
theorem dL_law_869 : decode cL_law 869 = .ok (.iconst 3, 1) := by decide +kernel
theorem dL_law_870 : decode cL_law 870 = .ok (.iadd, 1) := by decide +kernel
theorem dL_law_871 : decode cL_law 871 = .ok (.iaload, 1) := by decide +kernel
theorem dL_law_872 : decode cL_law 872 = .ok (.aload_n 0, 1) := by decide +kernel
theorem dL_law_873 : decode cL_law 873 = .ok (.iload_n 3, 1) := by decide +kernel
theorem dL_law_874 : decode cL_law 874 = .ok (.iconst 4, 1) := by decide +kernel
theorem dL_law_875 : decode cL_law 875 = .ok (.iadd, 1) := by decide +kernel
theorem dL_law_876 : decode cL_law 876 = .ok (.iaload, 1) := by decide +kernel
theorem dL_law_877 : decode cL_law 877 = .ok (.invokevirtual 110, 3) := by decide +kernel
theorem dL_law_880 : decode cL_law 880 = .ok (.if_icmp .eq 242, 3) := by decide +kernel
theorem dL_law_883 : decode cL_law 883 = .ok (.iconst 0, 1) := by decide +kernel
theorem dL_law_884 : decode cL_law 884 = .ok (.ireturn, 1) := by decide +kernel
theorem dL_law_885 : decode cL_law 885 = .ok (.aload_n 1, 1) := by decide +kernel
theorem dL_law_886 : decode cL_law 886 = .ok (.aload_n 0, 1) := by decide +kernel
theorem dL_law_887 : decode cL_law 887 = .ok (.iload_n 3, 1) := by decide +kernel
theorem dL_law_888 : decode cL_law 888 = .ok (.iconst 1, 1) := by decide +kernel
theorem dL_law_889 : decode cL_law 889 = .ok (.iadd, 1) := by decide +kernel
theorem dL_law_890 : decode cL_law 890 = .ok (.iaload, 1) := by decide +kernel
theorem dL_law_891 : decode cL_law 891 = .ok (.aload_n 0, 1) := by decide +kernel
theorem dL_law_892 : decode cL_law 892 = .ok (.iload_n 3, 1) := by decide +kernel
theorem dL_law_893 : decode cL_law 893 = .ok (.iconst 2, 1) := by decide +kernel
theorem dL_law_894 : decode cL_law 894 = .ok (.iadd, 1) := by decide +kernel
theorem dL_law_895 : decode cL_law 895 = .ok (.iaload, 1) := by decide +kernel
theorem dL_law_896 : decode cL_law 896 = .ok (.aload_n 0, 1) := by decide +kernel
theorem dL_law_897 : decode cL_law 897 = .ok (.iload_n 3, 1) := by decide +kernel
theorem dL_law_898 : decode cL_law 898 = .ok (.iconst 3, 1) := by decide +kernel
theorem dL_law_899 : decode cL_law 899 = .ok (.iadd, 1) := by decide +kernel
theorem dL_law_900 : decode cL_law 900 = .ok (.iaload, 1) := by decide +kernel
theorem dL_law_901 : decode cL_law 901 = .ok (.invokevirtual 111, 3) := by decide +kernel
theorem dL_law_904 : decode cL_law 904 = .ok (.aload_n 2, 1) := by decide +kernel
theorem dL_law_905 : decode cL_law 905 = .ok (.aload_n 0, 1) := by decide +kernel
theorem dL_law_906 : decode cL_law 906 = .ok (.iload_n 3, 1) := by decide +kernel
theorem dL_law_907 : decode cL_law 907 = .ok (.iconst 1, 1) := by decide +kernel
theorem dL_law_908 : decode cL_law 908 = .ok (.iadd, 1) := by decide +kernel
theorem dL_law_909 : decode cL_law 909 = .ok (.iaload, 1) := by decide +kernel
theorem dL_law_910 : decode cL_law 910 = .ok (.aload_n 0, 1) := by decide +kernel
theorem dL_law_911 : decode cL_law 911 = .ok (.iload_n 3, 1) := by decide +kernel
theorem dL_law_912 : decode cL_law 912 = .ok (.iconst 2, 1) := by decide +kernel
theorem dL_law_913 : decode cL_law 913 = .ok (.iadd, 1) := by decide +kernel
theorem dL_law_914 : decode cL_law 914 = .ok (.iaload, 1) := by decide +kernel
theorem dL_law_915 : decode cL_law 915 = .ok (.aload_n 0, 1) := by decide +kernel
theorem dL_law_916 : decode cL_law 916 = .ok (.iload_n 3, 1) := by decide +kernel
theorem dL_law_917 : decode cL_law 917 = .ok (.iconst 3, 1) := by decide +kernel
theorem dL_law_918 : decode cL_law 918 = .ok (.iadd, 1) := by decide +kernel
theorem dL_law_919 : decode cL_law 919 = .ok (.iaload, 1) := by decide +kernel
theorem dL_law_920 : decode cL_law 920 = .ok (.invokevirtual 114, 3) := by decide +kernel
theorem dL_law_923 : decode cL_law 923 = .ok (.if_icmp .eq 199, 3) := by decide +kernel
theorem dL_law_926 : decode cL_law 926 = .ok (.iconst 0, 1) := by decide +kernel
theorem dL_law_927 : decode cL_law 927 = .ok (.ireturn, 1) := by decide +kernel
theorem dL_law_928 : decode cL_law 928 = .ok (.aload_n 1, 1) := by decide +kernel
theorem dL_law_929 : decode cL_law 929 = .ok (.aload_n 0, 1) := by decide +kernel
theorem dL_law_930 : decode cL_law 930 = .ok (.iload_n 3, 1) := by decide +kernel
theorem dL_law_931 : decode cL_law 931 = .ok (.iconst 1, 1) := by decide +kernel
theorem dL_law_932 : decode cL_law 932 = .ok (.iadd, 1) := by decide +kernel
theorem dL_law_933 : decode cL_law 933 = .ok (.iaload, 1) := by decide +kernel
theorem dL_law_934 : decode cL_law 934 = .ok (.invokevirtual 115, 3) := by decide +kernel
theorem dL_law_937 : decode cL_law 937 = .ok (.aload_n 2, 1) := by decide +kernel
theorem dL_law_938 : decode cL_law 938 = .ok (.aload_n 0, 1) := by decide +kernel
theorem dL_law_939 : decode cL_law 939 = .ok (.iload_n 3, 1) := by decide +kernel
theorem dL_law_940 : decode cL_law 940 = .ok (.iconst 1, 1) := by decide +kernel
theorem dL_law_941 : decode cL_law 941 = .ok (.iadd, 1) := by decide +kernel
theorem dL_law_942 : decode cL_law 942 = .ok (.iaload, 1) := by decide +kernel
theorem dL_law_943 : decode cL_law 943 = .ok (.invokevirtual 118, 3) := by decide +kernel
theorem dL_law_946 : decode cL_law 946 = .ok (.if_icmp .eq 176, 3) := by decide +kernel
theorem dL_law_949 : decode cL_law 949 = .ok (.iconst 0, 1) := by decide +kernel
theorem dL_law_950 : decode cL_law 950 = .ok (.ireturn, 1) := by decide +kernel
theorem dL_law_951 : decode cL_law 951 = .ok (.aload_n 1, 1) := by decide +kernel
theorem dL_law_952 : decode cL_law 952 = .ok (.aload_n 0, 1) := by decide +kernel
theorem dL_law_953 : decode cL_law 953 = .ok (.iload_n 3, 1) := by decide +kernel
theorem dL_law_954 : decode cL_law 954 = .ok (.iconst 1, 1) := by decide +kernel
theorem dL_law_955 : decode cL_law 955 = .ok (.iadd, 1) := by decide +kernel
theorem dL_law_956 : decode cL_law 956 = .ok (.iaload, 1) := by decide +kernel
theorem dL_law_957 : decode cL_law 957 = .ok (.invokevirtual 119, 3) := by decide +kernel
theorem dL_law_960 : decode cL_law 960 = .ok (.aload_n 2, 1) := by decide +kernel
theorem dL_law_961 : decode cL_law 961 = .ok (.aload_n 0, 1) := by decide +kernel
theorem dL_law_962 : decode cL_law 962 = .ok (.iload_n 3, 1) := by decide +kernel
theorem dL_law_963 : decode cL_law 963 = .ok (.iconst 1, 1) := by decide +kernel
theorem dL_law_964 : decode cL_law 964 = .ok (.iadd, 1) := by decide +kernel
theorem dL_law_965 : decode cL_law 965 = .ok (.iaload, 1) := by decide +kernel
theorem dL_law_966 : decode cL_law 966 = .ok (.invokevirtual 122, 3) := by decide +kernel
theorem dL_law_969 : decode cL_law 969 = .ok (.if_icmp .eq 153, 3) := by decide +kernel
theorem dL_law_972 : decode cL_law 972 = .ok (.iconst 0, 1) := by decide +kernel
theorem dL_law_973 : decode cL_law 973 = .ok (.ireturn, 1) := by decide +kernel
theorem dL_law_974 : decode cL_law 974 = .ok (.aload_n 1, 1) := by decide +kernel
theorem dL_law_975 : decode cL_law 975 = .ok (.aload_n 0, 1) := by decide +kernel
theorem dL_law_976 : decode cL_law 976 = .ok (.iload_n 3, 1) := by decide +kernel
theorem dL_law_977 : decode cL_law 977 = .ok (.iconst 1, 1) := by decide +kernel
theorem dL_law_978 : decode cL_law 978 = .ok (.iadd, 1) := by decide +kernel
theorem dL_law_979 : decode cL_law 979 = .ok (.iaload, 1) := by decide +kernel
theorem dL_law_980 : decode cL_law 980 = .ok (.invokevirtual 123, 3) := by decide +kernel
theorem dL_law_983 : decode cL_law 983 = .ok (.aload_n 2, 1) := by decide +kernel
theorem dL_law_984 : decode cL_law 984 = .ok (.aload_n 0, 1) := by decide +kernel
theorem dL_law_985 : decode cL_law 985 = .ok (.iload_n 3, 1) := by decide +kernel
theorem dL_law_986 : decode cL_law 986 = .ok (.iconst 1, 1) := by decide +kernel
theorem dL_law_987 : decode cL_law 987 = .ok (.iadd, 1) := by decide +kernel
theorem dL_law_988 : decode cL_law 988 = .ok (.iaload, 1) := by decide +kernel
theorem dL_law_989 : decode cL_law 989 = .ok (.invokevirtual 126, 3) := by decide +kernel
theorem dL_law_992 : decode cL_law 992 = .ok (.if_icmp .eq 130, 3) := by decide +kernel
theorem dL_law_995 : decode cL_law 995 = .ok (.iconst 0, 1) := by decide +kernel
theorem dL_law_996 : decode cL_law 996 = .ok (.ireturn, 1) := by decide +kernel
theorem dL_law_997 : decode cL_law 997 = .ok (.aload_n 1, 1) := by decide +kernel
theorem dL_law_998 : decode cL_law 998 = .ok (.aload_n 0, 1) := by decide +kernel
theorem dL_law_999 : decode cL_law 999 = .ok (.iload_n 3, 1) := by decide +kernel
theorem dL_law_1000 : decode cL_law 1000 = .ok (.iconst 1, 1) := by decide +kernel
theorem dL_law_1001 : decode cL_law 1001 = .ok (.iadd, 1) := by decide +kernel
theorem dL_law_1002 : decode cL_law 1002 = .ok (.iaload, 1) := by decide +kernel
theorem dL_law_1003 : decode cL_law 1003 = .ok (.aload_n 0, 1) := by decide +kernel
theorem dL_law_1004 : decode cL_law 1004 = .ok (.iload_n 3, 1) := by decide +kernel
theorem dL_law_1005 : decode cL_law 1005 = .ok (.iconst 2, 1) := by decide +kernel
theorem dL_law_1006 : decode cL_law 1006 = .ok (.iadd, 1) := by decide +kernel
theorem dL_law_1007 : decode cL_law 1007 = .ok (.iaload, 1) := by decide +kernel
theorem dL_law_1008 : decode cL_law 1008 = .ok (.invokevirtual 127, 3) := by decide +kernel
theorem dL_law_1011 : decode cL_law 1011 = .ok (.aload_n 2, 1) := by decide +kernel
theorem dL_law_1012 : decode cL_law 1012 = .ok (.aload_n 0, 1) := by decide +kernel
theorem dL_law_1013 : decode cL_law 1013 = .ok (.iload_n 3, 1) := by decide +kernel
theorem dL_law_1014 : decode cL_law 1014 = .ok (.iconst 1, 1) := by decide +kernel
theorem dL_law_1015 : decode cL_law 1015 = .ok (.iadd, 1) := by decide +kernel
theorem dL_law_1016 : decode cL_law 1016 = .ok (.iaload, 1) := by decide +kernel
theorem dL_law_1017 : decode cL_law 1017 = .ok (.aload_n 0, 1) := by decide +kernel
theorem dL_law_1018 : decode cL_law 1018 = .ok (.iload_n 3, 1) := by decide +kernel
theorem dL_law_1019 : decode cL_law 1019 = .ok (.iconst 2, 1) := by decide +kernel
theorem dL_law_1020 : decode cL_law 1020 = .ok (.iadd, 1) := by decide +kernel
theorem dL_law_1021 : decode cL_law 1021 = .ok (.iaload, 1) := by decide +kernel
theorem dL_law_1022 : decode cL_law 1022 = .ok (.invokevirtual 130, 3) := by decide +kernel
theorem dL_law_1025 : decode cL_law 1025 = .ok (.if_icmp .eq 97, 3) := by decide +kernel
theorem dL_law_1028 : decode cL_law 1028 = .ok (.iconst 0, 1) := by decide +kernel
theorem dL_law_1029 : decode cL_law 1029 = .ok (.ireturn, 1) := by decide +kernel
theorem dL_law_1030 : decode cL_law 1030 = .ok (.aload_n 1, 1) := by decide +kernel
theorem dL_law_1031 : decode cL_law 1031 = .ok (.aload_n 0, 1) := by decide +kernel
theorem dL_law_1032 : decode cL_law 1032 = .ok (.iload_n 3, 1) := by decide +kernel
theorem dL_law_1033 : decode cL_law 1033 = .ok (.iconst 1, 1) := by decide +kernel
theorem dL_law_1034 : decode cL_law 1034 = .ok (.iadd, 1) := by decide +kernel
theorem dL_law_1035 : decode cL_law 1035 = .ok (.iaload, 1) := by decide +kernel
theorem dL_law_1036 : decode cL_law 1036 = .ok (.aload_n 0, 1) := by decide +kernel
theorem dL_law_1037 : decode cL_law 1037 = .ok (.iload_n 3, 1) := by decide +kernel
theorem dL_law_1038 : decode cL_law 1038 = .ok (.iconst 2, 1) := by decide +kernel
theorem dL_law_1039 : decode cL_law 1039 = .ok (.iadd, 1) := by decide +kernel
theorem dL_law_1040 : decode cL_law 1040 = .ok (.iaload, 1) := by decide +kernel
theorem dL_law_1041 : decode cL_law 1041 = .ok (.invokevirtual 131, 3) := by decide +kernel
theorem dL_law_1044 : decode cL_law 1044 = .ok (.aload_n 2, 1) := by decide +kernel
theorem dL_law_1045 : decode cL_law 1045 = .ok (.aload_n 0, 1) := by decide +kernel
theorem dL_law_1046 : decode cL_law 1046 = .ok (.iload_n 3, 1) := by decide +kernel
theorem dL_law_1047 : decode cL_law 1047 = .ok (.iconst 1, 1) := by decide +kernel
theorem dL_law_1048 : decode cL_law 1048 = .ok (.iadd, 1) := by decide +kernel
theorem dL_law_1049 : decode cL_law 1049 = .ok (.iaload, 1) := by decide +kernel
theorem dL_law_1050 : decode cL_law 1050 = .ok (.aload_n 0, 1) := by decide +kernel
theorem dL_law_1051 : decode cL_law 1051 = .ok (.iload_n 3, 1) := by decide +kernel
theorem dL_law_1052 : decode cL_law 1052 = .ok (.iconst 2, 1) := by decide +kernel
theorem dL_law_1053 : decode cL_law 1053 = .ok (.iadd, 1) := by decide +kernel
theorem dL_law_1054 : decode cL_law 1054 = .ok (.iaload, 1) := by decide +kernel
theorem dL_law_1055 : decode cL_law 1055 = .ok (.invokevirtual 134, 3) := by decide +kernel
theorem dL_law_1058 : decode cL_law 1058 = .ok (.if_icmp .eq 64, 3) := by decide +kernel
theorem dL_law_1061 : decode cL_law 1061 = .ok (.iconst 0, 1) := by decide +kernel
theorem dL_law_1062 : decode cL_law 1062 = .ok (.ireturn, 1) := by decide +kernel
theorem dL_law_1063 : decode cL_law 1063 = .ok (.aload_n 1, 1) := by decide +kernel
theorem dL_law_1064 : decode cL_law 1064 = .ok (.aload_n 0, 1) := by decide +kernel
theorem dL_law_1065 : decode cL_law 1065 = .ok (.iload_n 3, 1) := by decide +kernel
theorem dL_law_1066 : decode cL_law 1066 = .ok (.iconst 1, 1) := by decide +kernel
theorem dL_law_1067 : decode cL_law 1067 = .ok (.iadd, 1) := by decide +kernel
theorem dL_law_1068 : decode cL_law 1068 = .ok (.iaload, 1) := by decide +kernel
theorem dL_law_1069 : decode cL_law 1069 = .ok (.invokevirtual 135, 3) := by decide +kernel
theorem dL_law_1072 : decode cL_law 1072 = .ok (.aload_n 2, 1) := by decide +kernel
theorem dL_law_1073 : decode cL_law 1073 = .ok (.aload_n 0, 1) := by decide +kernel
theorem dL_law_1074 : decode cL_law 1074 = .ok (.iload_n 3, 1) := by decide +kernel
theorem dL_law_1075 : decode cL_law 1075 = .ok (.iconst 1, 1) := by decide +kernel
theorem dL_law_1076 : decode cL_law 1076 = .ok (.iadd, 1) := by decide +kernel
theorem dL_law_1077 : decode cL_law 1077 = .ok (.iaload, 1) := by decide +kernel
theorem dL_law_1078 : decode cL_law 1078 = .ok (.invokevirtual 138, 3) := by decide +kernel
theorem dL_law_1081 : decode cL_law 1081 = .ok (.if_icmp .eq 41, 3) := by decide +kernel
theorem dL_law_1084 : decode cL_law 1084 = .ok (.iconst 0, 1) := by decide +kernel
theorem dL_law_1085 : decode cL_law 1085 = .ok (.ireturn, 1) := by decide +kernel
theorem dL_law_1086 : decode cL_law 1086 = .ok (.aload_n 1, 1) := by decide +kernel
theorem dL_law_1087 : decode cL_law 1087 = .ok (.aload_n 0, 1) := by decide +kernel
theorem dL_law_1088 : decode cL_law 1088 = .ok (.iload_n 3, 1) := by decide +kernel
theorem dL_law_1089 : decode cL_law 1089 = .ok (.iconst 1, 1) := by decide +kernel
theorem dL_law_1090 : decode cL_law 1090 = .ok (.iadd, 1) := by decide +kernel
theorem dL_law_1091 : decode cL_law 1091 = .ok (.iaload, 1) := by decide +kernel
theorem dL_law_1092 : decode cL_law 1092 = .ok (.invokevirtual 139, 3) := by decide +kernel
theorem dL_law_1095 : decode cL_law 1095 = .ok (.aload_n 2, 1) := by decide +kernel
theorem dL_law_1096 : decode cL_law 1096 = .ok (.aload_n 0, 1) := by decide +kernel
theorem dL_law_1097 : decode cL_law 1097 = .ok (.iload_n 3, 1) := by decide +kernel
theorem dL_law_1098 : decode cL_law 1098 = .ok (.iconst 1, 1) := by decide +kernel
theorem dL_law_1099 : decode cL_law 1099 = .ok (.iadd, 1) := by decide +kernel
theorem dL_law_1100 : decode cL_law 1100 = .ok (.iaload, 1) := by decide +kernel
theorem dL_law_1101 : decode cL_law 1101 = .ok (.invokevirtual 142, 3) := by decide +kernel
theorem dL_law_1104 : decode cL_law 1104 = .ok (.if_icmp .eq 18, 3) := by decide +kernel
theorem dL_law_1107 : decode cL_law 1107 = .ok (.iconst 0, 1) := by decide +kernel
theorem dL_law_1108 : decode cL_law 1108 = .ok (.ireturn, 1) := by decide +kernel
theorem dL_law_1109 : decode cL_law 1109 = .ok (.aload_n 1, 1) := by decide +kernel
theorem dL_law_1110 : decode cL_law 1110 = .ok (.invokevirtual 143, 3) := by decide +kernel
theorem dL_law_1113 : decode cL_law 1113 = .ok (.aload_n 2, 1) := by decide +kernel
theorem dL_law_1114 : decode cL_law 1114 = .ok (.invokevirtual 146, 3) := by decide +kernel
theorem dL_law_1117 : decode cL_law 1117 = .ok (.if_icmp .eq 5, 3) := by decide +kernel
theorem dL_law_1120 : decode cL_law 1120 = .ok (.iconst 0, 1) := by decide +kernel
theorem dL_law_1121 : decode cL_law 1121 = .ok (.ireturn, 1) := by decide +kernel
theorem dL_law_1122 : decode cL_law 1122 = .ok (.iinc 3 6, 3) := by decide +kernel
theorem dL_law_1125 : decode cL_law 1125 = .ok (.goto (-1107), 3) := by decide +kernel
theorem dL_law_1128 : decode cL_law 1128 = .ok (.iconst 1, 1) := by decide +kernel
theorem dL_law_1129 : decode cL_law 1129 = .ok (.ireturn, 1) := by decide +kernel
