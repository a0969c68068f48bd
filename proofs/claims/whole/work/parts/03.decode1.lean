theorem dX11_hidden_70 : decode cX11_hidden 70 = .ok (.if_icmp .gt 74, 3) := by decide +kernel
theorem dX11_hidden_73 : decode cX11_hidden 73 = .ok (.iload 8, 2) := by decide +kernel
theorem dX11_hidden_75 : decode cX11_hidden 75 = .ok (.iload 5, 2) := by decide +kernel
theorem dX11_hidden_77 : decode cX11_hidden 77 = .ok (.iconst (-1), 1) := by decide +kernel
theorem dX11_hidden_78 : decode cX11_hidden 78 = .ok (.ixor, 1) := by decide +kernel
theorem dX11_hidden_79 : decode cX11_hidden 79 = .ok (.iand, 1) := by decide +kernel
theorem dX11_hidden_80 : decode cX11_hidden 80 = .ok (.ifCond .ne 58, 3) := by decide +kernel
theorem dX11_hidden_83 : decode cX11_hidden 83 = .ok (.iload 8, 2) := by decide +kernel
theorem dX11_hidden_85 : decode cX11_hidden 85 = .ok (.invokestatic 237, 3) := by decide +kernel
theorem dX11_hidden_88 : decode cX11_hidden 88 = .ok (.istore 9, 2) := by decide +kernel
theorem dX11_hidden_90 : decode cX11_hidden 90 = .ok (.iload_n 3, 1) := by decide +kernel
theorem dX11_hidden_91 : decode cX11_hidden 91 = .ok (.iload 9, 2) := by decide +kernel
theorem dX11_hidden_93 : decode cX11_hidden 93 = .ok (.invokestatic 242, 3) := by decide +kernel
theorem dX11_hidden_96 : decode cX11_hidden 96 = .ok (.bipush 10, 2) := by decide +kernel
theorem dX11_hidden_98 : decode cX11_hidden 98 = .ok (.iload_n 3, 1) := by decide +kernel
theorem dX11_hidden_99 : decode cX11_hidden 99 = .ok (.isub, 1) := by decide +kernel
theorem dX11_hidden_100 : decode cX11_hidden 100 = .ok (.iload 6, 2) := by decide +kernel
theorem dX11_hidden_102 : decode cX11_hidden 102 = .ok (.iload 9, 2) := by decide +kernel
theorem dX11_hidden_104 : decode cX11_hidden 104 = .ok (.isub, 1) := by decide +kernel
theorem dX11_hidden_105 : decode cX11_hidden 105 = .ok (.invokestatic 242, 3) := by decide +kernel
theorem dX11_hidden_108 : decode cX11_hidden 108 = .ok (.imul, 1) := by decide +kernel
theorem dX11_hidden_109 : decode cX11_hidden 109 = .ok (.istore 10, 2) := by decide +kernel
theorem dX11_hidden_111 : decode cX11_hidden 111 = .ok (.iload 7, 2) := by decide +kernel
theorem dX11_hidden_113 : decode cX11_hidden 113 = .ok (.iload 10, 2) := by decide +kernel
theorem dX11_hidden_115 : decode cX11_hidden 115 = .ok (.ifCond .eq 19, 3) := by decide +kernel
theorem dX11_hidden_118 : decode cX11_hidden 118 = .ok (.aload_n 0, 1) := by decide +kernel
theorem dX11_hidden_119 : decode cX11_hidden 119 = .ok (.iload_n 1, 1) := by decide +kernel
theorem dX11_hidden_120 : decode cX11_hidden 120 = .ok (.iload_n 2, 1) := by decide +kernel
theorem dX11_hidden_121 : decode cX11_hidden 121 = .ok (.iload 8, 2) := by decide +kernel
theorem dX11_hidden_123 : decode cX11_hidden 123 = .ok (.invokevirtual 245, 3) := by decide +kernel
theorem dX11_hidden_126 : decode cX11_hidden 126 = .ok (.ifCond .eq 8, 3) := by decide +kernel
theorem dX11_hidden_129 : decode cX11_hidden 129 = .ok (.iload 10, 2) := by decide +kernel
theorem dX11_hidden_131 : decode cX11_hidden 131 = .ok (.goto 4, 3) := by decide +kernel
theorem dX11_hidden_134 : decode cX11_hidden 134 = .ok (.iconst 0, 1) := by decide +kernel
theorem dX11_hidden_135 : decode cX11_hidden 135 = .ok (.iadd, 1) := by decide +kernel
theorem dX11_hidden_136 : decode cX11_hidden 136 = .ok (.istore 7, 2) := by decide +kernel
theorem dX11_hidden_138 : decode cX11_hidden 138 = .ok (.iinc 8 1, 3) := by decide +kernel
theorem dX11_hidden_141 : decode cX11_hidden 141 = .ok (.goto (-75), 3) := by decide +kernel
theorem dX11_hidden_144 : decode cX11_hidden 144 = .ok (.bipush 10, 2) := by decide +kernel
theorem dX11_hidden_146 : decode cX11_hidden 146 = .ok (.iload 6, 2) := by decide +kernel
theorem dX11_hidden_148 : decode cX11_hidden 148 = .ok (.invokestatic 242, 3) := by decide +kernel
theorem dX11_hidden_151 : decode cX11_hidden 151 = .ok (.istore 8, 2) := by decide +kernel
theorem dX11_hidden_153 : decode cX11_hidden 153 = .ok (.iload 7, 2) := by decide +kernel
theorem dX11_hidden_155 : decode cX11_hidden 155 = .ok (.iload 8, 2) := by decide +kernel
theorem dX11_hidden_157 : decode cX11_hidden 157 = .ok (.invokestatic 248, 3) := by decide +kernel
theorem dX11_hidden_160 : decode cX11_hidden 160 = .ok (.istore 9, 2) := by decide +kernel
theorem dX11_hidden_162 : decode cX11_hidden 162 = .ok (.iload 4, 2) := by decide +kernel
theorem dX11_hidden_164 : decode cX11_hidden 164 = .ok (.ifCond .ne 8, 3) := by decide +kernel
theorem dX11_hidden_167 : decode cX11_hidden 167 = .ok (.iload 7, 2) := by decide +kernel
theorem dX11_hidden_169 : decode cX11_hidden 169 = .ok (.goto 5, 3) := by decide +kernel
theorem dX11_hidden_172 : decode cX11_hidden 172 = .ok (.iload 8, 2) := by decide +kernel
theorem dX11_hidden_174 : decode cX11_hidden 174 = .ok (.iload 9, 2) := by decide +kernel
theorem dX11_hidden_176 : decode cX11_hidden 176 = .ok (.idiv, 1) := by decide +kernel
theorem dX11_hidden_177 : decode cX11_hidden 177 = .ok (.ireturn, 1) := by decide +kernel
theorem dX11_drawn_0 : decode cX11_drawn 0 = .ok (.aload_n 0, 1) := by decide +kernel
theorem dX11_drawn_1 : decode cX11_drawn 1 = .ok (.getfield 149, 3) := by decide +kernel
theorem dX11_drawn_4 : decode cX11_drawn 4 = .ok (.ifCond .ne 6, 3) := by decide +kernel
theorem dX11_drawn_7 : decode cX11_drawn 7 = .ok (.ldc 156, 2) := by decide +kernel
theorem dX11_drawn_9 : decode cX11_drawn 9 = .ok (.ireturn, 1) := by decide +kernel
theorem dX11_drawn_10 : decode cX11_drawn 10 = .ok (.iload_n 1, 1) := by decide +kernel
theorem dX11_drawn_11 : decode cX11_drawn 11 = .ok (.iconst 0, 1) := by decide +kernel
theorem dX11_drawn_12 : decode cX11_drawn 12 = .ok (.bipush 60, 2) := by decide +kernel
theorem dX11_drawn_14 : decode cX11_drawn 14 = .ok (.invokestatic 80, 3) := by decide +kernel
theorem dX11_drawn_17 : decode cX11_drawn 17 = .ok (.ifCond .eq 22, 3) := by decide +kernel
theorem dX11_drawn_20 : decode cX11_drawn 20 = .ok (.iload_n 2, 1) := by decide +kernel
theorem dX11_drawn_21 : decode cX11_drawn 21 = .ok (.iconst 1, 1) := by decide +kernel
theorem dX11_drawn_22 : decode cX11_drawn 22 = .ok (.ldc 251, 2) := by decide +kernel
theorem dX11_drawn_24 : decode cX11_drawn 24 = .ok (.invokestatic 80, 3) := by decide +kernel
theorem dX11_drawn_27 : decode cX11_drawn 27 = .ok (.ifCond .eq 12, 3) := by decide +kernel
theorem dX11_drawn_30 : decode cX11_drawn 30 = .ok (.iload_n 3, 1) := by decide +kernel
theorem dX11_drawn_31 : decode cX11_drawn 31 = .ok (.iconst 0, 1) := by decide +kernel
theorem dX11_drawn_32 : decode cX11_drawn 32 = .ok (.iconst 1, 1) := by decide +kernel
theorem dX11_drawn_33 : decode cX11_drawn 33 = .ok (.invokestatic 80, 3) := by decide +kernel
theorem dX11_drawn_36 : decode cX11_drawn 36 = .ok (.ifCond .ne 6, 3) := by decide +kernel
theorem dX11_drawn_39 : decode cX11_drawn 39 = .ok (.ldc 84, 2) := by decide +kernel
theorem dX11_drawn_41 : decode cX11_drawn 41 = .ok (.ireturn, 1) := by decide +kernel
theorem dX11_drawn_42 : decode cX11_drawn 42 = .ok (.aload_n 0, 1) := by decide +kernel
theorem dX11_drawn_43 : decode cX11_drawn 43 = .ok (.getfield 29, 3) := by decide +kernel
theorem dX11_drawn_46 : decode cX11_drawn 46 = .ok (.aload_n 0, 1) := by decide +kernel
theorem dX11_drawn_47 : decode cX11_drawn 47 = .ok (.getfield 25, 3) := by decide +kernel
theorem dX11_drawn_50 : decode cX11_drawn 50 = .ok (.invokevirtual 143, 3) := by decide +kernel
theorem dX11_drawn_53 : decode cX11_drawn 53 = .ok (.iload_n 2, 1) := by decide +kernel
theorem dX11_drawn_54 : decode cX11_drawn 54 = .ok (.i2l, 1) := by decide +kernel
theorem dX11_drawn_55 : decode cX11_drawn 55 = .ok (.lstore 4, 2) := by decide +kernel
theorem dX11_drawn_57 : decode cX11_drawn 57 = .ok (.iconst 0, 1) := by decide +kernel
theorem dX11_drawn_58 : decode cX11_drawn 58 = .ok (.istore 6, 2) := by decide +kernel
theorem dX11_drawn_60 : decode cX11_drawn 60 = .ok (.iload 6, 2) := by decide +kernel
theorem dX11_drawn_62 : decode cX11_drawn 62 = .ok (.iload_n 1, 1) := by decide +kernel
theorem dX11_drawn_63 : decode cX11_drawn 63 = .ok (.if_icmp .ge 37, 3) := by decide +kernel
theorem dX11_drawn_66 : decode cX11_drawn 66 = .ok (.lload 4, 2) := by decide +kernel
theorem dX11_drawn_68 : decode cX11_drawn 68 = .ok (.ldc2_w 252, 3) := by decide +kernel
theorem dX11_drawn_71 : decode cX11_drawn 71 = .ok (.lmul, 1) := by decide +kernel
theorem dX11_drawn_72 : decode cX11_drawn 72 = .ok (.ldc2_w 254, 3) := by decide +kernel
theorem dX11_drawn_75 : decode cX11_drawn 75 = .ok (.lrem, 1) := by decide +kernel
theorem dX11_drawn_76 : decode cX11_drawn 76 = .ok (.lstore 4, 2) := by decide +kernel
theorem dX11_drawn_78 : decode cX11_drawn 78 = .ok (.aload_n 0, 1) := by decide +kernel
theorem dX11_drawn_79 : decode cX11_drawn 79 = .ok (.getfield 29, 3) := by decide +kernel
theorem dX11_drawn_82 : decode cX11_drawn 82 = .ok (.lload 4, 2) := by decide +kernel
theorem dX11_drawn_84 : decode cX11_drawn 84 = .ok (.invokevirtual 256, 3) := by decide +kernel
theorem dX11_drawn_87 : decode cX11_drawn 87 = .ok (.aload_n 0, 1) := by decide +kernel
theorem dX11_drawn_88 : decode cX11_drawn 88 = .ok (.getfield 29, 3) := by decide +kernel
theorem dX11_drawn_91 : decode cX11_drawn 91 = .ok (.invokevirtual 163, 3) := by decide +kernel
theorem dX11_drawn_94 : decode cX11_drawn 94 = .ok (.iinc 6 1, 3) := by decide +kernel
theorem dX11_drawn_97 : decode cX11_drawn 97 = .ok (.goto (-37), 3) := by decide +kernel
theorem dX11_drawn_100 : decode cX11_drawn 100 = .ok (.iload_n 3, 1) := by decide +kernel
theorem dX11_drawn_101 : decode cX11_drawn 101 = .ok (.ifCond .ne 16, 3) := by decide +kernel
theorem dX11_drawn_104 : decode cX11_drawn 104 = .ok (.aload_n 0, 1) := by decide +kernel
theorem dX11_drawn_105 : decode cX11_drawn 105 = .ok (.getfield 29, 3) := by decide +kernel
theorem dX11_drawn_108 : decode cX11_drawn 108 = .ok (.getfield 217, 3) := by decide +kernel
theorem dX11_drawn_111 : decode cX11_drawn 111 = .ok (.invokestatic 237, 3) := by decide +kernel
theorem dX11_drawn_114 : decode cX11_drawn 114 = .ok (.goto 10, 3) := by decide +kernel
theorem dX11_drawn_117 : decode cX11_drawn 117 = .ok (.aload_n 0, 1) := by decide +kernel
theorem dX11_drawn_118 : decode cX11_drawn 118 = .ok (.getfield 29, 3) := by decide +kernel
theorem dX11_drawn_121 : decode cX11_drawn 121 = .ok (.getfield 166, 3) := by decide +kernel
theorem dX11_drawn_124 : decode cX11_drawn 124 = .ok (.ireturn, 1) := by decide +kernel
theorem dX11_image_0 : decode cX11_image 0 = .ok (.iload_n 1, 1) := by decide +kernel
theorem dX11_image_1 : decode cX11_image 1 = .ok (.iconst 0, 1) := by decide +kernel
theorem dX11_image_2 : decode cX11_image 2 = .ok (.iconst 1, 1) := by decide +kernel
theorem dX11_image_3 : decode cX11_image 3 = .ok (.invokestatic 80, 3) := by decide +kernel
theorem dX11_image_6 : decode cX11_image 6 = .ok (.ifCond .ne 6, 3) := by decide +kernel
theorem dX11_image_9 : decode cX11_image 9 = .ok (.ldc 84, 2) := by decide +kernel
theorem dX11_image_11 : decode cX11_image 11 = .ok (.ireturn, 1) := by decide +kernel
theorem dX11_image_12 : decode cX11_image 12 = .ok (.aload_n 0, 1) := by decide +kernel
theorem dX11_image_13 : decode cX11_image 13 = .ok (.getfield 149, 3) := by decide +kernel
theorem dX11_image_16 : decode cX11_image 16 = .ok (.ifCond .ne 6, 3) := by decide +kernel
theorem dX11_image_19 : decode cX11_image 19 = .ok (.ldc 156, 2) := by decide +kernel
theorem dX11_image_21 : decode cX11_image 21 = .ok (.ireturn, 1) := by decide +kernel
theorem dX11_image_22 : decode cX11_image 22 = .ok (.aload_n 0, 1) := by decide +kernel
theorem dX11_image_23 : decode cX11_image 23 = .ok (.getfield 32, 3) := by decide +kernel
theorem dX11_image_26 : decode cX11_image 26 = .ok (.iload_n 1, 1) := by decide +kernel
theorem dX11_image_27 : decode cX11_image 27 = .ok (.aaload, 1) := by decide +kernel
theorem dX11_image_28 : decode cX11_image 28 = .ok (.aload_n 0, 1) := by decide +kernel
theorem dX11_image_29 : decode cX11_image 29 = .ok (.getfield 25, 3) := by decide +kernel
theorem dX11_image_32 : decode cX11_image 32 = .ok (.invokevirtual 143, 3) := by decide +kernel
theorem dX11_image_35 : decode cX11_image 35 = .ok (.aload_n 0, 1) := by decide +kernel
theorem dX11_image_36 : decode cX11_image 36 = .ok (.getfield 36, 3) := by decide +kernel
theorem dX11_image_39 : decode cX11_image 39 = .ok (.iload_n 1, 1) := by decide +kernel
theorem dX11_image_40 : decode cX11_image 40 = .ok (.iconst 1, 1) := by decide +kernel
theorem dX11_image_41 : decode cX11_image 41 = .ok (.bastore, 1) := by decide +kernel
theorem dX11_image_42 : decode cX11_image 42 = .ok (.iconst 1, 1) := by decide +kernel
theorem dX11_image_43 : decode cX11_image 43 = .ok (.ireturn, 1) := by decide +kernel
theorem dX11_restore_0 : decode cX11_restore 0 = .ok (.iload_n 1, 1) := by decide +kernel
theorem dX11_restore_1 : decode cX11_restore 1 = .ok (.iconst 0, 1) := by decide +kernel
theorem dX11_restore_2 : decode cX11_restore 2 = .ok (.iconst 1, 1) := by decide +kernel
theorem dX11_restore_3 : decode cX11_restore 3 = .ok (.invokestatic 80, 3) := by decide +kernel
theorem dX11_restore_6 : decode cX11_restore 6 = .ok (.ifCond .ne 6, 3) := by decide +kernel
theorem dX11_restore_9 : decode cX11_restore 9 = .ok (.ldc 84, 2) := by decide +kernel
theorem dX11_restore_11 : decode cX11_restore 11 = .ok (.ireturn, 1) := by decide +kernel
theorem dX11_restore_12 : decode cX11_restore 12 = .ok (.aload_n 0, 1) := by decide +kernel
theorem dX11_restore_13 : decode cX11_restore 13 = .ok (.getfield 36, 3) := by decide +kernel
theorem dX11_restore_16 : decode cX11_restore 16 = .ok (.iload_n 1, 1) := by decide +kernel
theorem dX11_restore_17 : decode cX11_restore 17 = .ok (.baload, 1) := by decide +kernel
theorem dX11_restore_18 : decode cX11_restore 18 = .ok (.ifCond .ne 6, 3) := by decide +kernel
theorem dX11_restore_21 : decode cX11_restore 21 = .ok (.ldc 156, 2) := by decide +kernel
theorem dX11_restore_23 : decode cX11_restore 23 = .ok (.ireturn, 1) := by decide +kernel
theorem dX11_restore_24 : decode cX11_restore 24 = .ok (.aload_n 0, 1) := by decide +kernel
theorem dX11_restore_25 : decode cX11_restore 25 = .ok (.getfield 25, 3) := by decide +kernel
theorem dX11_restore_28 : decode cX11_restore 28 = .ok (.aload_n 0, 1) := by decide +kernel
theorem dX11_restore_29 : decode cX11_restore 29 = .ok (.getfield 32, 3) := by decide +kernel
theorem dX11_restore_32 : decode cX11_restore 32 = .ok (.iload_n 1, 1) := by decide +kernel
theorem dX11_restore_33 : decode cX11_restore 33 = .ok (.aaload, 1) := by decide +kernel
theorem dX11_restore_34 : decode cX11_restore 34 = .ok (.invokevirtual 143, 3) := by decide +kernel
theorem dX11_restore_37 : decode cX11_restore 37 = .ok (.aload_n 0, 1) := by decide +kernel
theorem dX11_restore_38 : decode cX11_restore 38 = .ok (.getfield 43, 3) := by decide +kernel
theorem dX11_restore_41 : decode cX11_restore 41 = .ok (.invokevirtual 146, 3) := by decide +kernel
theorem dX11_restore_44 : decode cX11_restore 44 = .ok (.iconst 1, 1) := by decide +kernel
theorem dX11_restore_45 : decode cX11_restore 45 = .ok (.ireturn, 1) := by decide +kernel
theorem dX11_kind_0 : decode cX11_kind 0 = .ok (.aload_n 0, 1) := by decide +kernel
theorem dX11_kind_1 : decode cX11_kind 1 = .ok (.iload_n 1, 1) := by decide +kernel
theorem dX11_kind_2 : decode cX11_kind 2 = .ok (.invokevirtual 169, 3) := by decide +kernel
theorem dX11_kind_5 : decode cX11_kind 5 = .ok (.ifCond .eq 15, 3) := by decide +kernel
theorem dX11_kind_8 : decode cX11_kind 8 = .ok (.aload_n 0, 1) := by decide +kernel
theorem dX11_kind_9 : decode cX11_kind 9 = .ok (.getfield 25, 3) := by decide +kernel
theorem dX11_kind_12 : decode cX11_kind 12 = .ok (.getfield 260, 3) := by decide +kernel
theorem dX11_kind_15 : decode cX11_kind 15 = .ok (.iload_n 1, 1) := by decide +kernel
theorem dX11_kind_16 : decode cX11_kind 16 = .ok (.iaload, 1) := by decide +kernel
theorem dX11_kind_17 : decode cX11_kind 17 = .ok (.goto 5, 3) := by decide +kernel
theorem dX11_kind_20 : decode cX11_kind 20 = .ok (.ldc 84, 2) := by decide +kernel
theorem dX11_kind_22 : decode cX11_kind 22 = .ok (.ireturn, 1) := by decide +kernel
theorem dX11_as_0 : decode cX11_as 0 = .ok (.aload_n 0, 1) := by decide +kernel
theorem dX11_as_1 : decode cX11_as 1 = .ok (.iload_n 1, 1) := by decide +kernel
theorem dX11_as_2 : decode cX11_as 2 = .ok (.invokevirtual 169, 3) := by decide +kernel
theorem dX11_as_5 : decode cX11_as 5 = .ok (.ifCond .eq 12, 3) := by decide +kernel
theorem dX11_as_8 : decode cX11_as 8 = .ok (.iload_n 2, 1) := by decide +kernel
theorem dX11_as_9 : decode cX11_as 9 = .ok (.iconst 0, 1) := by decide +kernel
theorem dX11_as_10 : decode cX11_as 10 = .ok (.iconst 5, 1) := by decide +kernel
theorem dX11_as_11 : decode cX11_as 11 = .ok (.invokestatic 80, 3) := by decide +kernel
theorem dX11_as_14 : decode cX11_as 14 = .ok (.ifCond .ne 6, 3) := by decide +kernel
theorem dX11_as_17 : decode cX11_as 17 = .ok (.ldc 84, 2) := by decide +kernel
theorem dX11_as_19 : decode cX11_as 19 = .ok (.ireturn, 1) := by decide +kernel
theorem dX11_as_20 : decode cX11_as 20 = .ok (.aload_n 0, 1) := by decide +kernel
theorem dX11_as_21 : decode cX11_as 21 = .ok (.iload_n 1, 1) := by decide +kernel
theorem dX11_as_22 : decode cX11_as 22 = .ok (.invokevirtual 263, 3) := by decide +kernel
theorem dX11_as_25 : decode cX11_as 25 = .ok (.iload_n 2, 1) := by decide +kernel
theorem dX11_as_26 : decode cX11_as 26 = .ok (.invokestatic 267, 3) := by decide +kernel
theorem dX11_as_29 : decode cX11_as 29 = .ok (.ifCond .ne 9, 3) := by decide +kernel
theorem dX11_as_32 : decode cX11_as 32 = .ok (.aload_n 0, 1) := by decide +kernel
theorem dX11_as_33 : decode cX11_as 33 = .ok (.iconst 3, 1) := by decide +kernel
theorem dX11_as_34 : decode cX11_as 34 = .ok (.invokevirtual 85, 3) := by decide +kernel
theorem dX11_as_37 : decode cX11_as 37 = .ok (.ireturn, 1) := by decide +kernel
theorem dX11_as_38 : decode cX11_as 38 = .ok (.aload_n 0, 1) := by decide +kernel
theorem dX11_as_39 : decode cX11_as 39 = .ok (.iload_n 1, 1) := by decide +kernel
theorem dX11_as_40 : decode cX11_as 40 = .ok (.invokevirtual 93, 3) := by decide +kernel
theorem dX11_as_43 : decode cX11_as 43 = .ok (.ireturn, 1) := by decide +kernel
theorem dX11_ask_0 : decode cX11_ask 0 = .ok (.aload_n 0, 1) := by decide +kernel
theorem dX11_ask_1 : decode cX11_ask 1 = .ok (.iload_n 1, 1) := by decide +kernel
theorem dX11_ask_2 : decode cX11_ask 2 = .ok (.invokevirtual 169, 3) := by decide +kernel
theorem dX11_ask_5 : decode cX11_ask 5 = .ok (.ifCond .eq 12, 3) := by decide +kernel
theorem dX11_ask_8 : decode cX11_ask 8 = .ok (.iload_n 2, 1) := by decide +kernel
theorem dX11_ask_9 : decode cX11_ask 9 = .ok (.iconst 0, 1) := by decide +kernel
theorem dX11_ask_10 : decode cX11_ask 10 = .ok (.iconst 1, 1) := by decide +kernel
theorem dX11_ask_11 : decode cX11_ask 11 = .ok (.invokestatic 80, 3) := by decide +kernel
theorem dX11_ask_14 : decode cX11_ask 14 = .ok (.ifCond .ne 6, 3) := by decide +kernel
theorem dX11_ask_17 : decode cX11_ask 17 = .ok (.ldc 84, 2) := by decide +kernel
theorem dX11_ask_19 : decode cX11_ask 19 = .ok (.ireturn, 1) := by decide +kernel
theorem dX11_ask_20 : decode cX11_ask 20 = .ok (.aload_n 0, 1) := by decide +kernel
theorem dX11_ask_21 : decode cX11_ask 21 = .ok (.getfield 71, 3) := by decide +kernel
theorem dX11_ask_24 : decode cX11_ask 24 = .ok (.iconst 0, 1) := by decide +kernel
theorem dX11_ask_25 : decode cX11_ask 25 = .ok (.putfield 271, 3) := by decide +kernel
theorem dX11_ask_28 : decode cX11_ask 28 = .ok (.aload_n 0, 1) := by decide +kernel
theorem dX11_ask_29 : decode cX11_ask 29 = .ok (.iload_n 1, 1) := by decide +kernel
theorem dX11_ask_30 : decode cX11_ask 30 = .ok (.invokevirtual 263, 3) := by decide +kernel
theorem dX11_ask_33 : decode cX11_ask 33 = .ok (.astore_n 3, 1) := by decide +kernel
theorem dX11_ask_34 : decode cX11_ask 34 = .ok (.iload_n 2, 1) := by decide +kernel
theorem dX11_ask_35 : decode cX11_ask 35 = .ok (.ifCond .ne 19, 3) := by decide +kernel
theorem dX11_ask_38 : decode cX11_ask 38 = .ok (.aload_n 3, 1) := by decide +kernel
theorem dX11_ask_39 : decode cX11_ask 39 = .ok (.aload_n 0, 1) := by decide +kernel
theorem dX11_ask_40 : decode cX11_ask 40 = .ok (.getfield 25, 3) := by decide +kernel
theorem dX11_ask_43 : decode cX11_ask 43 = .ok (.iload_n 1, 1) := by decide +kernel
theorem dX11_ask_44 : decode cX11_ask 44 = .ok (.aload_n 0, 1) := by decide +kernel
theorem dX11_ask_45 : decode cX11_ask 45 = .ok (.getfield 71, 3) := by decide +kernel
theorem dX11_ask_48 : decode cX11_ask 48 = .ok (.invokevirtual 272, 3) := by decide +kernel
theorem dX11_ask_51 : decode cX11_ask 51 = .ok (.goto 16, 3) := by decide +kernel
theorem dX11_ask_54 : decode cX11_ask 54 = .ok (.aload_n 3, 1) := by decide +kernel
theorem dX11_ask_55 : decode cX11_ask 55 = .ok (.aload_n 0, 1) := by decide +kernel
theorem dX11_ask_56 : decode cX11_ask 56 = .ok (.getfield 25, 3) := by decide +kernel
theorem dX11_ask_59 : decode cX11_ask 59 = .ok (.iload_n 1, 1) := by decide +kernel
theorem dX11_ask_60 : decode cX11_ask 60 = .ok (.aload_n 0, 1) := by decide +kernel
theorem dX11_ask_61 : decode cX11_ask 61 = .ok (.getfield 71, 3) := by decide +kernel
theorem dX11_ask_64 : decode cX11_ask 64 = .ok (.invokevirtual 276, 3) := by decide +kernel
theorem dX11_ask_67 : decode cX11_ask 67 = .ok (.ireturn, 1) := by decide +kernel
theorem dX11_trace_0 : decode cX11_trace 0 = .ok (.iload_n 1, 1) := by decide +kernel
theorem dX11_trace_1 : decode cX11_trace 1 = .ok (.iconst 0, 1) := by decide +kernel
theorem dX11_trace_2 : decode cX11_trace 2 = .ok (.aload_n 0, 1) := by decide +kernel
theorem dX11_trace_3 : decode cX11_trace 3 = .ok (.getfield 71, 3) := by decide +kernel
theorem dX11_trace_6 : decode cX11_trace 6 = .ok (.getfield 271, 3) := by decide +kernel
theorem dX11_trace_9 : decode cX11_trace 9 = .ok (.iconst 1, 1) := by decide +kernel
theorem dX11_trace_10 : decode cX11_trace 10 = .ok (.isub, 1) := by decide +kernel
theorem dX11_trace_11 : decode cX11_trace 11 = .ok (.invokestatic 80, 3) := by decide +kernel
theorem dX11_trace_14 : decode cX11_trace 14 = .ok (.ifCond .eq 15, 3) := by decide +kernel
theorem dX11_trace_17 : decode cX11_trace 17 = .ok (.aload_n 0, 1) := by decide +kernel
theorem dX11_trace_18 : decode cX11_trace 18 = .ok (.getfield 71, 3) := by decide +kernel
theorem dX11_trace_21 : decode cX11_trace 21 = .ok (.getfield 279, 3) := by decide +kernel
theorem dX11_trace_24 : decode cX11_trace 24 = .ok (.iload_n 1, 1) := by decide +kernel
theorem dX11_trace_25 : decode cX11_trace 25 = .ok (.iaload, 1) := by decide +kernel
theorem dX11_trace_26 : decode cX11_trace 26 = .ok (.goto 5, 3) := by decide +kernel
theorem dX11_trace_29 : decode cX11_trace 29 = .ok (.ldc 226, 2) := by decide +kernel
theorem dX11_trace_31 : decode cX11_trace 31 = .ok (.ireturn, 1) := by decide +kernel
theorem dX11_count_0 : decode cX11_count 0 = .ok (.iload_n 1, 1) := by decide +kernel
theorem dX11_count_1 : decode cX11_count 1 = .ok (.tableswitch 99 0 6 #[43, 48, 56, 64, 72, 83, 91], 43) := by decide +kernel
theorem dX11_count_44 : decode cX11_count 44 = .ok (.aload_n 0, 1) := by decide +kernel
theorem dX11_count_45 : decode cX11_count 45 = .ok (.invokevirtual 282, 3) := by decide +kernel
theorem dX11_count_48 : decode cX11_count 48 = .ok (.ireturn, 1) := by decide +kernel
theorem dX11_count_49 : decode cX11_count 49 = .ok (.aload_n 0, 1) := by decide +kernel
theorem dX11_count_50 : decode cX11_count 50 = .ok (.getfield 25, 3) := by decide +kernel
theorem dX11_count_53 : decode cX11_count 53 = .ok (.getfield 153, 3) := by decide +kernel
theorem dX11_count_56 : decode cX11_count 56 = .ok (.ireturn, 1) := by decide +kernel
theorem dX11_count_57 : decode cX11_count 57 = .ok (.aload_n 0, 1) := by decide +kernel
theorem dX11_count_58 : decode cX11_count 58 = .ok (.getfield 25, 3) := by decide +kernel
theorem dX11_count_61 : decode cX11_count 61 = .ok (.getfield 157, 3) := by decide +kernel
theorem dX11_count_64 : decode cX11_count 64 = .ok (.ireturn, 1) := by decide +kernel
theorem dX11_count_65 : decode cX11_count 65 = .ok (.aload_n 0, 1) := by decide +kernel
theorem dX11_count_66 : decode cX11_count 66 = .ok (.getfield 25, 3) := by decide +kernel
theorem dX11_count_69 : decode cX11_count 69 = .ok (.getfield 185, 3) := by decide +kernel
theorem dX11_count_72 : decode cX11_count 72 = .ok (.ireturn, 1) := by decide +kernel
theorem dX11_count_73 : decode cX11_count 73 = .ok (.aload_n 0, 1) := by decide +kernel
theorem dX11_count_74 : decode cX11_count 74 = .ok (.getfield 25, 3) := by decide +kernel
theorem dX11_count_77 : decode cX11_count 77 = .ok (.getfield 217, 3) := by decide +kernel
theorem dX11_count_80 : decode cX11_count 80 = .ok (.invokestatic 237, 3) := by decide +kernel
theorem dX11_count_83 : decode cX11_count 83 = .ok (.ireturn, 1) := by decide +kernel
theorem dX11_count_84 : decode cX11_count 84 = .ok (.aload_n 0, 1) := by decide +kernel
theorem dX11_count_85 : decode cX11_count 85 = .ok (.getfield 43, 3) := by decide +kernel
theorem dX11_count_88 : decode cX11_count 88 = .ok (.getfield 188, 3) := by decide +kernel
theorem dX11_count_91 : decode cX11_count 91 = .ok (.ireturn, 1) := by decide +kernel
theorem dX11_count_92 : decode cX11_count 92 = .ok (.aload_n 0, 1) := by decide +kernel
theorem dX11_count_93 : decode cX11_count 93 = .ok (.getfield 18, 3) := by decide +kernel
theorem dX11_count_96 : decode cX11_count 96 = .ok (.getfield 124, 3) := by decide +kernel
theorem dX11_count_99 : decode cX11_count 99 = .ok (.ireturn, 1) := by decide +kernel
theorem dX11_count_100 : decode cX11_count 100 = .ok (.ldc 84, 2) := by decide +kernel
theorem dX11_count_102 : decode cX11_count 102 = .ok (.ireturn, 1) := by decide +kernel
theorem dX11_status_0 : decode cX11_status 0 = .ok (.aload_n 0, 1) := by decide +kernel
theorem dX11_status_1 : decode cX11_status 1 = .ok (.getfield 285, 3) := by decide +kernel
theorem dX11_status_4 : decode cX11_status 4 = .ok (.ireturn, 1) := by decide +kernel
theorem dX11_isWithin_0 : decode cX11_isWithin 0 = .ok (.iload_n 0, 1) := by decide +kernel
theorem dX11_isWithin_1 : decode cX11_isWithin 1 = .ok (.iload_n 1, 1) := by decide +kernel
theorem dX11_isWithin_2 : decode cX11_isWithin 2 = .ok (.if_icmp .lt 12, 3) := by decide +kernel
theorem dX11_isWithin_5 : decode cX11_isWithin 5 = .ok (.iload_n 0, 1) := by decide +kernel
theorem dX11_isWithin_6 : decode cX11_isWithin 6 = .ok (.iload_n 2, 1) := by decide +kernel
theorem dX11_isWithin_7 : decode cX11_isWithin 7 = .ok (.if_icmp .gt 7, 3) := by decide +kernel
theorem dX11_isWithin_10 : decode cX11_isWithin 10 = .ok (.iconst 1, 1) := by decide +kernel
theorem dX11_isWithin_11 : decode cX11_isWithin 11 = .ok (.goto 4, 3) := by decide +kernel
theorem dX11_isWithin_14 : decode cX11_isWithin 14 = .ok (.iconst 0, 1) := by decide +kernel
theorem dX11_isWithin_15 : decode cX11_isWithin 15 = .ok (.ireturn, 1) := by decide +kernel
theorem dX11_isRow_0 : decode cX11_isRow 0 = .ok (.iload_n 0, 1) := by decide +kernel
theorem dX11_isRow_1 : decode cX11_isRow 1 = .ok (.iconst 0, 1) := by decide +kernel
theorem dX11_isRow_2 : decode cX11_isRow 2 = .ok (.bipush 7, 2) := by decide +kernel
theorem dX11_isRow_4 : decode cX11_isRow 4 = .ok (.invokestatic 80, 3) := by decide +kernel
theorem dX11_isRow_7 : decode cX11_isRow 7 = .ok (.ireturn, 1) := by decide +kernel
theorem dX11_isPerson_0 : decode cX11_isPerson 0 = .ok (.iload_n 1, 1) := by decide +kernel
theorem dX11_isPerson_1 : decode cX11_isPerson 1 = .ok (.iconst 0, 1) := by decide +kernel
theorem dX11_isPerson_2 : decode cX11_isPerson 2 = .ok (.aload_n 0, 1) := by decide +kernel
theorem dX11_isPerson_3 : decode cX11_isPerson 3 = .ok (.getfield 25, 3) := by decide +kernel
theorem dX11_isPerson_6 : decode cX11_isPerson 6 = .ok (.getfield 153, 3) := by decide +kernel
theorem dX11_isPerson_9 : decode cX11_isPerson 9 = .ok (.iconst 1, 1) := by decide +kernel
theorem dX11_isPerson_10 : decode cX11_isPerson 10 = .ok (.isub, 1) := by decide +kernel
theorem dX11_isPerson_11 : decode cX11_isPerson 11 = .ok (.invokestatic 80, 3) := by decide +kernel
theorem dX11_isPerson_14 : decode cX11_isPerson 14 = .ok (.ireturn, 1) := by decide +kernel
theorem dX11_kindOf_0 : decode cX11_kindOf 0 = .ok (.aload_n 0, 1) := by decide +kernel
theorem dX11_kindOf_1 : decode cX11_kindOf 1 = .ok (.getfield 64, 3) := by decide +kernel
theorem dX11_kindOf_4 : decode cX11_kindOf 4 = .ok (.aload_n 0, 1) := by decide +kernel
theorem dX11_kindOf_5 : decode cX11_kindOf 5 = .ok (.getfield 25, 3) := by decide +kernel
theorem dX11_kindOf_8 : decode cX11_kindOf 8 = .ok (.getfield 260, 3) := by decide +kernel
theorem dX11_kindOf_11 : decode cX11_kindOf 11 = .ok (.iload_n 1, 1) := by decide +kernel
theorem dX11_kindOf_12 : decode cX11_kindOf 12 = .ok (.iaload, 1) := by decide +kernel
theorem dX11_kindOf_13 : decode cX11_kindOf 13 = .ok (.iconst 1, 1) := by decide +kernel
theorem dX11_kindOf_14 : decode cX11_kindOf 14 = .ok (.isub, 1) := by decide +kernel
theorem dX11_kindOf_15 : decode cX11_kindOf 15 = .ok (.aaload, 1) := by decide +kernel
theorem dX11_kindOf_16 : decode cX11_kindOf 16 = .ok (.areturn, 1) := by decide +kernel
theorem dX11_found_0 : decode cX11_found 0 = .ok (.aload_n 0, 1) := by decide +kernel
theorem dX11_found_1 : decode cX11_found 1 = .ok (.iload_n 1, 1) := by decide +kernel
theorem dX11_found_2 : decode cX11_found 2 = .ok (.putfield 285, 3) := by decide +kernel
theorem dX11_found_5 : decode cX11_found 5 = .ok (.ldc_w 288, 3) := by decide +kernel
theorem dX11_found_8 : decode cX11_found 8 = .ok (.iload_n 1, 1) := by decide +kernel
theorem dX11_found_9 : decode cX11_found 9 = .ok (.isub, 1) := by decide +kernel
theorem dX11_found_10 : decode cX11_found 10 = .ok (.ireturn, 1) := by decide +kernel
theorem dX11_unhindered_0 : decode cX11_unhindered 0 = .ok (.aload_n 0, 1) := by decide +kernel
theorem dX11_unhindered_1 : decode cX11_unhindered 1 = .ok (.iconst 0, 1) := by decide +kernel
theorem dX11_unhindered_2 : decode cX11_unhindered 2 = .ok (.putfield 285, 3) := by decide +kernel
theorem dX11_unhindered_5 : decode cX11_unhindered 5 = .ok (.iload_n 1, 1) := by decide +kernel
theorem dX11_unhindered_6 : decode cX11_unhindered 6 = .ok (.ireturn, 1) := by decide +kernel
theorem dX11_orNone_0 : decode cX11_orNone 0 = .ok (.iload_n 0, 1) := by decide +kernel
theorem dX11_orNone_1 : decode cX11_orNone 1 = .ok (.ifCond .ge 8, 3) := by decide +kernel
theorem dX11_orNone_4 : decode cX11_orNone 4 = .ok (.ldc 226, 2) := by decide +kernel
theorem dX11_orNone_6 : decode cX11_orNone 6 = .ok (.goto 4, 3) := by decide +kernel
theorem dX11_orNone_9 : decode cX11_orNone 9 = .ok (.iload_n 0, 1) := by decide +kernel
theorem dX11_orNone_10 : decode cX11_orNone 10 = .ok (.ireturn, 1) := by decide +kernel
theorem dX11_rowsThere_0 : decode cX11_rowsThere 0 = .ok (.iconst 0, 1) := by decide +kernel
theorem dX11_rowsThere_1 : decode cX11_rowsThere 1 = .ok (.istore_n 1, 1) := by decide +kernel
theorem dX11_rowsThere_2 : decode cX11_rowsThere 2 = .ok (.iconst 0, 1) := by decide +kernel
theorem dX11_rowsThere_3 : decode cX11_rowsThere 3 = .ok (.istore_n 2, 1) := by decide +kernel
theorem dX11_rowsThere_4 : decode cX11_rowsThere 4 = .ok (.iload_n 2, 1) := by decide +kernel
theorem dX11_rowsThere_5 : decode cX11_rowsThere 5 = .ok (.bipush 8, 2) := by decide +kernel
theorem dX11_rowsThere_7 : decode cX11_rowsThere 7 = .ok (.if_icmp .ge 29, 3) := by decide +kernel
theorem dX11_rowsThere_10 : decode cX11_rowsThere 10 = .ok (.iload_n 1, 1) := by decide +kernel
theorem dX11_rowsThere_11 : decode cX11_rowsThere 11 = .ok (.aload_n 0, 1) := by decide +kernel
theorem dX11_rowsThere_12 : decode cX11_rowsThere 12 = .ok (.getfield 11, 3) := by decide +kernel
theorem dX11_rowsThere_15 : decode cX11_rowsThere 15 = .ok (.iload_n 2, 1) := by decide +kernel
theorem dX11_rowsThere_16 : decode cX11_rowsThere 16 = .ok (.aaload, 1) := by decide +kernel
theorem dX11_rowsThere_17 : decode cX11_rowsThere 17 = .ok (.invokevirtual 96, 3) := by decide +kernel
theorem dX11_rowsThere_20 : decode cX11_rowsThere 20 = .ok (.ifCond .eq 7, 3) := by decide +kernel
theorem dX11_rowsThere_23 : decode cX11_rowsThere 23 = .ok (.iconst 0, 1) := by decide +kernel
theorem dX11_rowsThere_24 : decode cX11_rowsThere 24 = .ok (.goto 4, 3) := by decide +kernel
theorem dX11_rowsThere_27 : decode cX11_rowsThere 27 = .ok (.iconst 1, 1) := by decide +kernel
theorem dX11_rowsThere_28 : decode cX11_rowsThere 28 = .ok (.iadd, 1) := by decide +kernel
theorem dX11_rowsThere_29 : decode cX11_rowsThere 29 = .ok (.istore_n 1, 1) := by decide +kernel
theorem dX11_rowsThere_30 : decode cX11_rowsThere 30 = .ok (.iinc 2 1, 3) := by decide +kernel
theorem dX11_rowsThere_33 : decode cX11_rowsThere 33 = .ok (.goto (-29), 3) := by decide +kernel
theorem dX11_rowsThere_36 : decode cX11_rowsThere 36 = .ok (.iload_n 1, 1) := by decide +kernel
theorem dX11_rowsThere_37 : decode cX11_rowsThere 37 = .ok (.ireturn, 1) := by decide +kernel
theorem dX11_worth_0 : decode cX11_worth 0 = .ok (.aload_n 0, 1) := by decide +kernel
theorem dX11_worth_1 : decode cX11_worth 1 = .ok (.getfield 29, 3) := by decide +kernel
theorem dX11_worth_4 : decode cX11_worth 4 = .ok (.aload_n 0, 1) := by decide +kernel
theorem dX11_worth_5 : decode cX11_worth 5 = .ok (.getfield 25, 3) := by decide +kernel
theorem dX11_worth_8 : decode cX11_worth 8 = .ok (.invokevirtual 143, 3) := by decide +kernel
theorem dX11_worth_11 : decode cX11_worth 11 = .ok (.aload_n 0, 1) := by decide +kernel
theorem dX11_worth_12 : decode cX11_worth 12 = .ok (.getfield 29, 3) := by decide +kernel
theorem dX11_worth_15 : decode cX11_worth 15 = .ok (.iload_n 1, 1) := by decide +kernel
theorem dX11_worth_16 : decode cX11_worth 16 = .ok (.invokevirtual 289, 3) := by decide +kernel
theorem dX11_worth_19 : decode cX11_worth 19 = .ok (.aload_n 0, 1) := by decide +kernel
theorem dX11_worth_20 : decode cX11_worth 20 = .ok (.getfield 29, 3) := by decide +kernel
theorem dX11_worth_23 : decode cX11_worth 23 = .ok (.bipush 99, 2) := by decide +kernel
theorem dX11_worth_25 : decode cX11_worth 25 = .ok (.invokevirtual 220, 3) := by decide +kernel
theorem dX11_worth_28 : decode cX11_worth 28 = .ok (.istore_n 2, 1) := by decide +kernel
theorem dX11_worth_29 : decode cX11_worth 29 = .ok (.aload_n 0, 1) := by decide +kernel
theorem dX11_worth_30 : decode cX11_worth 30 = .ok (.getfield 29, 3) := by decide +kernel
theorem dX11_worth_33 : decode cX11_worth 33 = .ok (.getfield 217, 3) := by decide +kernel
theorem dX11_worth_36 : decode cX11_worth 36 = .ok (.invokestatic 237, 3) := by decide +kernel
theorem dX11_worth_39 : decode cX11_worth 39 = .ok (.istore_n 3, 1) := by decide +kernel
theorem dX11_worth_40 : decode cX11_worth 40 = .ok (.iload_n 3, 1) := by decide +kernel
theorem dX11_worth_41 : decode cX11_worth 41 = .ok (.sipush 1000, 3) := by decide +kernel
theorem dX11_worth_44 : decode cX11_worth 44 = .ok (.imul, 1) := by decide +kernel
theorem dX11_worth_45 : decode cX11_worth 45 = .ok (.bipush 99, 2) := by decide +kernel
theorem dX11_worth_47 : decode cX11_worth 47 = .ok (.iload_n 2, 1) := by decide +kernel
theorem dX11_worth_48 : decode cX11_worth 48 = .ok (.isub, 1) := by decide +kernel
theorem dX11_worth_49 : decode cX11_worth 49 = .ok (.bipush 10, 2) := by decide +kernel
theorem dX11_worth_51 : decode cX11_worth 51 = .ok (.imul, 1) := by decide +kernel
theorem dX11_worth_52 : decode cX11_worth 52 = .ok (.iadd, 1) := by decide +kernel
theorem dX11_worth_53 : decode cX11_worth 53 = .ok (.bipush 6, 2) := by decide +kernel
theorem dX11_worth_55 : decode cX11_worth 55 = .ok (.iload_n 1, 1) := by decide +kernel
theorem dX11_worth_56 : decode cX11_worth 56 = .ok (.invokestatic 237, 3) := by decide +kernel
theorem dX11_worth_59 : decode cX11_worth 59 = .ok (.isub, 1) := by decide +kernel
theorem dX11_worth_60 : decode cX11_worth 60 = .ok (.iadd, 1) := by decide +kernel
theorem dX11_worth_61 : decode cX11_worth 61 = .ok (.ireturn, 1) := by decide +kernel
theorem dX11_isBroughtHiding_0 : decode cX11_isBroughtHiding 0 = .ok (.aload_n 0, 1) := by decide +kernel
theorem dX11_isBroughtHiding_1 : decode cX11_isBroughtHiding 1 = .ok (.getfield 29, 3) := by decide +kernel
theorem dX11_isBroughtHiding_4 : decode cX11_isBroughtHiding 4 = .ok (.aload_n 0, 1) := by decide +kernel
theorem dX11_isBroughtHiding_5 : decode cX11_isBroughtHiding 5 = .ok (.getfield 25, 3) := by decide +kernel
theorem dX11_isBroughtHiding_8 : decode cX11_isBroughtHiding 8 = .ok (.invokevirtual 143, 3) := by decide +kernel
theorem dX11_isBroughtHiding_11 : decode cX11_isBroughtHiding 11 = .ok (.aload_n 0, 1) := by decide +kernel
theorem dX11_isBroughtHiding_12 : decode cX11_isBroughtHiding 12 = .ok (.getfield 29, 3) := by decide +kernel
theorem dX11_isBroughtHiding_15 : decode cX11_isBroughtHiding 15 = .ok (.iload_n 3, 1) := by decide +kernel
theorem dX11_isBroughtHiding_16 : decode cX11_isBroughtHiding 16 = .ok (.invokevirtual 289, 3) := by decide +kernel
theorem dX11_isBroughtHiding_19 : decode cX11_isBroughtHiding 19 = .ok (.aload_n 0, 1) := by decide +kernel
theorem dX11_isBroughtHiding_20 : decode cX11_isBroughtHiding 20 = .ok (.getfield 29, 3) := by decide +kernel
theorem dX11_isBroughtHiding_23 : decode cX11_isBroughtHiding 23 = .ok (.iload_n 1, 1) := by decide +kernel
theorem dX11_isBroughtHiding_24 : decode cX11_isBroughtHiding 24 = .ok (.iload_n 2, 1) := by decide +kernel
theorem dX11_isBroughtHiding_25 : decode cX11_isBroughtHiding 25 = .ok (.invokevirtual 223, 3) := by decide +kernel
theorem dX11_isBroughtHiding_28 : decode cX11_isBroughtHiding 28 = .ok (.iconst (-1), 1) := by decide +kernel
theorem dX11_isBroughtHiding_29 : decode cX11_isBroughtHiding 29 = .ok (.if_icmp .eq 7, 3) := by decide +kernel
theorem dX11_isBroughtHiding_32 : decode cX11_isBroughtHiding 32 = .ok (.iconst 1, 1) := by decide +kernel
theorem dX11_isBroughtHiding_33 : decode cX11_isBroughtHiding 33 = .ok (.goto 4, 3) := by decide +kernel
theorem dX11_isBroughtHiding_36 : decode cX11_isBroughtHiding 36 = .ok (.iconst 0, 1) := by decide +kernel
theorem dX11_isBroughtHiding_37 : decode cX11_isBroughtHiding 37 = .ok (.ireturn, 1) := by decide +kernel
theorem dX11_fitting_0 : decode cX11_fitting 0 = .ok (.iconst 0, 1) := by decide +kernel
theorem dX11_fitting_1 : decode cX11_fitting 1 = .ok (.istore 6, 2) := by decide +kernel
theorem dX11_fitting_3 : decode cX11_fitting 3 = .ok (.aload_n 0, 1) := by decide +kernel
theorem dX11_fitting_4 : decode cX11_fitting 4 = .ok (.getfield 25, 3) := by decide +kernel
theorem dX11_fitting_7 : decode cX11_fitting 7 = .ok (.iload_n 2, 1) := by decide +kernel
theorem dX11_fitting_8 : decode cX11_fitting 8 = .ok (.invokevirtual 293, 3) := by decide +kernel
theorem dX11_fitting_11 : decode cX11_fitting 11 = .ok (.istore 7, 2) := by decide +kernel
theorem dX11_fitting_13 : decode cX11_fitting 13 = .ok (.iload_n 2, 1) := by decide +kernel
theorem dX11_fitting_14 : decode cX11_fitting 14 = .ok (.ifCond .ne 7, 3) := by decide +kernel
theorem dX11_fitting_17 : decode cX11_fitting 17 = .ok (.iconst 1, 1) := by decide +kernel
theorem dX11_fitting_18 : decode cX11_fitting 18 = .ok (.goto 4, 3) := by decide +kernel
theorem dX11_fitting_21 : decode cX11_fitting 21 = .ok (.iconst 0, 1) := by decide +kernel
theorem dX11_fitting_22 : decode cX11_fitting 22 = .ok (.istore 8, 2) := by decide +kernel
theorem dX11_fitting_24 : decode cX11_fitting 24 = .ok (.iload 8, 2) := by decide +kernel
theorem dX11_fitting_26 : decode cX11_fitting 26 = .ok (.iload 7, 2) := by decide +kernel
theorem dX11_fitting_28 : decode cX11_fitting 28 = .ok (.if_icmp .gt 62, 3) := by decide +kernel
theorem dX11_fitting_31 : decode cX11_fitting 31 = .ok (.aload_n 0, 1) := by decide +kernel
theorem dX11_fitting_32 : decode cX11_fitting 32 = .ok (.getfield 29, 3) := by decide +kernel
theorem dX11_fitting_35 : decode cX11_fitting 35 = .ok (.aload_n 0, 1) := by decide +kernel
theorem dX11_fitting_36 : decode cX11_fitting 36 = .ok (.getfield 25, 3) := by decide +kernel
theorem dX11_fitting_39 : decode cX11_fitting 39 = .ok (.invokevirtual 143, 3) := by decide +kernel
theorem dX11_fitting_42 : decode cX11_fitting 42 = .ok (.aload_n 0, 1) := by decide +kernel
theorem dX11_fitting_43 : decode cX11_fitting 43 = .ok (.getfield 29, 3) := by decide +kernel
theorem dX11_fitting_46 : decode cX11_fitting 46 = .ok (.iload_n 2, 1) := by decide +kernel
theorem dX11_fitting_47 : decode cX11_fitting 47 = .ok (.iload_n 1, 1) := by decide +kernel
theorem dX11_fitting_48 : decode cX11_fitting 48 = .ok (.iload 8, 2) := by decide +kernel
theorem dX11_fitting_50 : decode cX11_fitting 50 = .ok (.invokevirtual 175, 3) := by decide +kernel
theorem dX11_fitting_53 : decode cX11_fitting 53 = .ok (.iload 6, 2) := by decide +kernel
theorem dX11_fitting_55 : decode cX11_fitting 55 = .ok (.aload_n 0, 1) := by decide +kernel
theorem dX11_fitting_56 : decode cX11_fitting 56 = .ok (.getfield 29, 3) := by decide +kernel
theorem dX11_fitting_59 : decode cX11_fitting 59 = .ok (.aload_n 3, 1) := by decide +kernel
theorem dX11_fitting_60 : decode cX11_fitting 60 = .ok (.getfield 104, 3) := by decide +kernel
theorem dX11_fitting_63 : decode cX11_fitting 63 = .ok (.iload 4, 2) := by decide +kernel
theorem dX11_fitting_65 : decode cX11_fitting 65 = .ok (.iload 5, 2) := by decide +kernel
theorem dX11_fitting_67 : decode cX11_fitting 67 = .ok (.invokevirtual 296, 3) := by decide +kernel
theorem dX11_fitting_70 : decode cX11_fitting 70 = .ok (.ifCond .eq 10, 3) := by decide +kernel
theorem dX11_fitting_73 : decode cX11_fitting 73 = .ok (.iconst 1, 1) := by decide +kernel
theorem dX11_fitting_74 : decode cX11_fitting 74 = .ok (.iload 8, 2) := by decide +kernel
theorem dX11_fitting_76 : decode cX11_fitting 76 = .ok (.ishl, 1) := by decide +kernel
theorem dX11_fitting_77 : decode cX11_fitting 77 = .ok (.goto 4, 3) := by decide +kernel
theorem dX11_fitting_80 : decode cX11_fitting 80 = .ok (.iconst 0, 1) := by decide +kernel
theorem dX11_fitting_81 : decode cX11_fitting 81 = .ok (.ior, 1) := by decide +kernel
theorem dX11_fitting_82 : decode cX11_fitting 82 = .ok (.istore 6, 2) := by decide +kernel
theorem dX11_fitting_84 : decode cX11_fitting 84 = .ok (.iinc 8 1, 3) := by decide +kernel
theorem dX11_fitting_87 : decode cX11_fitting 87 = .ok (.goto (-63), 3) := by decide +kernel
theorem dX11_fitting_90 : decode cX11_fitting 90 = .ok (.iload 6, 2) := by decide +kernel
theorem dX11_fitting_92 : decode cX11_fitting 92 = .ok (.ireturn, 1) := by decide +kernel
theorem dX11_power_0 : decode cX11_power 0 = .ok (.iconst 1, 1) := by decide +kernel
theorem dX11_power_1 : decode cX11_power 1 = .ok (.istore_n 2, 1) := by decide +kernel
theorem dX11_power_2 : decode cX11_power 2 = .ok (.iconst 0, 1) := by decide +kernel
theorem dX11_power_3 : decode cX11_power 3 = .ok (.istore_n 3, 1) := by decide +kernel
theorem dX11_power_4 : decode cX11_power 4 = .ok (.iload_n 3, 1) := by decide +kernel
theorem dX11_power_5 : decode cX11_power 5 = .ok (.iload_n 1, 1) := by decide +kernel
theorem dX11_power_6 : decode cX11_power 6 = .ok (.if_icmp .ge 13, 3) := by decide +kernel
theorem dX11_power_9 : decode cX11_power 9 = .ok (.iload_n 2, 1) := by decide +kernel
theorem dX11_power_10 : decode cX11_power 10 = .ok (.iload_n 0, 1) := by decide +kernel
theorem dX11_power_11 : decode cX11_power 11 = .ok (.imul, 1) := by decide +kernel
theorem dX11_power_12 : decode cX11_power 12 = .ok (.istore_n 2, 1) := by decide +kernel
theorem dX11_power_13 : decode cX11_power 13 = .ok (.iinc 3 1, 3) := by decide +kernel
theorem dX11_power_16 : decode cX11_power 16 = .ok (.goto (-12), 3) := by decide +kernel
theorem dX11_power_19 : decode cX11_power 19 = .ok (.iload_n 2, 1) := by decide +kernel
theorem dX11_power_20 : decode cX11_power 20 = .ok (.ireturn, 1) := by decide +kernel
theorem dX11_commonDivisor_0 : decode cX11_commonDivisor 0 = .ok (.iload_n 0, 1) := by decide +kernel
theorem dX11_commonDivisor_1 : decode cX11_commonDivisor 1 = .ok (.istore_n 2, 1) := by decide +kernel
theorem dX11_commonDivisor_2 : decode cX11_commonDivisor 2 = .ok (.iload_n 1, 1) := by decide +kernel
theorem dX11_commonDivisor_3 : decode cX11_commonDivisor 3 = .ok (.istore_n 3, 1) := by decide +kernel
theorem dX11_commonDivisor_4 : decode cX11_commonDivisor 4 = .ok (.iconst 0, 1) := by decide +kernel
theorem dX11_commonDivisor_5 : decode cX11_commonDivisor 5 = .ok (.istore 4, 2) := by decide +kernel
theorem dX11_commonDivisor_7 : decode cX11_commonDivisor 7 = .ok (.iload 4, 2) := by decide +kernel
theorem dX11_commonDivisor_9 : decode cX11_commonDivisor 9 = .ok (.bipush 100, 2) := by decide +kernel
theorem dX11_commonDivisor_11 : decode cX11_commonDivisor 11 = .ok (.if_icmp .ge 23, 3) := by decide +kernel
theorem dX11_commonDivisor_14 : decode cX11_commonDivisor 14 = .ok (.iload_n 3, 1) := by decide +kernel
theorem dX11_commonDivisor_15 : decode cX11_commonDivisor 15 = .ok (.ifCond .eq 19, 3) := by decide +kernel
theorem dX11_commonDivisor_18 : decode cX11_commonDivisor 18 = .ok (.iload_n 2, 1) := by decide +kernel
theorem dX11_commonDivisor_19 : decode cX11_commonDivisor 19 = .ok (.iload_n 3, 1) := by decide +kernel
theorem dX11_commonDivisor_20 : decode cX11_commonDivisor 20 = .ok (.irem, 1) := by decide +kernel
theorem dX11_commonDivisor_21 : decode cX11_commonDivisor 21 = .ok (.istore 5, 2) := by decide +kernel
theorem dX11_commonDivisor_23 : decode cX11_commonDivisor 23 = .ok (.iload_n 3, 1) := by decide +kernel
theorem dX11_commonDivisor_24 : decode cX11_commonDivisor 24 = .ok (.istore_n 2, 1) := by decide +kernel
theorem dX11_commonDivisor_25 : decode cX11_commonDivisor 25 = .ok (.iload 5, 2) := by decide +kernel
theorem dX11_commonDivisor_27 : decode cX11_commonDivisor 27 = .ok (.istore_n 3, 1) := by decide +kernel
theorem dX11_commonDivisor_28 : decode cX11_commonDivisor 28 = .ok (.iinc 4 1, 3) := by decide +kernel
theorem dX11_commonDivisor_31 : decode cX11_commonDivisor 31 = .ok (.goto (-24), 3) := by decide +kernel
theorem dX11_commonDivisor_34 : decode cX11_commonDivisor 34 = .ok (.iload_n 2, 1) := by decide +kernel
theorem dX11_commonDivisor_35 : decode cX11_commonDivisor 35 = .ok (.iconst 1, 1) := by decide +kernel
theorem dX11_commonDivisor_36 : decode cX11_commonDivisor 36 = .ok (.invokestatic 300, 3) := by decide +kernel
theorem dX11_commonDivisor_39 : decode cX11_commonDivisor 39 = .ok (.ireturn, 1) := by decide +kernel
theorem dX11_isOne_0 : decode cX11_isOne 0 = .ok (.iload_n 1, 1) := by decide +kernel
theorem dX11_isOne_1 : decode cX11_isOne 1 = .ok (.tableswitch 60 1 5 #[35, 40, 45, 50, 55], 35) := by decide +kernel
theorem dX11_isOne_36 : decode cX11_isOne 36 = .ok (.aload_n 0, 1) := by decide +kernel
theorem dX11_isOne_37 : decode cX11_isOne 37 = .ok (.instanceof 49, 3) := by decide +kernel
theorem dX11_isOne_40 : decode cX11_isOne 40 = .ok (.ireturn, 1) := by decide +kernel
theorem dX11_isOne_41 : decode cX11_isOne 41 = .ok (.aload_n 0, 1) := by decide +kernel
theorem dX11_isOne_42 : decode cX11_isOne 42 = .ok (.instanceof 52, 3) := by decide +kernel
theorem dX11_isOne_45 : decode cX11_isOne 45 = .ok (.ireturn, 1) := by decide +kernel
theorem dX11_isOne_46 : decode cX11_isOne 46 = .ok (.aload_n 0, 1) := by decide +kernel
theorem dX11_isOne_47 : decode cX11_isOne 47 = .ok (.instanceof 55, 3) := by decide +kernel
theorem dX11_isOne_50 : decode cX11_isOne 50 = .ok (.ireturn, 1) := by decide +kernel
theorem dX11_isOne_51 : decode cX11_isOne 51 = .ok (.aload_n 0, 1) := by decide +kernel
theorem dX11_isOne_52 : decode cX11_isOne 52 = .ok (.instanceof 58, 3) := by decide +kernel
theorem dX11_isOne_55 : decode cX11_isOne 55 = .ok (.ireturn, 1) := by decide +kernel
theorem dX11_isOne_56 : decode cX11_isOne 56 = .ok (.aload_n 0, 1) := by decide +kernel
theorem dX11_isOne_57 : decode cX11_isOne 57 = .ok (.instanceof 61, 3) := by decide +kernel
theorem dX11_isOne_60 : decode cX11_isOne 60 = .ok (.ireturn, 1) := by decide +kernel
theorem dX11_isOne_61 : decode cX11_isOne 61 = .ok (.iconst 1, 1) := by decide +kernel
theorem dX11_isOne_62 : decode cX11_isOne 62 = .ok (.ireturn, 1) := by decide +kernel
theorem dX12_init_0 : decode cX12_init 0 = .ok (.aload_n 0, 1) := by decide +kernel
theorem dX12_init_1 : decode cX12_init 1 = .ok (.invokespecial 1, 3) := by decide +kernel
theorem dX12_init_4 : decode cX12_init 4 = .ok (.aload_n 0, 1) := by decide +kernel
theorem dX12_init_5 : decode cX12_init 5 = .ok (.bipush 8, 2) := by decide +kernel
theorem dX12_init_7 : decode cX12_init 7 = .ok (.newarray .int, 2) := by decide +kernel
theorem dX12_init_9 : decode cX12_init 9 = .ok (.putfield 7, 3) := by decide +kernel
theorem dX12_init_12 : decode cX12_init 12 = .ok (.aload_n 0, 1) := by decide +kernel
theorem dX12_init_13 : decode cX12_init 13 = .ok (.bipush 8, 2) := by decide +kernel
theorem dX12_init_15 : decode cX12_init 15 = .ok (.newarray .int, 2) := by decide +kernel
theorem dX12_init_17 : decode cX12_init 17 = .ok (.putfield 13, 3) := by decide +kernel
theorem dX12_init_20 : decode cX12_init 20 = .ok (.aload_n 0, 1) := by decide +kernel
theorem dX12_init_21 : decode cX12_init 21 = .ok (.sipush 320, 3) := by decide +kernel
theorem dX12_init_24 : decode cX12_init 24 = .ok (.newarray .int, 2) := by decide +kernel
theorem dX12_init_26 : decode cX12_init 26 = .ok (.putfield 16, 3) := by decide +kernel
theorem dX12_init_29 : decode cX12_init 29 = .ok (.aload_n 0, 1) := by decide +kernel
theorem dX12_init_30 : decode cX12_init 30 = .ok (.bipush 40, 2) := by decide +kernel
theorem dX12_init_32 : decode cX12_init 32 = .ok (.newarray .int, 2) := by decide +kernel
theorem dX12_init_34 : decode cX12_init 34 = .ok (.putfield 19, 3) := by decide +kernel
theorem dX12_init_37 : decode cX12_init 37 = .ok (.aload_n 0, 1) := by decide +kernel
theorem dX12_init_38 : decode cX12_init 38 = .ok (.bipush 120, 2) := by decide +kernel
theorem dX12_init_40 : decode cX12_init 40 = .ok (.newarray .int, 2) := by decide +kernel
theorem dX12_init_42 : decode cX12_init 42 = .ok (.putfield 22, 3) := by decide +kernel
theorem dX12_init_45 : decode cX12_init 45 = .ok (.aload_n 0, 1) := by decide +kernel
theorem dX12_init_46 : decode cX12_init 46 = .ok (.bipush 41, 2) := by decide +kernel
theorem dX12_init_48 : decode cX12_init 48 = .ok (.newarray .int, 2) := by decide +kernel
theorem dX12_init_50 : decode cX12_init 50 = .ok (.putfield 25, 3) := by decide +kernel
theorem dX12_init_53 : decode cX12_init 53 = .ok (.aload_n 0, 1) := by decide +kernel
theorem dX12_init_54 : decode cX12_init 54 = .ok (.bipush 41, 2) := by decide +kernel
theorem dX12_init_56 : decode cX12_init 56 = .ok (.newarray .int, 2) := by decide +kernel
theorem dX12_init_58 : decode cX12_init 58 = .ok (.putfield 28, 3) := by decide +kernel
theorem dX12_init_61 : decode cX12_init 61 = .ok (.aload_n 0, 1) := by decide +kernel
theorem dX12_init_62 : decode cX12_init 62 = .ok (.bipush 41, 2) := by decide +kernel
theorem dX12_init_64 : decode cX12_init 64 = .ok (.newarray .int, 2) := by decide +kernel
theorem dX12_init_66 : decode cX12_init 66 = .ok (.putfield 31, 3) := by decide +kernel
theorem dX12_init_69 : decode cX12_init 69 = .ok (.aload_n 0, 1) := by decide +kernel
theorem dX12_init_70 : decode cX12_init 70 = .ok (.sipush 984, 3) := by decide +kernel
theorem dX12_init_73 : decode cX12_init 73 = .ok (.newarray .int, 2) := by decide +kernel
theorem dX12_init_75 : decode cX12_init 75 = .ok (.putfield 34, 3) := by decide +kernel
theorem dX12_init_78 : decode cX12_init 78 = .ok (.aload_n 0, 1) := by decide +kernel
theorem dX12_init_79 : decode cX12_init 79 = .ok (.bipush 82, 2) := by decide +kernel
theorem dX12_init_81 : decode cX12_init 81 = .ok (.newarray .int, 2) := by decide +kernel
theorem dX12_init_83 : decode cX12_init 83 = .ok (.putfield 37, 3) := by decide +kernel
theorem dX12_init_86 : decode cX12_init 86 = .ok (.aload_n 0, 1) := by decide +kernel
theorem dX12_init_87 : decode cX12_init 87 = .ok (.iconst 2, 1) := by decide +kernel
theorem dX12_init_88 : decode cX12_init 88 = .ok (.newarray .boolean, 2) := by decide +kernel
theorem dX12_init_90 : decode cX12_init 90 = .ok (.putfield 40, 3) := by decide +kernel
theorem dX12_init_93 : decode cX12_init 93 = .ok (.aload_n 0, 1) := by decide +kernel
theorem dX12_init_94 : decode cX12_init 94 = .ok (.bipush 16, 2) := by decide +kernel
theorem dX12_init_96 : decode cX12_init 96 = .ok (.newarray .int, 2) := by decide +kernel
theorem dX12_init_98 : decode cX12_init 98 = .ok (.putfield 44, 3) := by decide +kernel
theorem dX12_init_101 : decode cX12_init 101 = .ok (.iconst 0, 1) := by decide +kernel
theorem dX12_init_102 : decode cX12_init 102 = .ok (.istore_n 1, 1) := by decide +kernel
theorem dX12_init_103 : decode cX12_init 103 = .ok (.iload_n 1, 1) := by decide +kernel
theorem dX12_init_104 : decode cX12_init 104 = .ok (.bipush 8, 2) := by decide +kernel
theorem dX12_init_106 : decode cX12_init 106 = .ok (.if_icmp .ge 17, 3) := by decide +kernel
theorem dX12_init_109 : decode cX12_init 109 = .ok (.aload_n 0, 1) := by decide +kernel
theorem dX12_init_110 : decode cX12_init 110 = .ok (.getfield 7, 3) := by decide +kernel
theorem dX12_init_113 : decode cX12_init 113 = .ok (.iload_n 1, 1) := by decide +kernel
theorem dX12_init_114 : decode cX12_init 114 = .ok (.ldc 47, 2) := by decide +kernel
theorem dX12_init_116 : decode cX12_init 116 = .ok (.iastore, 1) := by decide +kernel
theorem dX12_init_117 : decode cX12_init 117 = .ok (.iinc 1 1, 3) := by decide +kernel
theorem dX12_init_120 : decode cX12_init 120 = .ok (.goto (-17), 3) := by decide +kernel
theorem dX12_init_123 : decode cX12_init 123 = .ok (.return_, 1) := by decide +kernel
theorem dX12_in_0 : decode cX12_in 0 = .ok (.iload_n 0, 1) := by decide +kernel
theorem dX12_in_1 : decode cX12_in 1 = .ok (.iload_n 1, 1) := by decide +kernel
theorem dX12_in_2 : decode cX12_in 2 = .ok (.if_icmp .lt 12, 3) := by decide +kernel
theorem dX12_in_5 : decode cX12_in 5 = .ok (.iload_n 0, 1) := by decide +kernel
theorem dX12_in_6 : decode cX12_in 6 = .ok (.iload_n 2, 1) := by decide +kernel
theorem dX12_in_7 : decode cX12_in 7 = .ok (.if_icmp .gt 7, 3) := by decide +kernel
theorem dX12_in_10 : decode cX12_in 10 = .ok (.iconst 1, 1) := by decide +kernel
theorem dX12_in_11 : decode cX12_in 11 = .ok (.goto 4, 3) := by decide +kernel
theorem dX12_in_14 : decode cX12_in 14 = .ok (.iconst 0, 1) := by decide +kernel
theorem dX12_in_15 : decode cX12_in 15 = .ok (.ireturn, 1) := by decide +kernel
theorem dX12_has_0 : decode cX12_has 0 = .ok (.iload_n 0, 1) := by decide +kernel
theorem dX12_has_1 : decode cX12_has 1 = .ok (.iload_n 1, 1) := by decide +kernel
theorem dX12_has_2 : decode cX12_has 2 = .ok (.ishr, 1) := by decide +kernel
theorem dX12_has_3 : decode cX12_has 3 = .ok (.iconst 1, 1) := by decide +kernel
theorem dX12_has_4 : decode cX12_has 4 = .ok (.iand, 1) := by decide +kernel
theorem dX12_has_5 : decode cX12_has 5 = .ok (.iconst 1, 1) := by decide +kernel
theorem dX12_has_6 : decode cX12_has 6 = .ok (.if_icmp .ne 7, 3) := by decide +kernel
theorem dX12_has_9 : decode cX12_has 9 = .ok (.iconst 1, 1) := by decide +kernel
theorem dX12_has_10 : decode cX12_has 10 = .ok (.goto 4, 3) := by decide +kernel
theorem dX12_has_13 : decode cX12_has 13 = .ok (.iconst 0, 1) := by decide +kernel
theorem dX12_has_14 : decode cX12_has 14 = .ok (.ireturn, 1) := by decide +kernel
theorem dX12_ones_0 : decode cX12_ones 0 = .ok (.iconst 0, 1) := by decide +kernel
theorem dX12_ones_1 : decode cX12_ones 1 = .ok (.istore_n 1, 1) := by decide +kernel
theorem dX12_ones_2 : decode cX12_ones 2 = .ok (.iconst 0, 1) := by decide +kernel
theorem dX12_ones_3 : decode cX12_ones 3 = .ok (.istore_n 2, 1) := by decide +kernel
theorem dX12_ones_4 : decode cX12_ones 4 = .ok (.iload_n 2, 1) := by decide +kernel
theorem dX12_ones_5 : decode cX12_ones 5 = .ok (.bipush 8, 2) := by decide +kernel
theorem dX12_ones_7 : decode cX12_ones 7 = .ok (.if_icmp .ge 17, 3) := by decide +kernel
theorem dX12_ones_10 : decode cX12_ones 10 = .ok (.iload_n 1, 1) := by decide +kernel
theorem dX12_ones_11 : decode cX12_ones 11 = .ok (.iload_n 0, 1) := by decide +kernel
theorem dX12_ones_12 : decode cX12_ones 12 = .ok (.iload_n 2, 1) := by decide +kernel
theorem dX12_ones_13 : decode cX12_ones 13 = .ok (.ishr, 1) := by decide +kernel
theorem dX12_ones_14 : decode cX12_ones 14 = .ok (.iconst 1, 1) := by decide +kernel
theorem dX12_ones_15 : decode cX12_ones 15 = .ok (.iand, 1) := by decide +kernel
theorem dX12_ones_16 : decode cX12_ones 16 = .ok (.iadd, 1) := by decide +kernel
theorem dX12_ones_17 : decode cX12_ones 17 = .ok (.istore_n 1, 1) := by decide +kernel
theorem dX12_ones_18 : decode cX12_ones 18 = .ok (.iinc 2 1, 3) := by decide +kernel
theorem dX12_ones_21 : decode cX12_ones 21 = .ok (.goto (-17), 3) := by decide +kernel
theorem dX12_ones_24 : decode cX12_ones 24 = .ok (.iload_n 1, 1) := by decide +kernel
theorem dX12_ones_25 : decode cX12_ones 25 = .ok (.ireturn, 1) := by decide +kernel
theorem dX12_found_0 : decode cX12_found 0 = .ok (.aload_n 0, 1) := by decide +kernel
theorem dX12_found_1 : decode cX12_found 1 = .ok (.iload_n 1, 1) := by decide +kernel
theorem dX12_found_2 : decode cX12_found 2 = .ok (.putfield 48, 3) := by decide +kernel
theorem dX12_found_5 : decode cX12_found 5 = .ok (.ldc 52, 2) := by decide +kernel
theorem dX12_found_7 : decode cX12_found 7 = .ok (.iload_n 1, 1) := by decide +kernel
theorem dX12_found_8 : decode cX12_found 8 = .ok (.isub, 1) := by decide +kernel
theorem dX12_found_9 : decode cX12_found 9 = .ok (.ireturn, 1) := by decide +kernel
theorem dX12_well_0 : decode cX12_well 0 = .ok (.aload_n 0, 1) := by decide +kernel
theorem dX12_well_1 : decode cX12_well 1 = .ok (.iconst 0, 1) := by decide +kernel
theorem dX12_well_2 : decode cX12_well 2 = .ok (.putfield 48, 3) := by decide +kernel
theorem dX12_well_5 : decode cX12_well 5 = .ok (.iload_n 1, 1) := by decide +kernel
theorem dX12_well_6 : decode cX12_well 6 = .ok (.ireturn, 1) := by decide +kernel
theorem dX12_copies_0 : decode cX12_copies 0 = .ok (.iconst 0, 1) := by decide +kernel
theorem dX12_copies_1 : decode cX12_copies 1 = .ok (.istore 4, 2) := by decide +kernel
theorem dX12_copies_3 : decode cX12_copies 3 = .ok (.iload 4, 2) := by decide +kernel
theorem dX12_copies_5 : decode cX12_copies 5 = .ok (.bipush 41, 2) := by decide +kernel
theorem dX12_copies_7 : decode cX12_copies 7 = .ok (.if_icmp .ge 21, 3) := by decide +kernel
theorem dX12_copies_10 : decode cX12_copies 10 = .ok (.aload_n 2, 1) := by decide +kernel
theorem dX12_copies_11 : decode cX12_copies 11 = .ok (.iload_n 3, 1) := by decide +kernel
theorem dX12_copies_12 : decode cX12_copies 12 = .ok (.iload 4, 2) := by decide +kernel
theorem dX12_copies_14 : decode cX12_copies 14 = .ok (.iadd, 1) := by decide +kernel
theorem dX12_copies_15 : decode cX12_copies 15 = .ok (.aload_n 0, 1) := by decide +kernel
theorem dX12_copies_16 : decode cX12_copies 16 = .ok (.iload_n 1, 1) := by decide +kernel
theorem dX12_copies_17 : decode cX12_copies 17 = .ok (.iload 4, 2) := by decide +kernel
theorem dX12_copies_19 : decode cX12_copies 19 = .ok (.iadd, 1) := by decide +kernel
theorem dX12_copies_20 : decode cX12_copies 20 = .ok (.iaload, 1) := by decide +kernel
theorem dX12_copies_21 : decode cX12_copies 21 = .ok (.iastore, 1) := by decide +kernel
theorem dX12_copies_22 : decode cX12_copies 22 = .ok (.iinc 4 1, 3) := by decide +kernel
theorem dX12_copies_25 : decode cX12_copies 25 = .ok (.goto (-22), 3) := by decide +kernel
theorem dX12_copies_28 : decode cX12_copies 28 = .ok (.return_, 1) := by decide +kernel
theorem dX12_isRow_0 : decode cX12_isRow 0 = .ok (.iload_n 0, 1) := by decide +kernel
theorem dX12_isRow_1 : decode cX12_isRow 1 = .ok (.iconst 0, 1) := by decide +kernel
theorem dX12_isRow_2 : decode cX12_isRow 2 = .ok (.bipush 7, 2) := by decide +kernel
theorem dX12_isRow_4 : decode cX12_isRow 4 = .ok (.invokestatic 53, 3) := by decide +kernel
theorem dX12_isRow_7 : decode cX12_isRow 7 = .ok (.ireturn, 1) := by decide +kernel
theorem dX12_isMissing_0 : decode cX12_isMissing 0 = .ok (.aload_n 0, 1) := by decide +kernel
theorem dX12_isMissing_1 : decode cX12_isMissing 1 = .ok (.getfield 7, 3) := by decide +kernel
theorem dX12_isMissing_4 : decode cX12_isMissing 4 = .ok (.iload_n 1, 1) := by decide +kernel
theorem dX12_isMissing_5 : decode cX12_isMissing 5 = .ok (.iaload, 1) := by decide +kernel
theorem dX12_isMissing_6 : decode cX12_isMissing 6 = .ok (.ldc 47, 2) := by decide +kernel
theorem dX12_isMissing_8 : decode cX12_isMissing 8 = .ok (.if_icmp .ne 7, 3) := by decide +kernel
theorem dX12_isMissing_11 : decode cX12_isMissing 11 = .ok (.iconst 1, 1) := by decide +kernel
theorem dX12_isMissing_12 : decode cX12_isMissing 12 = .ok (.goto 4, 3) := by decide +kernel
theorem dX12_isMissing_15 : decode cX12_isMissing 15 = .ok (.iconst 0, 1) := by decide +kernel
theorem dX12_isMissing_16 : decode cX12_isMissing 16 = .ok (.ireturn, 1) := by decide +kernel
theorem dX12_cut_0 : decode cX12_cut 0 = .ok (.iload_n 0, 1) := by decide +kernel
theorem dX12_cut_1 : decode cX12_cut 1 = .ok (.ifCond .ne 13, 3) := by decide +kernel
theorem dX12_cut_4 : decode cX12_cut 4 = .ok (.iload_n 1, 1) := by decide +kernel
theorem dX12_cut_5 : decode cX12_cut 5 = .ok (.bipush 24, 2) := by decide +kernel
theorem dX12_cut_7 : decode cX12_cut 7 = .ok (.ishl, 1) := by decide +kernel
theorem dX12_cut_8 : decode cX12_cut 8 = .ok (.bipush 24, 2) := by decide +kernel
theorem dX12_cut_10 : decode cX12_cut 10 = .ok (.ishr, 1) := by decide +kernel
theorem dX12_cut_11 : decode cX12_cut 11 = .ok (.goto 19, 3) := by decide +kernel
theorem dX12_cut_14 : decode cX12_cut 14 = .ok (.iload_n 0, 1) := by decide +kernel
theorem dX12_cut_15 : decode cX12_cut 15 = .ok (.iconst 1, 1) := by decide +kernel
theorem dX12_cut_16 : decode cX12_cut 16 = .ok (.if_icmp .ne 13, 3) := by decide +kernel
theorem dX12_cut_19 : decode cX12_cut 19 = .ok (.iload_n 1, 1) := by decide +kernel
theorem dX12_cut_20 : decode cX12_cut 20 = .ok (.bipush 16, 2) := by decide +kernel
theorem dX12_cut_22 : decode cX12_cut 22 = .ok (.ishl, 1) := by decide +kernel
theorem dX12_cut_23 : decode cX12_cut 23 = .ok (.bipush 16, 2) := by decide +kernel
theorem dX12_cut_25 : decode cX12_cut 25 = .ok (.ishr, 1) := by decide +kernel
theorem dX12_cut_26 : decode cX12_cut 26 = .ok (.goto 4, 3) := by decide +kernel
theorem dX12_cut_29 : decode cX12_cut 29 = .ok (.iload_n 1, 1) := by decide +kernel
theorem dX12_cut_30 : decode cX12_cut 30 = .ok (.ireturn, 1) := by decide +kernel
theorem dX12_row_0 : decode cX12_row 0 = .ok (.iload_n 1, 1) := by decide +kernel
theorem dX12_row_1 : decode cX12_row 1 = .ok (.invokestatic 57, 3) := by decide +kernel
theorem dX12_row_4 : decode cX12_row 4 = .ok (.ifCond .eq 18, 3) := by decide +kernel
theorem dX12_row_7 : decode cX12_row 7 = .ok (.iload_n 2, 1) := by decide +kernel
theorem dX12_row_8 : decode cX12_row 8 = .ok (.iconst 0, 1) := by decide +kernel
theorem dX12_row_9 : decode cX12_row 9 = .ok (.iconst 2, 1) := by decide +kernel
theorem dX12_row_10 : decode cX12_row 10 = .ok (.invokestatic 53, 3) := by decide +kernel
theorem dX12_row_13 : decode cX12_row 13 = .ok (.ifCond .eq 9, 3) := by decide +kernel
theorem dX12_row_16 : decode cX12_row 16 = .ok (.iload_n 3, 1) := by decide +kernel
theorem dX12_row_17 : decode cX12_row 17 = .ok (.bipush 40, 2) := by decide +kernel
theorem dX12_row_19 : decode cX12_row 19 = .ok (.if_icmp .le 6, 3) := by decide +kernel
theorem dX12_row_22 : decode cX12_row 22 = .ok (.ldc 61, 2) := by decide +kernel
theorem dX12_row_24 : decode cX12_row 24 = .ok (.ireturn, 1) := by decide +kernel
theorem dX12_row_25 : decode cX12_row 25 = .ok (.iload_n 3, 1) := by decide +kernel
theorem dX12_row_26 : decode cX12_row 26 = .ok (.ifCond .ge 9, 3) := by decide +kernel
theorem dX12_row_29 : decode cX12_row 29 = .ok (.aload_n 0, 1) := by decide +kernel
theorem dX12_row_30 : decode cX12_row 30 = .ok (.iconst 4, 1) := by decide +kernel
theorem dX12_row_31 : decode cX12_row 31 = .ok (.invokevirtual 62, 3) := by decide +kernel
theorem dX12_row_34 : decode cX12_row 34 = .ok (.ireturn, 1) := by decide +kernel
theorem dX12_row_35 : decode cX12_row 35 = .ok (.aload_n 0, 1) := by decide +kernel
theorem dX12_row_36 : decode cX12_row 36 = .ok (.getfield 7, 3) := by decide +kernel
theorem dX12_row_39 : decode cX12_row 39 = .ok (.iload_n 1, 1) := by decide +kernel
theorem dX12_row_40 : decode cX12_row 40 = .ok (.iload_n 2, 1) := by decide +kernel
theorem dX12_row_41 : decode cX12_row 41 = .ok (.iastore, 1) := by decide +kernel
theorem dX12_row_42 : decode cX12_row 42 = .ok (.aload_n 0, 1) := by decide +kernel
theorem dX12_row_43 : decode cX12_row 43 = .ok (.getfield 13, 3) := by decide +kernel
theorem dX12_row_46 : decode cX12_row 46 = .ok (.iload_n 1, 1) := by decide +kernel
theorem dX12_row_47 : decode cX12_row 47 = .ok (.iload_n 3, 1) := by decide +kernel
theorem dX12_row_48 : decode cX12_row 48 = .ok (.iastore, 1) := by decide +kernel
theorem dX12_row_49 : decode cX12_row 49 = .ok (.iconst 0, 1) := by decide +kernel
theorem dX12_row_50 : decode cX12_row 50 = .ok (.istore 4, 2) := by decide +kernel
theorem dX12_row_52 : decode cX12_row 52 = .ok (.iload 4, 2) := by decide +kernel
theorem dX12_row_54 : decode cX12_row 54 = .ok (.bipush 40, 2) := by decide +kernel
theorem dX12_row_56 : decode cX12_row 56 = .ok (.if_icmp .ge 22, 3) := by decide +kernel
theorem dX12_row_59 : decode cX12_row 59 = .ok (.aload_n 0, 1) := by decide +kernel
theorem dX12_row_60 : decode cX12_row 60 = .ok (.getfield 16, 3) := by decide +kernel
theorem dX12_row_63 : decode cX12_row 63 = .ok (.bipush 40, 2) := by decide +kernel
theorem dX12_row_65 : decode cX12_row 65 = .ok (.iload_n 1, 1) := by decide +kernel
theorem dX12_row_66 : decode cX12_row 66 = .ok (.imul, 1) := by decide +kernel
theorem dX12_row_67 : decode cX12_row 67 = .ok (.iload 4, 2) := by decide +kernel
theorem dX12_row_69 : decode cX12_row 69 = .ok (.iadd, 1) := by decide +kernel
theorem dX12_row_70 : decode cX12_row 70 = .ok (.iconst 0, 1) := by decide +kernel
theorem dX12_row_71 : decode cX12_row 71 = .ok (.iastore, 1) := by decide +kernel
theorem dX12_row_72 : decode cX12_row 72 = .ok (.iinc 4 1, 3) := by decide +kernel
theorem dX12_row_75 : decode cX12_row 75 = .ok (.goto (-23), 3) := by decide +kernel
theorem dX12_row_78 : decode cX12_row 78 = .ok (.aload_n 0, 1) := by decide +kernel
theorem dX12_row_79 : decode cX12_row 79 = .ok (.iload_n 3, 1) := by decide +kernel
theorem dX12_row_80 : decode cX12_row 80 = .ok (.invokevirtual 66, 3) := by decide +kernel
theorem dX12_row_83 : decode cX12_row 83 = .ok (.ireturn, 1) := by decide +kernel
theorem dX12_set_0 : decode cX12_set 0 = .ok (.iload_n 1, 1) := by decide +kernel
theorem dX12_set_1 : decode cX12_set 1 = .ok (.invokestatic 57, 3) := by decide +kernel
theorem dX12_set_4 : decode cX12_set 4 = .ok (.ifCond .ne 6, 3) := by decide +kernel
theorem dX12_set_7 : decode cX12_set 7 = .ok (.ldc 61, 2) := by decide +kernel
theorem dX12_set_9 : decode cX12_set 9 = .ok (.ireturn, 1) := by decide +kernel
theorem dX12_set_10 : decode cX12_set 10 = .ok (.aload_n 0, 1) := by decide +kernel
theorem dX12_set_11 : decode cX12_set 11 = .ok (.iload_n 1, 1) := by decide +kernel
theorem dX12_set_12 : decode cX12_set 12 = .ok (.invokevirtual 69, 3) := by decide +kernel
theorem dX12_set_15 : decode cX12_set 15 = .ok (.ifCond .eq 9, 3) := by decide +kernel
theorem dX12_set_18 : decode cX12_set 18 = .ok (.aload_n 0, 1) := by decide +kernel
theorem dX12_set_19 : decode cX12_set 19 = .ok (.iconst 1, 1) := by decide +kernel
theorem dX12_set_20 : decode cX12_set 20 = .ok (.invokevirtual 62, 3) := by decide +kernel
theorem dX12_set_23 : decode cX12_set 23 = .ok (.ireturn, 1) := by decide +kernel
theorem dX12_set_24 : decode cX12_set 24 = .ok (.iload_n 2, 1) := by decide +kernel
theorem dX12_set_25 : decode cX12_set 25 = .ok (.iconst 0, 1) := by decide +kernel
theorem dX12_set_26 : decode cX12_set 26 = .ok (.aload_n 0, 1) := by decide +kernel
theorem dX12_set_27 : decode cX12_set 27 = .ok (.getfield 13, 3) := by decide +kernel
theorem dX12_set_30 : decode cX12_set 30 = .ok (.iload_n 1, 1) := by decide +kernel
theorem dX12_set_31 : decode cX12_set 31 = .ok (.iaload, 1) := by decide +kernel
theorem dX12_set_32 : decode cX12_set 32 = .ok (.iconst 1, 1) := by decide +kernel
theorem dX12_set_33 : decode cX12_set 33 = .ok (.isub, 1) := by decide +kernel
theorem dX12_set_34 : decode cX12_set 34 = .ok (.invokestatic 53, 3) := by decide +kernel
theorem dX12_set_37 : decode cX12_set 37 = .ok (.ifCond .ne 9, 3) := by decide +kernel
theorem dX12_set_40 : decode cX12_set 40 = .ok (.aload_n 0, 1) := by decide +kernel
theorem dX12_set_41 : decode cX12_set 41 = .ok (.iconst 2, 1) := by decide +kernel
theorem dX12_set_42 : decode cX12_set 42 = .ok (.invokevirtual 62, 3) := by decide +kernel
theorem dX12_set_45 : decode cX12_set 45 = .ok (.ireturn, 1) := by decide +kernel
theorem dX12_set_46 : decode cX12_set 46 = .ok (.aload_n 0, 1) := by decide +kernel
theorem dX12_set_47 : decode cX12_set 47 = .ok (.getfield 16, 3) := by decide +kernel
theorem dX12_set_50 : decode cX12_set 50 = .ok (.bipush 40, 2) := by decide +kernel
theorem dX12_set_52 : decode cX12_set 52 = .ok (.iload_n 1, 1) := by decide +kernel
theorem dX12_set_53 : decode cX12_set 53 = .ok (.imul, 1) := by decide +kernel
theorem dX12_set_54 : decode cX12_set 54 = .ok (.iload_n 2, 1) := by decide +kernel
theorem dX12_set_55 : decode cX12_set 55 = .ok (.iadd, 1) := by decide +kernel
theorem dX12_set_56 : decode cX12_set 56 = .ok (.aload_n 0, 1) := by decide +kernel
theorem dX12_set_57 : decode cX12_set 57 = .ok (.getfield 7, 3) := by decide +kernel
theorem dX12_set_60 : decode cX12_set 60 = .ok (.iload_n 1, 1) := by decide +kernel
theorem dX12_set_61 : decode cX12_set 61 = .ok (.iaload, 1) := by decide +kernel
theorem dX12_set_62 : decode cX12_set 62 = .ok (.iload_n 3, 1) := by decide +kernel
theorem dX12_set_63 : decode cX12_set 63 = .ok (.invokestatic 72, 3) := by decide +kernel
theorem dX12_set_66 : decode cX12_set 66 = .ok (.iastore, 1) := by decide +kernel
theorem dX12_set_67 : decode cX12_set 67 = .ok (.aload_n 0, 1) := by decide +kernel
theorem dX12_set_68 : decode cX12_set 68 = .ok (.aload_n 0, 1) := by decide +kernel
theorem dX12_set_69 : decode cX12_set 69 = .ok (.getfield 16, 3) := by decide +kernel
theorem dX12_set_72 : decode cX12_set 72 = .ok (.bipush 40, 2) := by decide +kernel
theorem dX12_set_74 : decode cX12_set 74 = .ok (.iload_n 1, 1) := by decide +kernel
theorem dX12_set_75 : decode cX12_set 75 = .ok (.imul, 1) := by decide +kernel
theorem dX12_set_76 : decode cX12_set 76 = .ok (.iload_n 2, 1) := by decide +kernel
theorem dX12_set_77 : decode cX12_set 77 = .ok (.iadd, 1) := by decide +kernel
theorem dX12_set_78 : decode cX12_set 78 = .ok (.iaload, 1) := by decide +kernel
theorem dX12_set_79 : decode cX12_set 79 = .ok (.invokevirtual 66, 3) := by decide +kernel
theorem dX12_set_82 : decode cX12_set 82 = .ok (.ireturn, 1) := by decide +kernel
theorem dX12_isPart_0 : decode cX12_isPart 0 = .ok (.iload_n 2, 1) := by decide +kernel
theorem dX12_isPart_1 : decode cX12_isPart 1 = .ok (.ifCond .lt 33, 3) := by decide +kernel
theorem dX12_isPart_4 : decode cX12_isPart 4 = .ok (.iload_n 3, 1) := by decide +kernel
theorem dX12_isPart_5 : decode cX12_isPart 5 = .ok (.ifCond .lt 29, 3) := by decide +kernel
theorem dX12_isPart_8 : decode cX12_isPart 8 = .ok (.iload_n 2, 1) := by decide +kernel
theorem dX12_isPart_9 : decode cX12_isPart 9 = .ok (.aload_n 0, 1) := by decide +kernel
theorem dX12_isPart_10 : decode cX12_isPart 10 = .ok (.getfield 13, 3) := by decide +kernel
theorem dX12_isPart_13 : decode cX12_isPart 13 = .ok (.iload_n 1, 1) := by decide +kernel
theorem dX12_isPart_14 : decode cX12_isPart 14 = .ok (.iaload, 1) := by decide +kernel
theorem dX12_isPart_15 : decode cX12_isPart 15 = .ok (.if_icmp .gt 19, 3) := by decide +kernel
theorem dX12_isPart_18 : decode cX12_isPart 18 = .ok (.iload_n 3, 1) := by decide +kernel
theorem dX12_isPart_19 : decode cX12_isPart 19 = .ok (.aload_n 0, 1) := by decide +kernel
theorem dX12_isPart_20 : decode cX12_isPart 20 = .ok (.getfield 13, 3) := by decide +kernel
theorem dX12_isPart_23 : decode cX12_isPart 23 = .ok (.iload_n 1, 1) := by decide +kernel
theorem dX12_isPart_24 : decode cX12_isPart 24 = .ok (.iaload, 1) := by decide +kernel
theorem dX12_isPart_25 : decode cX12_isPart 25 = .ok (.iload_n 2, 1) := by decide +kernel
theorem dX12_isPart_26 : decode cX12_isPart 26 = .ok (.isub, 1) := by decide +kernel
theorem dX12_isPart_27 : decode cX12_isPart 27 = .ok (.if_icmp .gt 7, 3) := by decide +kernel
theorem dX12_isPart_30 : decode cX12_isPart 30 = .ok (.iconst 1, 1) := by decide +kernel
theorem dX12_isPart_31 : decode cX12_isPart 31 = .ok (.goto 4, 3) := by decide +kernel
theorem dX12_isPart_34 : decode cX12_isPart 34 = .ok (.iconst 0, 1) := by decide +kernel
theorem dX12_isPart_35 : decode cX12_isPart 35 = .ok (.ireturn, 1) := by decide +kernel
theorem dX12_copy_0 : decode cX12_copy 0 = .ok (.iload_n 1, 1) := by decide +kernel
theorem dX12_copy_1 : decode cX12_copy 1 = .ok (.invokestatic 57, 3) := by decide +kernel
theorem dX12_copy_4 : decode cX12_copy 4 = .ok (.ifCond .eq 10, 3) := by decide +kernel
theorem dX12_copy_7 : decode cX12_copy 7 = .ok (.iload_n 3, 1) := by decide +kernel
theorem dX12_copy_8 : decode cX12_copy 8 = .ok (.invokestatic 57, 3) := by decide +kernel
theorem dX12_copy_11 : decode cX12_copy 11 = .ok (.ifCond .ne 6, 3) := by decide +kernel
theorem dX12_copy_14 : decode cX12_copy 14 = .ok (.ldc 61, 2) := by decide +kernel
theorem dX12_copy_16 : decode cX12_copy 16 = .ok (.ireturn, 1) := by decide +kernel
theorem dX12_copy_17 : decode cX12_copy 17 = .ok (.aload_n 0, 1) := by decide +kernel
theorem dX12_copy_18 : decode cX12_copy 18 = .ok (.iload_n 1, 1) := by decide +kernel
theorem dX12_copy_19 : decode cX12_copy 19 = .ok (.invokevirtual 69, 3) := by decide +kernel
theorem dX12_copy_22 : decode cX12_copy 22 = .ok (.ifCond .ne 11, 3) := by decide +kernel
theorem dX12_copy_25 : decode cX12_copy 25 = .ok (.aload_n 0, 1) := by decide +kernel
theorem dX12_copy_26 : decode cX12_copy 26 = .ok (.iload_n 3, 1) := by decide +kernel
theorem dX12_copy_27 : decode cX12_copy 27 = .ok (.invokevirtual 69, 3) := by decide +kernel
theorem dX12_copy_30 : decode cX12_copy 30 = .ok (.ifCond .eq 9, 3) := by decide +kernel
theorem dX12_copy_33 : decode cX12_copy 33 = .ok (.aload_n 0, 1) := by decide +kernel
theorem dX12_copy_34 : decode cX12_copy 34 = .ok (.iconst 1, 1) := by decide +kernel
theorem dX12_copy_35 : decode cX12_copy 35 = .ok (.invokevirtual 62, 3) := by decide +kernel
theorem dX12_copy_38 : decode cX12_copy 38 = .ok (.ireturn, 1) := by decide +kernel
theorem dX12_copy_39 : decode cX12_copy 39 = .ok (.aload_n 0, 1) := by decide +kernel
theorem dX12_copy_40 : decode cX12_copy 40 = .ok (.getfield 7, 3) := by decide +kernel
theorem dX12_copy_43 : decode cX12_copy 43 = .ok (.iload_n 1, 1) := by decide +kernel
theorem dX12_copy_44 : decode cX12_copy 44 = .ok (.iaload, 1) := by decide +kernel
theorem dX12_copy_45 : decode cX12_copy 45 = .ok (.aload_n 0, 1) := by decide +kernel
theorem dX12_copy_46 : decode cX12_copy 46 = .ok (.getfield 7, 3) := by decide +kernel
theorem dX12_copy_49 : decode cX12_copy 49 = .ok (.iload_n 3, 1) := by decide +kernel
theorem dX12_copy_50 : decode cX12_copy 50 = .ok (.iaload, 1) := by decide +kernel
theorem dX12_copy_51 : decode cX12_copy 51 = .ok (.if_icmp .eq 9, 3) := by decide +kernel
theorem dX12_copy_54 : decode cX12_copy 54 = .ok (.aload_n 0, 1) := by decide +kernel
theorem dX12_copy_55 : decode cX12_copy 55 = .ok (.iconst 5, 1) := by decide +kernel
theorem dX12_copy_56 : decode cX12_copy 56 = .ok (.invokevirtual 62, 3) := by decide +kernel
theorem dX12_copy_59 : decode cX12_copy 59 = .ok (.ireturn, 1) := by decide +kernel
theorem dX12_copy_60 : decode cX12_copy 60 = .ok (.aload_n 0, 1) := by decide +kernel
theorem dX12_copy_61 : decode cX12_copy 61 = .ok (.iload_n 1, 1) := by decide +kernel
theorem dX12_copy_62 : decode cX12_copy 62 = .ok (.iload_n 2, 1) := by decide +kernel
theorem dX12_copy_63 : decode cX12_copy 63 = .ok (.iload 5, 2) := by decide +kernel
theorem dX12_copy_65 : decode cX12_copy 65 = .ok (.invokevirtual 76, 3) := by decide +kernel
theorem dX12_copy_68 : decode cX12_copy 68 = .ok (.ifCond .eq 15, 3) := by decide +kernel
theorem dX12_copy_71 : decode cX12_copy 71 = .ok (.aload_n 0, 1) := by decide +kernel
theorem dX12_copy_72 : decode cX12_copy 72 = .ok (.iload_n 3, 1) := by decide +kernel
theorem dX12_copy_73 : decode cX12_copy 73 = .ok (.iload 4, 2) := by decide +kernel
theorem dX12_copy_75 : decode cX12_copy 75 = .ok (.iload 5, 2) := by decide +kernel
theorem dX12_copy_77 : decode cX12_copy 77 = .ok (.invokevirtual 76, 3) := by decide +kernel
theorem dX12_copy_80 : decode cX12_copy 80 = .ok (.ifCond .ne 9, 3) := by decide +kernel
theorem dX12_copy_83 : decode cX12_copy 83 = .ok (.aload_n 0, 1) := by decide +kernel
theorem dX12_copy_84 : decode cX12_copy 84 = .ok (.iconst 2, 1) := by decide +kernel
theorem dX12_copy_85 : decode cX12_copy 85 = .ok (.invokevirtual 62, 3) := by decide +kernel
theorem dX12_copy_88 : decode cX12_copy 88 = .ok (.ireturn, 1) := by decide +kernel
theorem dX12_copy_89 : decode cX12_copy 89 = .ok (.iconst 0, 1) := by decide +kernel
theorem dX12_copy_90 : decode cX12_copy 90 = .ok (.istore 6, 2) := by decide +kernel
theorem dX12_copy_92 : decode cX12_copy 92 = .ok (.iload 6, 2) := by decide +kernel
theorem dX12_copy_94 : decode cX12_copy 94 = .ok (.iload 5, 2) := by decide +kernel
theorem dX12_copy_96 : decode cX12_copy 96 = .ok (.if_icmp .ge 30, 3) := by decide +kernel
theorem dX12_copy_99 : decode cX12_copy 99 = .ok (.aload_n 0, 1) := by decide +kernel
theorem dX12_copy_100 : decode cX12_copy 100 = .ok (.getfield 19, 3) := by decide +kernel
theorem dX12_copy_103 : decode cX12_copy 103 = .ok (.iload 6, 2) := by decide +kernel
theorem dX12_copy_105 : decode cX12_copy 105 = .ok (.aload_n 0, 1) := by decide +kernel
theorem dX12_copy_106 : decode cX12_copy 106 = .ok (.getfield 16, 3) := by decide +kernel
theorem dX12_copy_109 : decode cX12_copy 109 = .ok (.bipush 40, 2) := by decide +kernel
theorem dX12_copy_111 : decode cX12_copy 111 = .ok (.iload_n 1, 1) := by decide +kernel
theorem dX12_copy_112 : decode cX12_copy 112 = .ok (.imul, 1) := by decide +kernel
theorem dX12_copy_113 : decode cX12_copy 113 = .ok (.iload_n 2, 1) := by decide +kernel
theorem dX12_copy_114 : decode cX12_copy 114 = .ok (.iadd, 1) := by decide +kernel
theorem dX12_copy_115 : decode cX12_copy 115 = .ok (.iload 6, 2) := by decide +kernel
theorem dX12_copy_117 : decode cX12_copy 117 = .ok (.iadd, 1) := by decide +kernel
theorem dX12_copy_118 : decode cX12_copy 118 = .ok (.iaload, 1) := by decide +kernel
theorem dX12_copy_119 : decode cX12_copy 119 = .ok (.iastore, 1) := by decide +kernel
theorem dX12_copy_120 : decode cX12_copy 120 = .ok (.iinc 6 1, 3) := by decide +kernel
theorem dX12_copy_123 : decode cX12_copy 123 = .ok (.goto (-31), 3) := by decide +kernel
theorem dX12_copy_126 : decode cX12_copy 126 = .ok (.iconst 0, 1) := by decide +kernel
theorem dX12_copy_127 : decode cX12_copy 127 = .ok (.istore 6, 2) := by decide +kernel
theorem dX12_copy_129 : decode cX12_copy 129 = .ok (.iload 6, 2) := by decide +kernel
theorem dX12_copy_131 : decode cX12_copy 131 = .ok (.iload 5, 2) := by decide +kernel
theorem dX12_copy_133 : decode cX12_copy 133 = .ok (.if_icmp .ge 31, 3) := by decide +kernel
theorem dX12_copy_136 : decode cX12_copy 136 = .ok (.aload_n 0, 1) := by decide +kernel
theorem dX12_copy_137 : decode cX12_copy 137 = .ok (.getfield 16, 3) := by decide +kernel
theorem dX12_copy_140 : decode cX12_copy 140 = .ok (.bipush 40, 2) := by decide +kernel
theorem dX12_copy_142 : decode cX12_copy 142 = .ok (.iload_n 3, 1) := by decide +kernel
theorem dX12_copy_143 : decode cX12_copy 143 = .ok (.imul, 1) := by decide +kernel
theorem dX12_copy_144 : decode cX12_copy 144 = .ok (.iload 4, 2) := by decide +kernel
theorem dX12_copy_146 : decode cX12_copy 146 = .ok (.iadd, 1) := by decide +kernel
theorem dX12_copy_147 : decode cX12_copy 147 = .ok (.iload 6, 2) := by decide +kernel
theorem dX12_copy_149 : decode cX12_copy 149 = .ok (.iadd, 1) := by decide +kernel
theorem dX12_copy_150 : decode cX12_copy 150 = .ok (.aload_n 0, 1) := by decide +kernel
theorem dX12_copy_151 : decode cX12_copy 151 = .ok (.getfield 19, 3) := by decide +kernel
theorem dX12_copy_154 : decode cX12_copy 154 = .ok (.iload 6, 2) := by decide +kernel
theorem dX12_copy_156 : decode cX12_copy 156 = .ok (.iaload, 1) := by decide +kernel
theorem dX12_copy_157 : decode cX12_copy 157 = .ok (.iastore, 1) := by decide +kernel
theorem dX12_copy_158 : decode cX12_copy 158 = .ok (.iinc 6 1, 3) := by decide +kernel
theorem dX12_copy_161 : decode cX12_copy 161 = .ok (.goto (-32), 3) := by decide +kernel
theorem dX12_copy_164 : decode cX12_copy 164 = .ok (.aload_n 0, 1) := by decide +kernel
theorem dX12_copy_165 : decode cX12_copy 165 = .ok (.iload 5, 2) := by decide +kernel
theorem dX12_copy_167 : decode cX12_copy 167 = .ok (.invokevirtual 66, 3) := by decide +kernel
theorem dX12_copy_170 : decode cX12_copy 170 = .ok (.ireturn, 1) := by decide +kernel
theorem dX12_drop_0 : decode cX12_drop 0 = .ok (.iload_n 1, 1) := by decide +kernel
theorem dX12_drop_1 : decode cX12_drop 1 = .ok (.invokestatic 57, 3) := by decide +kernel
theorem dX12_drop_4 : decode cX12_drop 4 = .ok (.ifCond .ne 6, 3) := by decide +kernel
theorem dX12_drop_7 : decode cX12_drop 7 = .ok (.ldc 61, 2) := by decide +kernel
theorem dX12_drop_9 : decode cX12_drop 9 = .ok (.ireturn, 1) := by decide +kernel
theorem dX12_drop_10 : decode cX12_drop 10 = .ok (.aload_n 0, 1) := by decide +kernel
theorem dX12_drop_11 : decode cX12_drop 11 = .ok (.iload_n 1, 1) := by decide +kernel
theorem dX12_drop_12 : decode cX12_drop 12 = .ok (.invokevirtual 69, 3) := by decide +kernel
theorem dX12_drop_15 : decode cX12_drop 15 = .ok (.ifCond .eq 9, 3) := by decide +kernel
theorem dX12_drop_18 : decode cX12_drop 18 = .ok (.aload_n 0, 1) := by decide +kernel
theorem dX12_drop_19 : decode cX12_drop 19 = .ok (.iconst 1, 1) := by decide +kernel
theorem dX12_drop_20 : decode cX12_drop 20 = .ok (.invokevirtual 62, 3) := by decide +kernel
theorem dX12_drop_23 : decode cX12_drop 23 = .ok (.ireturn, 1) := by decide +kernel
theorem dX12_drop_24 : decode cX12_drop 24 = .ok (.aload_n 0, 1) := by decide +kernel
theorem dX12_drop_25 : decode cX12_drop 25 = .ok (.getfield 7, 3) := by decide +kernel
theorem dX12_drop_28 : decode cX12_drop 28 = .ok (.iload_n 1, 1) := by decide +kernel
theorem dX12_drop_29 : decode cX12_drop 29 = .ok (.ldc 47, 2) := by decide +kernel
theorem dX12_drop_31 : decode cX12_drop 31 = .ok (.iastore, 1) := by decide +kernel
theorem dX12_drop_32 : decode cX12_drop 32 = .ok (.aload_n 0, 1) := by decide +kernel
theorem dX12_drop_33 : decode cX12_drop 33 = .ok (.aload_n 0, 1) := by decide +kernel
theorem dX12_drop_34 : decode cX12_drop 34 = .ok (.getfield 13, 3) := by decide +kernel
theorem dX12_drop_37 : decode cX12_drop 37 = .ok (.iload_n 1, 1) := by decide +kernel
theorem dX12_drop_38 : decode cX12_drop 38 = .ok (.iaload, 1) := by decide +kernel
theorem dX12_drop_39 : decode cX12_drop 39 = .ok (.invokevirtual 66, 3) := by decide +kernel
theorem dX12_drop_42 : decode cX12_drop 42 = .ok (.ireturn, 1) := by decide +kernel
theorem dX12_feed_0 : decode cX12_feed 0 = .ok (.iload_n 1, 1) := by decide +kernel
theorem dX12_feed_1 : decode cX12_feed 1 = .ok (.iconst 0, 1) := by decide +kernel
theorem dX12_feed_2 : decode cX12_feed 2 = .ok (.sipush 255, 3) := by decide +kernel
theorem dX12_feed_5 : decode cX12_feed 5 = .ok (.invokestatic 53, 3) := by decide +kernel
theorem dX12_feed_8 : decode cX12_feed 8 = .ok (.ifCond .ne 6, 3) := by decide +kernel
theorem dX12_feed_11 : decode cX12_feed 11 = .ok (.ldc 61, 2) := by decide +kernel
theorem dX12_feed_13 : decode cX12_feed 13 = .ok (.ireturn, 1) := by decide +kernel
theorem dX12_feed_14 : decode cX12_feed 14 = .ok (.aload_n 0, 1) := by decide +kernel
theorem dX12_feed_15 : decode cX12_feed 15 = .ok (.getfield 79, 3) := by decide +kernel
theorem dX12_feed_18 : decode cX12_feed 18 = .ok (.bipush 120, 2) := by decide +kernel
theorem dX12_feed_20 : decode cX12_feed 20 = .ok (.if_icmp .ne 6, 3) := by decide +kernel
theorem dX12_feed_23 : decode cX12_feed 23 = .ok (.ldc 82, 2) := by decide +kernel
theorem dX12_feed_25 : decode cX12_feed 25 = .ok (.ireturn, 1) := by decide +kernel
theorem dX12_feed_26 : decode cX12_feed 26 = .ok (.aload_n 0, 1) := by decide +kernel
theorem dX12_feed_27 : decode cX12_feed 27 = .ok (.getfield 22, 3) := by decide +kernel
theorem dX12_feed_30 : decode cX12_feed 30 = .ok (.aload_n 0, 1) := by decide +kernel
theorem dX12_feed_31 : decode cX12_feed 31 = .ok (.getfield 79, 3) := by decide +kernel
theorem dX12_feed_34 : decode cX12_feed 34 = .ok (.iload_n 1, 1) := by decide +kernel
theorem dX12_feed_35 : decode cX12_feed 35 = .ok (.iastore, 1) := by decide +kernel
theorem dX12_feed_36 : decode cX12_feed 36 = .ok (.aload_n 0, 1) := by decide +kernel
theorem dX12_feed_37 : decode cX12_feed 37 = .ok (.dup, 1) := by decide +kernel
theorem dX12_feed_38 : decode cX12_feed 38 = .ok (.getfield 79, 3) := by decide +kernel
theorem dX12_feed_41 : decode cX12_feed 41 = .ok (.iconst 1, 1) := by decide +kernel
theorem dX12_feed_42 : decode cX12_feed 42 = .ok (.iadd, 1) := by decide +kernel
theorem dX12_feed_43 : decode cX12_feed 43 = .ok (.putfield 79, 3) := by decide +kernel
theorem dX12_feed_46 : decode cX12_feed 46 = .ok (.aload_n 0, 1) := by decide +kernel
theorem dX12_feed_47 : decode cX12_feed 47 = .ok (.getfield 79, 3) := by decide +kernel
theorem dX12_feed_50 : decode cX12_feed 50 = .ok (.ireturn, 1) := by decide +kernel
theorem dX12_byteAt_0 : decode cX12_byteAt 0 = .ok (.iload_n 1, 1) := by decide +kernel
theorem dX12_byteAt_1 : decode cX12_byteAt 1 = .ok (.aload_n 0, 1) := by decide +kernel
theorem dX12_byteAt_2 : decode cX12_byteAt 2 = .ok (.getfield 79, 3) := by decide +kernel
theorem dX12_byteAt_5 : decode cX12_byteAt 5 = .ok (.if_icmp .ge 12, 3) := by decide +kernel
theorem dX12_byteAt_8 : decode cX12_byteAt 8 = .ok (.aload_n 0, 1) := by decide +kernel
theorem dX12_byteAt_9 : decode cX12_byteAt 9 = .ok (.getfield 22, 3) := by decide +kernel
theorem dX12_byteAt_12 : decode cX12_byteAt 12 = .ok (.iload_n 1, 1) := by decide +kernel
theorem dX12_byteAt_13 : decode cX12_byteAt 13 = .ok (.iaload, 1) := by decide +kernel
theorem dX12_byteAt_14 : decode cX12_byteAt 14 = .ok (.goto 4, 3) := by decide +kernel
theorem dX12_byteAt_17 : decode cX12_byteAt 17 = .ok (.iconst (-1), 1) := by decide +kernel
theorem dX12_byteAt_18 : decode cX12_byteAt 18 = .ok (.ireturn, 1) := by decide +kernel
theorem dX12_advances_0 : decode cX12_advances 0 = .ok (.aload_n 0, 1) := by decide +kernel
theorem dX12_advances_1 : decode cX12_advances 1 = .ok (.aload_n 0, 1) := by decide +kernel
theorem dX12_advances_2 : decode cX12_advances 2 = .ok (.getfield 83, 3) := by decide +kernel
theorem dX12_advances_5 : decode cX12_advances 5 = .ok (.putfield 86, 3) := by decide +kernel
theorem dX12_advances_8 : decode cX12_advances 8 = .ok (.aload_n 0, 1) := by decide +kernel
theorem dX12_advances_9 : decode cX12_advances 9 = .ok (.aload_n 0, 1) := by decide +kernel
theorem dX12_advances_10 : decode cX12_advances 10 = .ok (.getfield 83, 3) := by decide +kernel
theorem dX12_advances_13 : decode cX12_advances 13 = .ok (.invokevirtual 89, 3) := by decide +kernel
theorem dX12_advances_16 : decode cX12_advances 16 = .ok (.istore_n 1, 1) := by decide +kernel
theorem dX12_advances_17 : decode cX12_advances 17 = .ok (.aload_n 0, 1) := by decide +kernel
theorem dX12_advances_18 : decode cX12_advances 18 = .ok (.iload_n 1, 1) := by decide +kernel
theorem dX12_advances_19 : decode cX12_advances 19 = .ok (.putfield 92, 3) := by decide +kernel
theorem dX12_advances_22 : decode cX12_advances 22 = .ok (.iload_n 1, 1) := by decide +kernel
theorem dX12_advances_23 : decode cX12_advances 23 = .ok (.bipush 48, 2) := by decide +kernel
theorem dX12_advances_25 : decode cX12_advances 25 = .ok (.bipush 57, 2) := by decide +kernel
theorem dX12_advances_27 : decode cX12_advances 27 = .ok (.invokestatic 53, 3) := by decide +kernel
theorem dX12_advances_30 : decode cX12_advances 30 = .ok (.ifCond .eq 105, 3) := by decide +kernel
theorem dX12_advances_33 : decode cX12_advances 33 = .ok (.aload_n 0, 1) := by decide +kernel
theorem dX12_advances_34 : decode cX12_advances 34 = .ok (.iconst 0, 1) := by decide +kernel
theorem dX12_advances_35 : decode cX12_advances 35 = .ok (.putfield 92, 3) := by decide +kernel
theorem dX12_advances_38 : decode cX12_advances 38 = .ok (.aload_n 0, 1) := by decide +kernel
theorem dX12_advances_39 : decode cX12_advances 39 = .ok (.aload_n 0, 1) := by decide +kernel
theorem dX12_advances_40 : decode cX12_advances 40 = .ok (.getfield 83, 3) := by decide +kernel
theorem dX12_advances_43 : decode cX12_advances 43 = .ok (.invokevirtual 89, 3) := by decide +kernel
theorem dX12_advances_46 : decode cX12_advances 46 = .ok (.bipush 48, 2) := by decide +kernel
theorem dX12_advances_48 : decode cX12_advances 48 = .ok (.bipush 57, 2) := by decide +kernel
theorem dX12_advances_50 : decode cX12_advances 50 = .ok (.invokestatic 53, 3) := by decide +kernel
theorem dX12_advances_53 : decode cX12_advances 53 = .ok (.ifCond .eq 59, 3) := by decide +kernel
theorem dX12_advances_56 : decode cX12_advances 56 = .ok (.aload_n 0, 1) := by decide +kernel
theorem dX12_advances_57 : decode cX12_advances 57 = .ok (.aload_n 0, 1) := by decide +kernel
theorem dX12_advances_58 : decode cX12_advances 58 = .ok (.getfield 83, 3) := by decide +kernel
theorem dX12_advances_61 : decode cX12_advances 61 = .ok (.aload_n 0, 1) := by decide +kernel
theorem dX12_advances_62 : decode cX12_advances 62 = .ok (.getfield 86, 3) := by decide +kernel
theorem dX12_advances_65 : decode cX12_advances 65 = .ok (.isub, 1) := by decide +kernel
theorem dX12_advances_66 : decode cX12_advances 66 = .ok (.iconst 2, 1) := by decide +kernel
theorem dX12_advances_67 : decode cX12_advances 67 = .ok (.if_icmp .ge 25, 3) := by decide +kernel
theorem dX12_advances_70 : decode cX12_advances 70 = .ok (.bipush 10, 2) := by decide +kernel
theorem dX12_advances_72 : decode cX12_advances 72 = .ok (.aload_n 0, 1) := by decide +kernel
theorem dX12_advances_73 : decode cX12_advances 73 = .ok (.getfield 92, 3) := by decide +kernel
theorem dX12_advances_76 : decode cX12_advances 76 = .ok (.imul, 1) := by decide +kernel
theorem dX12_advances_77 : decode cX12_advances 77 = .ok (.aload_n 0, 1) := by decide +kernel
theorem dX12_advances_78 : decode cX12_advances 78 = .ok (.aload_n 0, 1) := by decide +kernel
theorem dX12_advances_79 : decode cX12_advances 79 = .ok (.getfield 83, 3) := by decide +kernel
theorem dX12_advances_82 : decode cX12_advances 82 = .ok (.invokevirtual 89, 3) := by decide +kernel
theorem dX12_advances_85 : decode cX12_advances 85 = .ok (.iadd, 1) := by decide +kernel
theorem dX12_advances_86 : decode cX12_advances 86 = .ok (.bipush 48, 2) := by decide +kernel
theorem dX12_advances_88 : decode cX12_advances 88 = .ok (.isub, 1) := by decide +kernel
theorem dX12_advances_89 : decode cX12_advances 89 = .ok (.goto 7, 3) := by decide +kernel
theorem dX12_advances_92 : decode cX12_advances 92 = .ok (.aload_n 0, 1) := by decide +kernel
theorem dX12_advances_93 : decode cX12_advances 93 = .ok (.getfield 92, 3) := by decide +kernel
theorem dX12_advances_96 : decode cX12_advances 96 = .ok (.putfield 92, 3) := by decide +kernel
theorem dX12_advances_99 : decode cX12_advances 99 = .ok (.aload_n 0, 1) := by decide +kernel
theorem dX12_advances_100 : decode cX12_advances 100 = .ok (.dup, 1) := by decide +kernel
theorem dX12_advances_101 : decode cX12_advances 101 = .ok (.getfield 83, 3) := by decide +kernel
theorem dX12_advances_104 : decode cX12_advances 104 = .ok (.iconst 1, 1) := by decide +kernel
theorem dX12_advances_105 : decode cX12_advances 105 = .ok (.iadd, 1) := by decide +kernel
theorem dX12_advances_106 : decode cX12_advances 106 = .ok (.putfield 83, 3) := by decide +kernel
theorem dX12_advances_109 : decode cX12_advances 109 = .ok (.goto (-71), 3) := by decide +kernel
theorem dX12_advances_112 : decode cX12_advances 112 = .ok (.aload_n 0, 1) := by decide +kernel
theorem dX12_advances_113 : decode cX12_advances 113 = .ok (.aload_n 0, 1) := by decide +kernel
theorem dX12_advances_114 : decode cX12_advances 114 = .ok (.getfield 83, 3) := by decide +kernel
theorem dX12_advances_117 : decode cX12_advances 117 = .ok (.aload_n 0, 1) := by decide +kernel
theorem dX12_advances_118 : decode cX12_advances 118 = .ok (.getfield 86, 3) := by decide +kernel
theorem dX12_advances_121 : decode cX12_advances 121 = .ok (.isub, 1) := by decide +kernel
theorem dX12_advances_122 : decode cX12_advances 122 = .ok (.iconst 3, 1) := by decide +kernel
theorem dX12_advances_123 : decode cX12_advances 123 = .ok (.if_icmp .ge 7, 3) := by decide +kernel
theorem dX12_advances_126 : decode cX12_advances 126 = .ok (.iconst 2, 1) := by decide +kernel
theorem dX12_advances_127 : decode cX12_advances 127 = .ok (.goto 4, 3) := by decide +kernel
theorem dX12_advances_130 : decode cX12_advances 130 = .ok (.iconst 5, 1) := by decide +kernel
theorem dX12_advances_131 : decode cX12_advances 131 = .ok (.putfield 95, 3) := by decide +kernel
theorem dX12_advances_134 : decode cX12_advances 134 = .ok (.return_, 1) := by decide +kernel
theorem dX12_advances_135 : decode cX12_advances 135 = .ok (.aload_n 0, 1) := by decide +kernel
theorem dX12_advances_136 : decode cX12_advances 136 = .ok (.iload_n 1, 1) := by decide +kernel
theorem dX12_advances_137 : decode cX12_advances 137 = .ok (.ifCond .ge 7, 3) := by decide +kernel
theorem dX12_advances_140 : decode cX12_advances 140 = .ok (.iconst 0, 1) := by decide +kernel
theorem dX12_advances_141 : decode cX12_advances 141 = .ok (.goto 39, 3) := by decide +kernel
theorem dX12_advances_144 : decode cX12_advances 144 = .ok (.iload_n 1, 1) := by decide +kernel
theorem dX12_advances_145 : decode cX12_advances 145 = .ok (.bipush 97, 2) := by decide +kernel
theorem dX12_advances_147 : decode cX12_advances 147 = .ok (.bipush 122, 2) := by decide +kernel
theorem dX12_advances_149 : decode cX12_advances 149 = .ok (.invokestatic 53, 3) := by decide +kernel
theorem dX12_advances_152 : decode cX12_advances 152 = .ok (.ifCond .eq 7, 3) := by decide +kernel
theorem dX12_advances_155 : decode cX12_advances 155 = .ok (.iconst 1, 1) := by decide +kernel
theorem dX12_advances_156 : decode cX12_advances 156 = .ok (.goto 24, 3) := by decide +kernel
theorem dX12_advances_159 : decode cX12_advances 159 = .ok (.iload_n 1, 1) := by decide +kernel
theorem dX12_advances_160 : decode cX12_advances 160 = .ok (.bipush 44, 2) := by decide +kernel
theorem dX12_advances_162 : decode cX12_advances 162 = .ok (.if_icmp .ne 7, 3) := by decide +kernel
theorem dX12_advances_165 : decode cX12_advances 165 = .ok (.iconst 3, 1) := by decide +kernel
theorem dX12_advances_166 : decode cX12_advances 166 = .ok (.goto 14, 3) := by decide +kernel
theorem dX12_advances_169 : decode cX12_advances 169 = .ok (.iload_n 1, 1) := by decide +kernel
theorem dX12_advances_170 : decode cX12_advances 170 = .ok (.bipush 59, 2) := by decide +kernel
theorem dX12_advances_172 : decode cX12_advances 172 = .ok (.if_icmp .ne 7, 3) := by decide +kernel
theorem dX12_advances_175 : decode cX12_advances 175 = .ok (.iconst 4, 1) := by decide +kernel
theorem dX12_advances_176 : decode cX12_advances 176 = .ok (.goto 4, 3) := by decide +kernel
theorem dX12_advances_179 : decode cX12_advances 179 = .ok (.iconst 5, 1) := by decide +kernel
theorem dX12_advances_180 : decode cX12_advances 180 = .ok (.putfield 95, 3) := by decide +kernel
theorem dX12_advances_183 : decode cX12_advances 183 = .ok (.aload_n 0, 1) := by decide +kernel
theorem dX12_advances_184 : decode cX12_advances 184 = .ok (.dup, 1) := by decide +kernel
theorem dX12_advances_185 : decode cX12_advances 185 = .ok (.getfield 83, 3) := by decide +kernel
theorem dX12_advances_188 : decode cX12_advances 188 = .ok (.aload_n 0, 1) := by decide +kernel
theorem dX12_advances_189 : decode cX12_advances 189 = .ok (.getfield 95, 3) := by decide +kernel
theorem dX12_advances_192 : decode cX12_advances 192 = .ok (.ifCond .ne 7, 3) := by decide +kernel
theorem dX12_advances_195 : decode cX12_advances 195 = .ok (.iconst 0, 1) := by decide +kernel
theorem dX12_advances_196 : decode cX12_advances 196 = .ok (.goto 4, 3) := by decide +kernel
theorem dX12_advances_199 : decode cX12_advances 199 = .ok (.iconst 1, 1) := by decide +kernel
theorem dX12_advances_200 : decode cX12_advances 200 = .ok (.iadd, 1) := by decide +kernel
theorem dX12_advances_201 : decode cX12_advances 201 = .ok (.putfield 83, 3) := by decide +kernel
theorem dX12_advances_204 : decode cX12_advances 204 = .ok (.return_, 1) := by decide +kernel
theorem dX12_isWell_0 : decode cX12_isWell 0 = .ok (.aload_n 0, 1) := by decide +kernel
theorem dX12_isWell_1 : decode cX12_isWell 1 = .ok (.getfield 98, 3) := by decide +kernel
theorem dX12_isWell_4 : decode cX12_isWell 4 = .ok (.ifCond .ge 7, 3) := by decide +kernel
theorem dX12_isWell_7 : decode cX12_isWell 7 = .ok (.iconst 1, 1) := by decide +kernel
theorem dX12_isWell_8 : decode cX12_isWell 8 = .ok (.goto 4, 3) := by decide +kernel
theorem dX12_isWell_11 : decode cX12_isWell 11 = .ok (.iconst 0, 1) := by decide +kernel
theorem dX12_isWell_12 : decode cX12_isWell 12 = .ok (.ireturn, 1) := by decide +kernel
theorem dX12_takes_0 : decode cX12_takes 0 = .ok (.aload_n 0, 1) := by decide +kernel
theorem dX12_takes_1 : decode cX12_takes 1 = .ok (.invokevirtual 101, 3) := by decide +kernel
theorem dX12_takes_4 : decode cX12_takes 4 = .ok (.ifCond .ne 5, 3) := by decide +kernel
theorem dX12_takes_7 : decode cX12_takes 7 = .ok (.iconst 0, 1) := by decide +kernel
theorem dX12_takes_8 : decode cX12_takes 8 = .ok (.ireturn, 1) := by decide +kernel
theorem dX12_takes_9 : decode cX12_takes 9 = .ok (.iload_n 1, 1) := by decide +kernel
theorem dX12_takes_10 : decode cX12_takes 10 = .ok (.ifCond .ne 18, 3) := by decide +kernel
theorem dX12_takes_13 : decode cX12_takes 13 = .ok (.aload_n 0, 1) := by decide +kernel
theorem dX12_takes_14 : decode cX12_takes 14 = .ok (.aload_n 0, 1) := by decide +kernel
theorem dX12_takes_15 : decode cX12_takes 15 = .ok (.getfield 86, 3) := by decide +kernel
theorem dX12_takes_18 : decode cX12_takes 18 = .ok (.putfield 98, 3) := by decide +kernel
theorem dX12_takes_21 : decode cX12_takes 21 = .ok (.aload_n 0, 1) := by decide +kernel
theorem dX12_takes_22 : decode cX12_takes 22 = .ok (.iload_n 2, 1) := by decide +kernel
theorem dX12_takes_23 : decode cX12_takes 23 = .ok (.putfield 105, 3) := by decide +kernel
theorem dX12_takes_26 : decode cX12_takes 26 = .ok (.iconst 0, 1) := by decide +kernel
theorem dX12_takes_27 : decode cX12_takes 27 = .ok (.ireturn, 1) := by decide +kernel
theorem dX12_takes_28 : decode cX12_takes 28 = .ok (.aload_n 0, 1) := by decide +kernel
theorem dX12_takes_29 : decode cX12_takes 29 = .ok (.getfield 92, 3) := by decide +kernel
theorem dX12_takes_32 : decode cX12_takes 32 = .ok (.istore_n 3, 1) := by decide +kernel
theorem dX12_takes_33 : decode cX12_takes 33 = .ok (.aload_n 0, 1) := by decide +kernel
theorem dX12_takes_34 : decode cX12_takes 34 = .ok (.invokevirtual 108, 3) := by decide +kernel
theorem dX12_takes_37 : decode cX12_takes 37 = .ok (.iload_n 3, 1) := by decide +kernel
theorem dX12_takes_38 : decode cX12_takes 38 = .ok (.ireturn, 1) := by decide +kernel
theorem dX12_figure_0 : decode cX12_figure 0 = .ok (.aload_n 0, 1) := by decide +kernel
theorem dX12_figure_1 : decode cX12_figure 1 = .ok (.invokevirtual 101, 3) := by decide +kernel
theorem dX12_figure_4 : decode cX12_figure 4 = .ok (.ifCond .eq 18, 3) := by decide +kernel
theorem dX12_figure_7 : decode cX12_figure 7 = .ok (.aload_n 0, 1) := by decide +kernel
theorem dX12_figure_8 : decode cX12_figure 8 = .ok (.getfield 95, 3) := by decide +kernel
theorem dX12_figure_11 : decode cX12_figure 11 = .ok (.iconst 2, 1) := by decide +kernel
theorem dX12_figure_12 : decode cX12_figure 12 = .ok (.if_icmp .eq 10, 3) := by decide +kernel
theorem dX12_figure_15 : decode cX12_figure 15 = .ok (.aload_n 0, 1) := by decide +kernel
theorem dX12_figure_16 : decode cX12_figure 16 = .ok (.iconst 0, 1) := by decide +kernel
theorem dX12_figure_17 : decode cX12_figure 17 = .ok (.iconst 1, 1) := by decide +kernel
theorem dX12_figure_18 : decode cX12_figure 18 = .ok (.invokevirtual 111, 3) := by decide +kernel
theorem dX12_figure_21 : decode cX12_figure 21 = .ok (.ireturn, 1) := by decide +kernel
theorem dX12_figure_22 : decode cX12_figure 22 = .ok (.aload_n 0, 1) := by decide +kernel
theorem dX12_figure_23 : decode cX12_figure 23 = .ok (.aload_n 0, 1) := by decide +kernel
theorem dX12_figure_24 : decode cX12_figure 24 = .ok (.getfield 92, 3) := by decide +kernel
theorem dX12_figure_27 : decode cX12_figure 27 = .ok (.iload_n 1, 1) := by decide +kernel
theorem dX12_figure_28 : decode cX12_figure 28 = .ok (.iload_n 2, 1) := by decide +kernel
theorem dX12_figure_29 : decode cX12_figure 29 = .ok (.invokestatic 53, 3) := by decide +kernel
theorem dX12_figure_32 : decode cX12_figure 32 = .ok (.iconst 2, 1) := by decide +kernel
theorem dX12_figure_33 : decode cX12_figure 33 = .ok (.invokevirtual 111, 3) := by decide +kernel
theorem dX12_figure_36 : decode cX12_figure 36 = .ok (.ireturn, 1) := by decide +kernel
theorem dX12_kindOf_0 : decode cX12_kindOf 0 = .ok (.iload_n 0, 1) := by decide +kernel
theorem dX12_kindOf_1 : decode cX12_kindOf 1 = .ok (.bipush 99, 2) := by decide +kernel
theorem dX12_kindOf_3 : decode cX12_kindOf 3 = .ok (.if_icmp .ne 7, 3) := by decide +kernel
theorem dX12_kindOf_6 : decode cX12_kindOf 6 = .ok (.iconst 1, 1) := by decide +kernel
theorem dX12_kindOf_7 : decode cX12_kindOf 7 = .ok (.goto 44, 3) := by decide +kernel
theorem dX12_kindOf_10 : decode cX12_kindOf 10 = .ok (.iload_n 0, 1) := by decide +kernel
theorem dX12_kindOf_11 : decode cX12_kindOf 11 = .ok (.bipush 118, 2) := by decide +kernel
theorem dX12_kindOf_13 : decode cX12_kindOf 13 = .ok (.if_icmp .ne 7, 3) := by decide +kernel
theorem dX12_kindOf_16 : decode cX12_kindOf 16 = .ok (.iconst 2, 1) := by decide +kernel
theorem dX12_kindOf_17 : decode cX12_kindOf 17 = .ok (.goto 34, 3) := by decide +kernel
theorem dX12_kindOf_20 : decode cX12_kindOf 20 = .ok (.iload_n 0, 1) := by decide +kernel
theorem dX12_kindOf_21 : decode cX12_kindOf 21 = .ok (.bipush 109, 2) := by decide +kernel
theorem dX12_kindOf_23 : decode cX12_kindOf 23 = .ok (.if_icmp .ne 7, 3) := by decide +kernel
theorem dX12_kindOf_26 : decode cX12_kindOf 26 = .ok (.iconst 3, 1) := by decide +kernel
theorem dX12_kindOf_27 : decode cX12_kindOf 27 = .ok (.goto 24, 3) := by decide +kernel
theorem dX12_kindOf_30 : decode cX12_kindOf 30 = .ok (.iload_n 0, 1) := by decide +kernel
theorem dX12_kindOf_31 : decode cX12_kindOf 31 = .ok (.bipush 104, 2) := by decide +kernel
theorem dX12_kindOf_33 : decode cX12_kindOf 33 = .ok (.if_icmp .ne 7, 3) := by decide +kernel
theorem dX12_kindOf_36 : decode cX12_kindOf 36 = .ok (.iconst 4, 1) := by decide +kernel
theorem dX12_kindOf_37 : decode cX12_kindOf 37 = .ok (.goto 14, 3) := by decide +kernel
theorem dX12_kindOf_40 : decode cX12_kindOf 40 = .ok (.iload_n 0, 1) := by decide +kernel
theorem dX12_kindOf_41 : decode cX12_kindOf 41 = .ok (.bipush 101, 2) := by decide +kernel
theorem dX12_kindOf_43 : decode cX12_kindOf 43 = .ok (.if_icmp .ne 7, 3) := by decide +kernel
theorem dX12_kindOf_46 : decode cX12_kindOf 46 = .ok (.iconst 5, 1) := by decide +kernel
theorem dX12_kindOf_47 : decode cX12_kindOf 47 = .ok (.goto 4, 3) := by decide +kernel
theorem dX12_kindOf_50 : decode cX12_kindOf 50 = .ok (.iconst 0, 1) := by decide +kernel
theorem dX12_kindOf_51 : decode cX12_kindOf 51 = .ok (.ireturn, 1) := by decide +kernel
theorem dX12_next_0 : decode cX12_next 0 = .ok (.aload_n 0, 1) := by decide +kernel
theorem dX12_next_1 : decode cX12_next 1 = .ok (.aload_n 0, 1) := by decide +kernel
theorem dX12_next_2 : decode cX12_next 2 = .ok (.getfield 95, 3) := by decide +kernel
theorem dX12_next_5 : decode cX12_next 5 = .ok (.iconst 3, 1) := by decide +kernel
theorem dX12_next_6 : decode cX12_next 6 = .ok (.if_icmp .ne 7, 3) := by decide +kernel
theorem dX12_next_9 : decode cX12_next 9 = .ok (.iconst 1, 1) := by decide +kernel
theorem dX12_next_10 : decode cX12_next 10 = .ok (.goto 4, 3) := by decide +kernel
theorem dX12_next_13 : decode cX12_next 13 = .ok (.iconst 0, 1) := by decide +kernel
theorem dX12_next_14 : decode cX12_next 14 = .ok (.iconst 1, 1) := by decide +kernel
theorem dX12_next_15 : decode cX12_next 15 = .ok (.invokevirtual 111, 3) := by decide +kernel
theorem dX12_next_18 : decode cX12_next 18 = .ok (.pop, 1) := by decide +kernel
theorem dX12_next_19 : decode cX12_next 19 = .ok (.aload_n 0, 1) := by decide +kernel
theorem dX12_next_20 : decode cX12_next 20 = .ok (.iload_n 1, 1) := by decide +kernel
theorem dX12_next_21 : decode cX12_next 21 = .ok (.iload_n 2, 1) := by decide +kernel
theorem dX12_next_22 : decode cX12_next 22 = .ok (.invokevirtual 115, 3) := by decide +kernel
theorem dX12_next_25 : decode cX12_next 25 = .ok (.ireturn, 1) := by decide +kernel
theorem dX12_readsPerson_0 : decode cX12_readsPerson 0 = .ok (.aload_n 0, 1) := by decide +kernel
theorem dX12_readsPerson_1 : decode cX12_readsPerson 1 = .ok (.getfield 92, 3) := by decide +kernel
theorem dX12_readsPerson_4 : decode cX12_readsPerson 4 = .ok (.invokestatic 118, 3) := by decide +kernel
theorem dX12_readsPerson_7 : decode cX12_readsPerson 7 = .ok (.istore_n 1, 1) := by decide +kernel
theorem dX12_readsPerson_8 : decode cX12_readsPerson 8 = .ok (.aload_n 0, 1) := by decide +kernel
theorem dX12_readsPerson_9 : decode cX12_readsPerson 9 = .ok (.aload_n 0, 1) := by decide +kernel
theorem dX12_readsPerson_10 : decode cX12_readsPerson 10 = .ok (.getfield 28, 3) := by decide +kernel
theorem dX12_readsPerson_13 : decode cX12_readsPerson 13 = .ok (.iconst 4, 1) := by decide +kernel
theorem dX12_readsPerson_14 : decode cX12_readsPerson 14 = .ok (.iaload, 1) := by decide +kernel
theorem dX12_readsPerson_15 : decode cX12_readsPerson 15 = .ok (.bipush 6, 2) := by decide +kernel
theorem dX12_readsPerson_17 : decode cX12_readsPerson 17 = .ok (.if_icmp .ge 7, 3) := by decide +kernel
theorem dX12_readsPerson_20 : decode cX12_readsPerson 20 = .ok (.iconst 1, 1) := by decide +kernel
theorem dX12_readsPerson_21 : decode cX12_readsPerson 21 = .ok (.goto 4, 3) := by decide +kernel
theorem dX12_readsPerson_24 : decode cX12_readsPerson 24 = .ok (.iconst 0, 1) := by decide +kernel
theorem dX12_readsPerson_25 : decode cX12_readsPerson 25 = .ok (.iconst 3, 1) := by decide +kernel
theorem dX12_readsPerson_26 : decode cX12_readsPerson 26 = .ok (.invokevirtual 111, 3) := by decide +kernel
theorem dX12_readsPerson_29 : decode cX12_readsPerson 29 = .ok (.pop, 1) := by decide +kernel
theorem dX12_readsPerson_30 : decode cX12_readsPerson 30 = .ok (.iconst 5, 1) := by decide +kernel
theorem dX12_readsPerson_31 : decode cX12_readsPerson 31 = .ok (.bipush 6, 2) := by decide +kernel
theorem dX12_readsPerson_33 : decode cX12_readsPerson 33 = .ok (.aload_n 0, 1) := by decide +kernel
theorem dX12_readsPerson_34 : decode cX12_readsPerson 34 = .ok (.getfield 28, 3) := by decide +kernel
theorem dX12_readsPerson_37 : decode cX12_readsPerson 37 = .ok (.iconst 4, 1) := by decide +kernel
theorem dX12_readsPerson_38 : decode cX12_readsPerson 38 = .ok (.iaload, 1) := by decide +kernel
theorem dX12_readsPerson_39 : decode cX12_readsPerson 39 = .ok (.bipush 6, 2) := by decide +kernel
theorem dX12_readsPerson_41 : decode cX12_readsPerson 41 = .ok (.if_icmp .ge 12, 3) := by decide +kernel
theorem dX12_readsPerson_44 : decode cX12_readsPerson 44 = .ok (.aload_n 0, 1) := by decide +kernel
theorem dX12_readsPerson_45 : decode cX12_readsPerson 45 = .ok (.getfield 28, 3) := by decide +kernel
theorem dX12_readsPerson_48 : decode cX12_readsPerson 48 = .ok (.iconst 4, 1) := by decide +kernel
theorem dX12_readsPerson_49 : decode cX12_readsPerson 49 = .ok (.iaload, 1) := by decide +kernel
theorem dX12_readsPerson_50 : decode cX12_readsPerson 50 = .ok (.goto 4, 3) := by decide +kernel
theorem dX12_readsPerson_53 : decode cX12_readsPerson 53 = .ok (.iconst 0, 1) := by decide +kernel
theorem dX12_readsPerson_54 : decode cX12_readsPerson 54 = .ok (.imul, 1) := by decide +kernel
theorem dX12_readsPerson_55 : decode cX12_readsPerson 55 = .ok (.iadd, 1) := by decide +kernel
theorem dX12_readsPerson_56 : decode cX12_readsPerson 56 = .ok (.istore_n 2, 1) := by decide +kernel
theorem dX12_readsPerson_57 : decode cX12_readsPerson 57 = .ok (.aload_n 0, 1) := by decide +kernel
theorem dX12_readsPerson_58 : decode cX12_readsPerson 58 = .ok (.iconst 0, 1) := by decide +kernel
theorem dX12_readsPerson_59 : decode cX12_readsPerson 59 = .ok (.aload_n 0, 1) := by decide +kernel
theorem dX12_readsPerson_60 : decode cX12_readsPerson 60 = .ok (.getfield 28, 3) := by decide +kernel
theorem dX12_readsPerson_63 : decode cX12_readsPerson 63 = .ok (.iconst 0, 1) := by decide +kernel
theorem dX12_readsPerson_64 : decode cX12_readsPerson 64 = .ok (.iaload, 1) := by decide +kernel
theorem dX12_readsPerson_65 : decode cX12_readsPerson 65 = .ok (.invokevirtual 115, 3) := by decide +kernel
theorem dX12_readsPerson_68 : decode cX12_readsPerson 68 = .ok (.istore_n 3, 1) := by decide +kernel
theorem dX12_readsPerson_69 : decode cX12_readsPerson 69 = .ok (.aload_n 0, 1) := by decide +kernel
theorem dX12_readsPerson_70 : decode cX12_readsPerson 70 = .ok (.iconst 0, 1) := by decide +kernel
theorem dX12_readsPerson_71 : decode cX12_readsPerson 71 = .ok (.aload_n 0, 1) := by decide +kernel
theorem dX12_readsPerson_72 : decode cX12_readsPerson 72 = .ok (.getfield 28, 3) := by decide +kernel
theorem dX12_readsPerson_75 : decode cX12_readsPerson 75 = .ok (.iconst 0, 1) := by decide +kernel
theorem dX12_readsPerson_76 : decode cX12_readsPerson 76 = .ok (.iaload, 1) := by decide +kernel
theorem dX12_readsPerson_77 : decode cX12_readsPerson 77 = .ok (.invokevirtual 121, 3) := by decide +kernel
theorem dX12_readsPerson_80 : decode cX12_readsPerson 80 = .ok (.istore 4, 2) := by decide +kernel
theorem dX12_readsPerson_82 : decode cX12_readsPerson 82 = .ok (.aload_n 0, 1) := by decide +kernel
theorem dX12_readsPerson_83 : decode cX12_readsPerson 83 = .ok (.iconst 0, 1) := by decide +kernel
theorem dX12_readsPerson_84 : decode cX12_readsPerson 84 = .ok (.bipush 9, 2) := by decide +kernel
theorem dX12_readsPerson_86 : decode cX12_readsPerson 86 = .ok (.invokevirtual 121, 3) := by decide +kernel
theorem dX12_readsPerson_89 : decode cX12_readsPerson 89 = .ok (.istore 5, 2) := by decide +kernel
theorem dX12_readsPerson_91 : decode cX12_readsPerson 91 = .ok (.aload_n 0, 1) := by decide +kernel
theorem dX12_readsPerson_92 : decode cX12_readsPerson 92 = .ok (.iconst 0, 1) := by decide +kernel
theorem dX12_readsPerson_93 : decode cX12_readsPerson 93 = .ok (.bipush 9, 2) := by decide +kernel
theorem dX12_readsPerson_95 : decode cX12_readsPerson 95 = .ok (.invokevirtual 121, 3) := by decide +kernel
theorem dX12_readsPerson_98 : decode cX12_readsPerson 98 = .ok (.istore 6, 2) := by decide +kernel
theorem dX12_readsPerson_100 : decode cX12_readsPerson 100 = .ok (.aload_n 0, 1) := by decide +kernel
theorem dX12_readsPerson_101 : decode cX12_readsPerson 101 = .ok (.aload_n 0, 1) := by decide +kernel
theorem dX12_readsPerson_102 : decode cX12_readsPerson 102 = .ok (.getfield 95, 3) := by decide +kernel
theorem dX12_readsPerson_105 : decode cX12_readsPerson 105 = .ok (.iconst 4, 1) := by decide +kernel
theorem dX12_readsPerson_106 : decode cX12_readsPerson 106 = .ok (.if_icmp .ne 7, 3) := by decide +kernel
theorem dX12_readsPerson_109 : decode cX12_readsPerson 109 = .ok (.iconst 1, 1) := by decide +kernel
theorem dX12_readsPerson_110 : decode cX12_readsPerson 110 = .ok (.goto 4, 3) := by decide +kernel
theorem dX12_readsPerson_113 : decode cX12_readsPerson 113 = .ok (.iconst 0, 1) := by decide +kernel
theorem dX12_readsPerson_114 : decode cX12_readsPerson 114 = .ok (.iconst 1, 1) := by decide +kernel
theorem dX12_readsPerson_115 : decode cX12_readsPerson 115 = .ok (.invokevirtual 111, 3) := by decide +kernel
theorem dX12_readsPerson_118 : decode cX12_readsPerson 118 = .ok (.pop, 1) := by decide +kernel
theorem dX12_readsPerson_119 : decode cX12_readsPerson 119 = .ok (.aload_n 0, 1) := by decide +kernel
theorem dX12_readsPerson_120 : decode cX12_readsPerson 120 = .ok (.invokevirtual 101, 3) := by decide +kernel
theorem dX12_readsPerson_123 : decode cX12_readsPerson 123 = .ok (.ifCond .eq 59, 3) := by decide +kernel
theorem dX12_readsPerson_126 : decode cX12_readsPerson 126 = .ok (.aload_n 0, 1) := by decide +kernel
theorem dX12_readsPerson_127 : decode cX12_readsPerson 127 = .ok (.getfield 28, 3) := by decide +kernel
theorem dX12_readsPerson_130 : decode cX12_readsPerson 130 = .ok (.iload_n 2, 1) := by decide +kernel
theorem dX12_readsPerson_131 : decode cX12_readsPerson 131 = .ok (.iload_n 1, 1) := by decide +kernel
theorem dX12_readsPerson_132 : decode cX12_readsPerson 132 = .ok (.iastore, 1) := by decide +kernel
theorem dX12_readsPerson_133 : decode cX12_readsPerson 133 = .ok (.aload_n 0, 1) := by decide +kernel
theorem dX12_readsPerson_134 : decode cX12_readsPerson 134 = .ok (.getfield 28, 3) := by decide +kernel
theorem dX12_readsPerson_137 : decode cX12_readsPerson 137 = .ok (.iload_n 2, 1) := by decide +kernel
theorem dX12_readsPerson_138 : decode cX12_readsPerson 138 = .ok (.iconst 1, 1) := by decide +kernel
theorem dX12_readsPerson_139 : decode cX12_readsPerson 139 = .ok (.iadd, 1) := by decide +kernel
theorem dX12_readsPerson_140 : decode cX12_readsPerson 140 = .ok (.iload_n 3, 1) := by decide +kernel
theorem dX12_readsPerson_141 : decode cX12_readsPerson 141 = .ok (.iastore, 1) := by decide +kernel
theorem dX12_readsPerson_142 : decode cX12_readsPerson 142 = .ok (.aload_n 0, 1) := by decide +kernel
theorem dX12_readsPerson_143 : decode cX12_readsPerson 143 = .ok (.getfield 28, 3) := by decide +kernel
theorem dX12_readsPerson_146 : decode cX12_readsPerson 146 = .ok (.iload_n 2, 1) := by decide +kernel
theorem dX12_readsPerson_147 : decode cX12_readsPerson 147 = .ok (.iconst 2, 1) := by decide +kernel
theorem dX12_readsPerson_148 : decode cX12_readsPerson 148 = .ok (.iadd, 1) := by decide +kernel
theorem dX12_readsPerson_149 : decode cX12_readsPerson 149 = .ok (.iload 4, 2) := by decide +kernel
theorem dX12_readsPerson_151 : decode cX12_readsPerson 151 = .ok (.iastore, 1) := by decide +kernel
theorem dX12_readsPerson_152 : decode cX12_readsPerson 152 = .ok (.aload_n 0, 1) := by decide +kernel
theorem dX12_readsPerson_153 : decode cX12_readsPerson 153 = .ok (.getfield 28, 3) := by decide +kernel
theorem dX12_readsPerson_156 : decode cX12_readsPerson 156 = .ok (.iload_n 2, 1) := by decide +kernel
theorem dX12_readsPerson_157 : decode cX12_readsPerson 157 = .ok (.iconst 3, 1) := by decide +kernel
theorem dX12_readsPerson_158 : decode cX12_readsPerson 158 = .ok (.iadd, 1) := by decide +kernel
theorem dX12_readsPerson_159 : decode cX12_readsPerson 159 = .ok (.iload 5, 2) := by decide +kernel
theorem dX12_readsPerson_161 : decode cX12_readsPerson 161 = .ok (.iastore, 1) := by decide +kernel
theorem dX12_readsPerson_162 : decode cX12_readsPerson 162 = .ok (.aload_n 0, 1) := by decide +kernel
theorem dX12_readsPerson_163 : decode cX12_readsPerson 163 = .ok (.getfield 28, 3) := by decide +kernel
theorem dX12_readsPerson_166 : decode cX12_readsPerson 166 = .ok (.iload_n 2, 1) := by decide +kernel
theorem dX12_readsPerson_167 : decode cX12_readsPerson 167 = .ok (.iconst 4, 1) := by decide +kernel
theorem dX12_readsPerson_168 : decode cX12_readsPerson 168 = .ok (.iadd, 1) := by decide +kernel
theorem dX12_readsPerson_169 : decode cX12_readsPerson 169 = .ok (.iload 6, 2) := by decide +kernel
theorem dX12_readsPerson_171 : decode cX12_readsPerson 171 = .ok (.iastore, 1) := by decide +kernel
theorem dX12_readsPerson_172 : decode cX12_readsPerson 172 = .ok (.aload_n 0, 1) := by decide +kernel
theorem dX12_readsPerson_173 : decode cX12_readsPerson 173 = .ok (.getfield 28, 3) := by decide +kernel
theorem dX12_readsPerson_176 : decode cX12_readsPerson 176 = .ok (.iconst 4, 1) := by decide +kernel
theorem dX12_readsPerson_177 : decode cX12_readsPerson 177 = .ok (.dup2, 1) := by decide +kernel
theorem dX12_readsPerson_178 : decode cX12_readsPerson 178 = .ok (.iaload, 1) := by decide +kernel
theorem dX12_readsPerson_179 : decode cX12_readsPerson 179 = .ok (.iconst 1, 1) := by decide +kernel
theorem dX12_readsPerson_180 : decode cX12_readsPerson 180 = .ok (.iadd, 1) := by decide +kernel
theorem dX12_readsPerson_181 : decode cX12_readsPerson 181 = .ok (.iastore, 1) := by decide +kernel
theorem dX12_readsPerson_182 : decode cX12_readsPerson 182 = .ok (.return_, 1) := by decide +kernel
theorem dX12_house_0 : decode cX12_house 0 = .ok (.iconst 0, 1) := by decide +kernel
theorem dX12_house_1 : decode cX12_house 1 = .ok (.istore_n 1, 1) := by decide +kernel
theorem dX12_house_2 : decode cX12_house 2 = .ok (.iload_n 1, 1) := by decide +kernel
theorem dX12_house_3 : decode cX12_house 3 = .ok (.bipush 41, 2) := by decide +kernel
theorem dX12_house_5 : decode cX12_house 5 = .ok (.if_icmp .ge 16, 3) := by decide +kernel
theorem dX12_house_8 : decode cX12_house 8 = .ok (.aload_n 0, 1) := by decide +kernel
theorem dX12_house_9 : decode cX12_house 9 = .ok (.getfield 28, 3) := by decide +kernel
theorem dX12_house_12 : decode cX12_house 12 = .ok (.iload_n 1, 1) := by decide +kernel
theorem dX12_house_13 : decode cX12_house 13 = .ok (.iconst 0, 1) := by decide +kernel
theorem dX12_house_14 : decode cX12_house 14 = .ok (.iastore, 1) := by decide +kernel
theorem dX12_house_15 : decode cX12_house 15 = .ok (.iinc 1 1, 3) := by decide +kernel
theorem dX12_house_18 : decode cX12_house 18 = .ok (.goto (-16), 3) := by decide +kernel
theorem dX12_house_21 : decode cX12_house 21 = .ok (.aload_n 0, 1) := by decide +kernel
theorem dX12_house_22 : decode cX12_house 22 = .ok (.iconst 0, 1) := by decide +kernel
theorem dX12_house_23 : decode cX12_house 23 = .ok (.putfield 83, 3) := by decide +kernel
theorem dX12_house_26 : decode cX12_house 26 = .ok (.aload_n 0, 1) := by decide +kernel
theorem dX12_house_27 : decode cX12_house 27 = .ok (.iconst (-1), 1) := by decide +kernel
theorem dX12_house_28 : decode cX12_house 28 = .ok (.putfield 98, 3) := by decide +kernel
theorem dX12_house_31 : decode cX12_house 31 = .ok (.aload_n 0, 1) := by decide +kernel
theorem dX12_house_32 : decode cX12_house 32 = .ok (.invokevirtual 108, 3) := by decide +kernel
theorem dX12_house_35 : decode cX12_house 35 = .ok (.aload_n 0, 1) := by decide +kernel
theorem dX12_house_36 : decode cX12_house 36 = .ok (.aload_n 0, 1) := by decide +kernel
theorem dX12_house_37 : decode cX12_house 37 = .ok (.getfield 95, 3) := by decide +kernel
theorem dX12_house_40 : decode cX12_house 40 = .ok (.iconst 1, 1) := by decide +kernel
theorem dX12_house_41 : decode cX12_house 41 = .ok (.if_icmp .ne 16, 3) := by decide +kernel
theorem dX12_house_44 : decode cX12_house 44 = .ok (.aload_n 0, 1) := by decide +kernel
theorem dX12_house_45 : decode cX12_house 45 = .ok (.getfield 92, 3) := by decide +kernel
theorem dX12_house_48 : decode cX12_house 48 = .ok (.bipush 102, 2) := by decide +kernel
theorem dX12_house_50 : decode cX12_house 50 = .ok (.if_icmp .ne 7, 3) := by decide +kernel
theorem dX12_house_53 : decode cX12_house 53 = .ok (.iconst 1, 1) := by decide +kernel
theorem dX12_house_54 : decode cX12_house 54 = .ok (.goto 4, 3) := by decide +kernel
theorem dX12_house_57 : decode cX12_house 57 = .ok (.iconst 0, 1) := by decide +kernel
theorem dX12_house_58 : decode cX12_house 58 = .ok (.iconst 1, 1) := by decide +kernel
theorem dX12_house_59 : decode cX12_house 59 = .ok (.invokevirtual 111, 3) := by decide +kernel
theorem dX12_house_62 : decode cX12_house 62 = .ok (.pop, 1) := by decide +kernel
theorem dX12_house_63 : decode cX12_house 63 = .ok (.aload_n 0, 1) := by decide +kernel
theorem dX12_house_64 : decode cX12_house 64 = .ok (.getfield 28, 3) := by decide +kernel
theorem dX12_house_67 : decode cX12_house 67 = .ok (.iconst 0, 1) := by decide +kernel
theorem dX12_house_68 : decode cX12_house 68 = .ok (.aload_n 0, 1) := by decide +kernel
theorem dX12_house_69 : decode cX12_house 69 = .ok (.iconst 1, 1) := by decide +kernel
theorem dX12_house_70 : decode cX12_house 70 = .ok (.bipush 9, 2) := by decide +kernel
theorem dX12_house_72 : decode cX12_house 72 = .ok (.invokevirtual 115, 3) := by decide +kernel
theorem dX12_house_75 : decode cX12_house 75 = .ok (.iastore, 1) := by decide +kernel
theorem dX12_house_76 : decode cX12_house 76 = .ok (.aload_n 0, 1) := by decide +kernel
theorem dX12_house_77 : decode cX12_house 77 = .ok (.getfield 28, 3) := by decide +kernel
theorem dX12_house_80 : decode cX12_house 80 = .ok (.iconst 1, 1) := by decide +kernel
theorem dX12_house_81 : decode cX12_house 81 = .ok (.aload_n 0, 1) := by decide +kernel
theorem dX12_house_82 : decode cX12_house 82 = .ok (.iconst 0, 1) := by decide +kernel
theorem dX12_house_83 : decode cX12_house 83 = .ok (.aload_n 0, 1) := by decide +kernel
theorem dX12_house_84 : decode cX12_house 84 = .ok (.getfield 28, 3) := by decide +kernel
theorem dX12_house_87 : decode cX12_house 87 = .ok (.iconst 0, 1) := by decide +kernel
theorem dX12_house_88 : decode cX12_house 88 = .ok (.iaload, 1) := by decide +kernel
theorem dX12_house_89 : decode cX12_house 89 = .ok (.invokevirtual 121, 3) := by decide +kernel
theorem dX12_house_92 : decode cX12_house 92 = .ok (.iastore, 1) := by decide +kernel
theorem dX12_house_93 : decode cX12_house 93 = .ok (.aload_n 0, 1) := by decide +kernel
theorem dX12_house_94 : decode cX12_house 94 = .ok (.aload_n 0, 1) := by decide +kernel
theorem dX12_house_95 : decode cX12_house 95 = .ok (.getfield 95, 3) := by decide +kernel
theorem dX12_house_98 : decode cX12_house 98 = .ok (.iconst 4, 1) := by decide +kernel
theorem dX12_house_99 : decode cX12_house 99 = .ok (.if_icmp .ne 7, 3) := by decide +kernel
theorem dX12_house_102 : decode cX12_house 102 = .ok (.iconst 1, 1) := by decide +kernel
theorem dX12_house_103 : decode cX12_house 103 = .ok (.goto 4, 3) := by decide +kernel
theorem dX12_house_106 : decode cX12_house 106 = .ok (.iconst 0, 1) := by decide +kernel
theorem dX12_house_107 : decode cX12_house 107 = .ok (.iconst 1, 1) := by decide +kernel
theorem dX12_house_108 : decode cX12_house 108 = .ok (.invokevirtual 111, 3) := by decide +kernel
theorem dX12_house_111 : decode cX12_house 111 = .ok (.pop, 1) := by decide +kernel
theorem dX12_house_112 : decode cX12_house 112 = .ok (.aload_n 0, 1) := by decide +kernel
theorem dX12_house_113 : decode cX12_house 113 = .ok (.invokevirtual 101, 3) := by decide +kernel
theorem dX12_house_116 : decode cX12_house 116 = .ok (.ifCond .eq 28, 3) := by decide +kernel
theorem dX12_house_119 : decode cX12_house 119 = .ok (.aload_n 0, 1) := by decide +kernel
theorem dX12_house_120 : decode cX12_house 120 = .ok (.getfield 95, 3) := by decide +kernel
theorem dX12_house_123 : decode cX12_house 123 = .ok (.iconst 1, 1) := by decide +kernel
theorem dX12_house_124 : decode cX12_house 124 = .ok (.if_icmp .ne 20, 3) := by decide +kernel
theorem dX12_house_127 : decode cX12_house 127 = .ok (.aload_n 0, 1) := by decide +kernel
theorem dX12_house_128 : decode cX12_house 128 = .ok (.getfield 92, 3) := by decide +kernel
theorem dX12_house_131 : decode cX12_house 131 = .ok (.invokestatic 118, 3) := by decide +kernel
theorem dX12_house_134 : decode cX12_house 134 = .ok (.ifCond .le 10, 3) := by decide +kernel
theorem dX12_house_137 : decode cX12_house 137 = .ok (.aload_n 0, 1) := by decide +kernel
theorem dX12_house_138 : decode cX12_house 138 = .ok (.invokevirtual 124, 3) := by decide +kernel
theorem dX12_house_141 : decode cX12_house 141 = .ok (.goto (-29), 3) := by decide +kernel
theorem dX12_house_144 : decode cX12_house 144 = .ok (.aload_n 0, 1) := by decide +kernel
theorem dX12_house_145 : decode cX12_house 145 = .ok (.invokevirtual 101, 3) := by decide +kernel
theorem dX12_house_148 : decode cX12_house 148 = .ok (.ifCond .eq 17, 3) := by decide +kernel
theorem dX12_house_151 : decode cX12_house 151 = .ok (.aload_n 0, 1) := by decide +kernel
theorem dX12_house_152 : decode cX12_house 152 = .ok (.getfield 95, 3) := by decide +kernel
theorem dX12_house_155 : decode cX12_house 155 = .ok (.ifCond .eq 10, 3) := by decide +kernel
theorem dX12_house_158 : decode cX12_house 158 = .ok (.aload_n 0, 1) := by decide +kernel
theorem dX12_house_159 : decode cX12_house 159 = .ok (.iconst 0, 1) := by decide +kernel
theorem dX12_house_160 : decode cX12_house 160 = .ok (.iconst 1, 1) := by decide +kernel
theorem dX12_house_161 : decode cX12_house 161 = .ok (.invokevirtual 111, 3) := by decide +kernel
theorem dX12_house_164 : decode cX12_house 164 = .ok (.pop, 1) := by decide +kernel
theorem dX12_house_165 : decode cX12_house 165 = .ok (.aload_n 0, 1) := by decide +kernel
theorem dX12_house_166 : decode cX12_house 166 = .ok (.iconst 0, 1) := by decide +kernel
theorem dX12_house_167 : decode cX12_house 167 = .ok (.putfield 79, 3) := by decide +kernel
theorem dX12_house_170 : decode cX12_house 170 = .ok (.aload_n 0, 1) := by decide +kernel
theorem dX12_house_171 : decode cX12_house 171 = .ok (.invokevirtual 101, 3) := by decide +kernel
theorem dX12_house_174 : decode cX12_house 174 = .ok (.ifCond .ne 11, 3) := by decide +kernel
theorem dX12_house_177 : decode cX12_house 177 = .ok (.ldc 127, 2) := by decide +kernel
theorem dX12_house_179 : decode cX12_house 179 = .ok (.aload_n 0, 1) := by decide +kernel
theorem dX12_house_180 : decode cX12_house 180 = .ok (.getfield 98, 3) := by decide +kernel
theorem dX12_house_183 : decode cX12_house 183 = .ok (.isub, 1) := by decide +kernel
theorem dX12_house_184 : decode cX12_house 184 = .ok (.ireturn, 1) := by decide +kernel
theorem dX12_house_185 : decode cX12_house 185 = .ok (.aload_n 0, 1) := by decide +kernel
theorem dX12_house_186 : decode cX12_house 186 = .ok (.getfield 28, 3) := by decide +kernel
theorem dX12_house_189 : decode cX12_house 189 = .ok (.iconst 0, 1) := by decide +kernel
theorem dX12_house_190 : decode cX12_house 190 = .ok (.aload_n 0, 1) := by decide +kernel
theorem dX12_house_191 : decode cX12_house 191 = .ok (.getfield 25, 3) := by decide +kernel
theorem dX12_house_194 : decode cX12_house 194 = .ok (.iconst 0, 1) := by decide +kernel
theorem dX12_house_195 : decode cX12_house 195 = .ok (.invokestatic 128, 3) := by decide +kernel
theorem dX12_house_198 : decode cX12_house 198 = .ok (.aload_n 0, 1) := by decide +kernel
theorem dX12_house_199 : decode cX12_house 199 = .ok (.iconst 0, 1) := by decide +kernel
theorem dX12_house_200 : decode cX12_house 200 = .ok (.putfield 132, 3) := by decide +kernel
theorem dX12_house_203 : decode cX12_house 203 = .ok (.aload_n 0, 1) := by decide +kernel
theorem dX12_house_204 : decode cX12_house 204 = .ok (.getfield 25, 3) := by decide +kernel
theorem dX12_house_207 : decode cX12_house 207 = .ok (.iconst 4, 1) := by decide +kernel
theorem dX12_house_208 : decode cX12_house 208 = .ok (.iaload, 1) := by decide +kernel
theorem dX12_house_209 : decode cX12_house 209 = .ok (.ireturn, 1) := by decide +kernel
theorem dX12_fault_0 : decode cX12_fault 0 = .ok (.aload_n 0, 1) := by decide +kernel
theorem dX12_fault_1 : decode cX12_fault 1 = .ok (.getfield 105, 3) := by decide +kernel
theorem dX12_fault_4 : decode cX12_fault 4 = .ok (.ireturn, 1) := by decide +kernel
theorem dX12_isHouse_0 : decode cX12_isHouse 0 = .ok (.aload_n 0, 1) := by decide +kernel
theorem dX12_isHouse_1 : decode cX12_isHouse 1 = .ok (.getfield 25, 3) := by decide +kernel
theorem dX12_isHouse_4 : decode cX12_isHouse 4 = .ok (.iconst 0, 1) := by decide +kernel
theorem dX12_isHouse_5 : decode cX12_isHouse 5 = .ok (.iaload, 1) := by decide +kernel
theorem dX12_isHouse_6 : decode cX12_isHouse 6 = .ok (.ifCond .le 7, 3) := by decide +kernel
theorem dX12_isHouse_9 : decode cX12_isHouse 9 = .ok (.iconst 1, 1) := by decide +kernel
theorem dX12_isHouse_10 : decode cX12_isHouse 10 = .ok (.goto 4, 3) := by decide +kernel
theorem dX12_isHouse_13 : decode cX12_isHouse 13 = .ok (.iconst 0, 1) := by decide +kernel
theorem dX12_isHouse_14 : decode cX12_isHouse 14 = .ok (.ireturn, 1) := by decide +kernel
theorem dX12_isPerson_0 : decode cX12_isPerson 0 = .ok (.iload_n 1, 1) := by decide +kernel
theorem dX12_isPerson_1 : decode cX12_isPerson 1 = .ok (.iconst 0, 1) := by decide +kernel
theorem dX12_isPerson_2 : decode cX12_isPerson 2 = .ok (.aload_n 0, 1) := by decide +kernel
theorem dX12_isPerson_3 : decode cX12_isPerson 3 = .ok (.getfield 25, 3) := by decide +kernel
theorem dX12_isPerson_6 : decode cX12_isPerson 6 = .ok (.iconst 4, 1) := by decide +kernel
theorem dX12_isPerson_7 : decode cX12_isPerson 7 = .ok (.iaload, 1) := by decide +kernel
theorem dX12_isPerson_8 : decode cX12_isPerson 8 = .ok (.iconst 1, 1) := by decide +kernel
theorem dX12_isPerson_9 : decode cX12_isPerson 9 = .ok (.isub, 1) := by decide +kernel
theorem dX12_isPerson_10 : decode cX12_isPerson 10 = .ok (.invokestatic 53, 3) := by decide +kernel
theorem dX12_isPerson_13 : decode cX12_isPerson 13 = .ok (.ireturn, 1) := by decide +kernel
theorem dX12_isFar_0 : decode cX12_isFar 0 = .ok (.iload_n 0, 1) := by decide +kernel
theorem dX12_isFar_1 : decode cX12_isFar 1 = .ok (.iconst 0, 1) := by decide +kernel
theorem dX12_isFar_2 : decode cX12_isFar 2 = .ok (.bipush 60, 2) := by decide +kernel
theorem dX12_isFar_4 : decode cX12_isFar 4 = .ok (.invokestatic 53, 3) := by decide +kernel
theorem dX12_isFar_7 : decode cX12_isFar 7 = .ok (.ireturn, 1) := by decide +kernel
theorem dX12_mindsOf_0 : decode cX12_mindsOf 0 = .ok (.iconst 5, 1) := by decide +kernel
theorem dX12_mindsOf_1 : decode cX12_mindsOf 1 = .ok (.bipush 6, 2) := by decide +kernel
theorem dX12_mindsOf_3 : decode cX12_mindsOf 3 = .ok (.iload_n 1, 1) := by decide +kernel
theorem dX12_mindsOf_4 : decode cX12_mindsOf 4 = .ok (.imul, 1) := by decide +kernel
theorem dX12_mindsOf_5 : decode cX12_mindsOf 5 = .ok (.iadd, 1) := by decide +kernel
theorem dX12_mindsOf_6 : decode cX12_mindsOf 6 = .ok (.istore_n 3, 1) := by decide +kernel
theorem dX12_mindsOf_7 : decode cX12_mindsOf 7 = .ok (.iconst 5, 1) := by decide +kernel
theorem dX12_mindsOf_8 : decode cX12_mindsOf 8 = .ok (.bipush 6, 2) := by decide +kernel
theorem dX12_mindsOf_10 : decode cX12_mindsOf 10 = .ok (.iload_n 2, 1) := by decide +kernel
theorem dX12_mindsOf_11 : decode cX12_mindsOf 11 = .ok (.imul, 1) := by decide +kernel
theorem dX12_mindsOf_12 : decode cX12_mindsOf 12 = .ok (.iadd, 1) := by decide +kernel
theorem dX12_mindsOf_13 : decode cX12_mindsOf 13 = .ok (.istore 4, 2) := by decide +kernel
theorem dX12_mindsOf_15 : decode cX12_mindsOf 15 = .ok (.aload_n 0, 1) := by decide +kernel
theorem dX12_mindsOf_16 : decode cX12_mindsOf 16 = .ok (.iload 4, 2) := by decide +kernel
theorem dX12_mindsOf_18 : decode cX12_mindsOf 18 = .ok (.iconst 3, 1) := by decide +kernel
theorem dX12_mindsOf_19 : decode cX12_mindsOf 19 = .ok (.iadd, 1) := by decide +kernel
theorem dX12_mindsOf_20 : decode cX12_mindsOf 20 = .ok (.iaload, 1) := by decide +kernel
theorem dX12_mindsOf_21 : decode cX12_mindsOf 21 = .ok (.aload_n 0, 1) := by decide +kernel
theorem dX12_mindsOf_22 : decode cX12_mindsOf 22 = .ok (.iload_n 3, 1) := by decide +kernel
theorem dX12_mindsOf_23 : decode cX12_mindsOf 23 = .ok (.iconst 3, 1) := by decide +kernel
theorem dX12_mindsOf_24 : decode cX12_mindsOf 24 = .ok (.iadd, 1) := by decide +kernel
theorem dX12_mindsOf_25 : decode cX12_mindsOf 25 = .ok (.iaload, 1) := by decide +kernel
theorem dX12_mindsOf_26 : decode cX12_mindsOf 26 = .ok (.if_icmp .le 18, 3) := by decide +kernel
theorem dX12_mindsOf_29 : decode cX12_mindsOf 29 = .ok (.aload_n 0, 1) := by decide +kernel
theorem dX12_mindsOf_30 : decode cX12_mindsOf 30 = .ok (.iload 4, 2) := by decide +kernel
theorem dX12_mindsOf_32 : decode cX12_mindsOf 32 = .ok (.iconst 3, 1) := by decide +kernel
theorem dX12_mindsOf_33 : decode cX12_mindsOf 33 = .ok (.iadd, 1) := by decide +kernel
theorem dX12_mindsOf_34 : decode cX12_mindsOf 34 = .ok (.iaload, 1) := by decide +kernel
theorem dX12_mindsOf_35 : decode cX12_mindsOf 35 = .ok (.aload_n 0, 1) := by decide +kernel
theorem dX12_mindsOf_36 : decode cX12_mindsOf 36 = .ok (.iload_n 3, 1) := by decide +kernel
theorem dX12_mindsOf_37 : decode cX12_mindsOf 37 = .ok (.iconst 3, 1) := by decide +kernel
theorem dX12_mindsOf_38 : decode cX12_mindsOf 38 = .ok (.iadd, 1) := by decide +kernel
theorem dX12_mindsOf_39 : decode cX12_mindsOf 39 = .ok (.iaload, 1) := by decide +kernel
theorem dX12_mindsOf_40 : decode cX12_mindsOf 40 = .ok (.isub, 1) := by decide +kernel
theorem dX12_mindsOf_41 : decode cX12_mindsOf 41 = .ok (.goto 4, 3) := by decide +kernel
theorem dX12_mindsOf_44 : decode cX12_mindsOf 44 = .ok (.iconst 0, 1) := by decide +kernel
theorem dX12_mindsOf_45 : decode cX12_mindsOf 45 = .ok (.istore 5, 2) := by decide +kernel
theorem dX12_mindsOf_47 : decode cX12_mindsOf 47 = .ok (.aload_n 0, 1) := by decide +kernel
theorem dX12_mindsOf_48 : decode cX12_mindsOf 48 = .ok (.iload 4, 2) := by decide +kernel
theorem dX12_mindsOf_50 : decode cX12_mindsOf 50 = .ok (.iconst 3, 1) := by decide +kernel
theorem dX12_mindsOf_51 : decode cX12_mindsOf 51 = .ok (.iadd, 1) := by decide +kernel
theorem dX12_mindsOf_52 : decode cX12_mindsOf 52 = .ok (.iaload, 1) := by decide +kernel
theorem dX12_mindsOf_53 : decode cX12_mindsOf 53 = .ok (.ifCond .le 11, 3) := by decide +kernel
theorem dX12_mindsOf_56 : decode cX12_mindsOf 56 = .ok (.aload_n 0, 1) := by decide +kernel
theorem dX12_mindsOf_57 : decode cX12_mindsOf 57 = .ok (.iload_n 3, 1) := by decide +kernel
theorem dX12_mindsOf_58 : decode cX12_mindsOf 58 = .ok (.iconst 4, 1) := by decide +kernel
theorem dX12_mindsOf_59 : decode cX12_mindsOf 59 = .ok (.iadd, 1) := by decide +kernel
theorem dX12_mindsOf_60 : decode cX12_mindsOf 60 = .ok (.iaload, 1) := by decide +kernel
theorem dX12_mindsOf_61 : decode cX12_mindsOf 61 = .ok (.goto 4, 3) := by decide +kernel
theorem dX12_mindsOf_64 : decode cX12_mindsOf 64 = .ok (.iconst 0, 1) := by decide +kernel
theorem dX12_mindsOf_65 : decode cX12_mindsOf 65 = .ok (.istore 6, 2) := by decide +kernel
theorem dX12_mindsOf_67 : decode cX12_mindsOf 67 = .ok (.aload_n 0, 1) := by decide +kernel
theorem dX12_mindsOf_68 : decode cX12_mindsOf 68 = .ok (.iload_n 3, 1) := by decide +kernel
theorem dX12_mindsOf_69 : decode cX12_mindsOf 69 = .ok (.iaload, 1) := by decide +kernel
theorem dX12_mindsOf_70 : decode cX12_mindsOf 70 = .ok (.tableswitch 64 1 4 #[30, 33, 38, 61], 30) := by decide +kernel
theorem dX12_mindsOf_100 : decode cX12_mindsOf 100 = .ok (.iload 5, 2) := by decide +kernel
theorem dX12_mindsOf_102 : decode cX12_mindsOf 102 = .ok (.ireturn, 1) := by decide +kernel
theorem dX12_mindsOf_103 : decode cX12_mindsOf 103 = .ok (.iconst 2, 1) := by decide +kernel
theorem dX12_mindsOf_104 : decode cX12_mindsOf 104 = .ok (.iload 5, 2) := by decide +kernel
theorem dX12_mindsOf_106 : decode cX12_mindsOf 106 = .ok (.imul, 1) := by decide +kernel
theorem dX12_mindsOf_107 : decode cX12_mindsOf 107 = .ok (.ireturn, 1) := by decide +kernel
theorem dX12_mindsOf_108 : decode cX12_mindsOf 108 = .ok (.iload 5, 2) := by decide +kernel
theorem dX12_mindsOf_110 : decode cX12_mindsOf 110 = .ok (.aload_n 0, 1) := by decide +kernel
theorem dX12_mindsOf_111 : decode cX12_mindsOf 111 = .ok (.iload_n 3, 1) := by decide +kernel
theorem dX12_mindsOf_112 : decode cX12_mindsOf 112 = .ok (.iconst 4, 1) := by decide +kernel
theorem dX12_mindsOf_113 : decode cX12_mindsOf 113 = .ok (.iadd, 1) := by decide +kernel
theorem dX12_mindsOf_114 : decode cX12_mindsOf 114 = .ok (.iaload, 1) := by decide +kernel
theorem dX12_mindsOf_115 : decode cX12_mindsOf 115 = .ok (.if_icmp .le 14, 3) := by decide +kernel
theorem dX12_mindsOf_118 : decode cX12_mindsOf 118 = .ok (.iload 5, 2) := by decide +kernel
theorem dX12_mindsOf_120 : decode cX12_mindsOf 120 = .ok (.aload_n 0, 1) := by decide +kernel
theorem dX12_mindsOf_121 : decode cX12_mindsOf 121 = .ok (.iload_n 3, 1) := by decide +kernel
theorem dX12_mindsOf_122 : decode cX12_mindsOf 122 = .ok (.iconst 4, 1) := by decide +kernel
theorem dX12_mindsOf_123 : decode cX12_mindsOf 123 = .ok (.iadd, 1) := by decide +kernel
theorem dX12_mindsOf_124 : decode cX12_mindsOf 124 = .ok (.iaload, 1) := by decide +kernel
theorem dX12_mindsOf_125 : decode cX12_mindsOf 125 = .ok (.isub, 1) := by decide +kernel
theorem dX12_mindsOf_126 : decode cX12_mindsOf 126 = .ok (.goto 4, 3) := by decide +kernel
theorem dX12_mindsOf_129 : decode cX12_mindsOf 129 = .ok (.iconst 0, 1) := by decide +kernel
theorem dX12_mindsOf_130 : decode cX12_mindsOf 130 = .ok (.ireturn, 1) := by decide +kernel
theorem dX12_mindsOf_131 : decode cX12_mindsOf 131 = .ok (.iload 6, 2) := by decide +kernel
theorem dX12_mindsOf_133 : decode cX12_mindsOf 133 = .ok (.ireturn, 1) := by decide +kernel
theorem dX12_mindsOf_134 : decode cX12_mindsOf 134 = .ok (.aload_n 0, 1) := by decide +kernel
theorem dX12_mindsOf_135 : decode cX12_mindsOf 135 = .ok (.iload_n 3, 1) := by decide +kernel
theorem dX12_mindsOf_136 : decode cX12_mindsOf 136 = .ok (.iconst 2, 1) := by decide +kernel
theorem dX12_mindsOf_137 : decode cX12_mindsOf 137 = .ok (.iadd, 1) := by decide +kernel
theorem dX12_mindsOf_138 : decode cX12_mindsOf 138 = .ok (.iaload, 1) := by decide +kernel
theorem dX12_mindsOf_139 : decode cX12_mindsOf 139 = .ok (.aload_n 0, 1) := by decide +kernel
theorem dX12_mindsOf_140 : decode cX12_mindsOf 140 = .ok (.iload 4, 2) := by decide +kernel
theorem dX12_mindsOf_142 : decode cX12_mindsOf 142 = .ok (.iconst 2, 1) := by decide +kernel
theorem dX12_mindsOf_143 : decode cX12_mindsOf 143 = .ok (.iadd, 1) := by decide +kernel
theorem dX12_mindsOf_144 : decode cX12_mindsOf 144 = .ok (.iaload, 1) := by decide +kernel
theorem dX12_mindsOf_145 : decode cX12_mindsOf 145 = .ok (.if_icmp .ne 8, 3) := by decide +kernel
theorem dX12_mindsOf_148 : decode cX12_mindsOf 148 = .ok (.bipush 9, 2) := by decide +kernel
theorem dX12_mindsOf_150 : decode cX12_mindsOf 150 = .ok (.goto 5, 3) := by decide +kernel
theorem dX12_mindsOf_153 : decode cX12_mindsOf 153 = .ok (.iload 6, 2) := by decide +kernel
theorem dX12_mindsOf_155 : decode cX12_mindsOf 155 = .ok (.ireturn, 1) := by decide +kernel
theorem dX12_rides_0 : decode cX12_rides 0 = .ok (.aload_n 0, 1) := by decide +kernel
theorem dX12_rides_1 : decode cX12_rides 1 = .ok (.iconst 3, 1) := by decide +kernel
theorem dX12_rides_2 : decode cX12_rides 2 = .ok (.iaload, 1) := by decide +kernel
theorem dX12_rides_3 : decode cX12_rides 3 = .ok (.iload_n 1, 1) := by decide +kernel
theorem dX12_rides_4 : decode cX12_rides 4 = .ok (.iconst 1, 1) := by decide +kernel
theorem dX12_rides_5 : decode cX12_rides 5 = .ok (.iadd, 1) := by decide +kernel
theorem dX12_rides_6 : decode cX12_rides 6 = .ok (.if_icmp .ne 7, 3) := by decide +kernel
theorem dX12_rides_9 : decode cX12_rides 9 = .ok (.iconst 1, 1) := by decide +kernel
theorem dX12_rides_10 : decode cX12_rides 10 = .ok (.goto 4, 3) := by decide +kernel
theorem dX12_rides_13 : decode cX12_rides 13 = .ok (.iconst 0, 1) := by decide +kernel
theorem dX12_rides_14 : decode cX12_rides 14 = .ok (.ireturn, 1) := by decide +kernel
theorem dX12_envyOf_0 : decode cX12_envyOf 0 = .ok (.iconst 0, 1) := by decide +kernel
theorem dX12_envyOf_1 : decode cX12_envyOf 1 = .ok (.istore_n 2, 1) := by decide +kernel
theorem dX12_envyOf_2 : decode cX12_envyOf 2 = .ok (.iconst 0, 1) := by decide +kernel
theorem dX12_envyOf_3 : decode cX12_envyOf 3 = .ok (.istore_n 3, 1) := by decide +kernel
theorem dX12_envyOf_4 : decode cX12_envyOf 4 = .ok (.iload_n 3, 1) := by decide +kernel
theorem dX12_envyOf_5 : decode cX12_envyOf 5 = .ok (.aload_n 0, 1) := by decide +kernel
theorem dX12_envyOf_6 : decode cX12_envyOf 6 = .ok (.iconst 4, 1) := by decide +kernel
theorem dX12_envyOf_7 : decode cX12_envyOf 7 = .ok (.iaload, 1) := by decide +kernel
theorem dX12_envyOf_8 : decode cX12_envyOf 8 = .ok (.if_icmp .ge 78, 3) := by decide +kernel
theorem dX12_envyOf_11 : decode cX12_envyOf 11 = .ok (.iload_n 3, 1) := by decide +kernel
theorem dX12_envyOf_12 : decode cX12_envyOf 12 = .ok (.iload_n 1, 1) := by decide +kernel
theorem dX12_envyOf_13 : decode cX12_envyOf 13 = .ok (.if_icmp .eq 46, 3) := by decide +kernel
theorem dX12_envyOf_16 : decode cX12_envyOf 16 = .ok (.aload_n 0, 1) := by decide +kernel
theorem dX12_envyOf_17 : decode cX12_envyOf 17 = .ok (.iload_n 1, 1) := by decide +kernel
theorem dX12_envyOf_18 : decode cX12_envyOf 18 = .ok (.invokestatic 135, 3) := by decide +kernel
theorem dX12_envyOf_21 : decode cX12_envyOf 21 = .ok (.ifCond .ne 38, 3) := by decide +kernel
theorem dX12_envyOf_24 : decode cX12_envyOf 24 = .ok (.aload_n 0, 1) := by decide +kernel
theorem dX12_envyOf_25 : decode cX12_envyOf 25 = .ok (.iload_n 3, 1) := by decide +kernel
theorem dX12_envyOf_26 : decode cX12_envyOf 26 = .ok (.invokestatic 135, 3) := by decide +kernel
theorem dX12_envyOf_29 : decode cX12_envyOf 29 = .ok (.ifCond .ne 30, 3) := by decide +kernel
theorem dX12_envyOf_32 : decode cX12_envyOf 32 = .ok (.aload_n 0, 1) := by decide +kernel
theorem dX12_envyOf_33 : decode cX12_envyOf 33 = .ok (.iconst 5, 1) := by decide +kernel
theorem dX12_envyOf_34 : decode cX12_envyOf 34 = .ok (.bipush 6, 2) := by decide +kernel
theorem dX12_envyOf_36 : decode cX12_envyOf 36 = .ok (.iload_n 3, 1) := by decide +kernel
theorem dX12_envyOf_37 : decode cX12_envyOf 37 = .ok (.imul, 1) := by decide +kernel
theorem dX12_envyOf_38 : decode cX12_envyOf 38 = .ok (.iadd, 1) := by decide +kernel
theorem dX12_envyOf_39 : decode cX12_envyOf 39 = .ok (.iconst 1, 1) := by decide +kernel
theorem dX12_envyOf_40 : decode cX12_envyOf 40 = .ok (.iadd, 1) := by decide +kernel
theorem dX12_envyOf_41 : decode cX12_envyOf 41 = .ok (.iaload, 1) := by decide +kernel
theorem dX12_envyOf_42 : decode cX12_envyOf 42 = .ok (.aload_n 0, 1) := by decide +kernel
theorem dX12_envyOf_43 : decode cX12_envyOf 43 = .ok (.iconst 5, 1) := by decide +kernel
theorem dX12_envyOf_44 : decode cX12_envyOf 44 = .ok (.bipush 6, 2) := by decide +kernel
theorem dX12_envyOf_46 : decode cX12_envyOf 46 = .ok (.iload_n 1, 1) := by decide +kernel
theorem dX12_envyOf_47 : decode cX12_envyOf 47 = .ok (.imul, 1) := by decide +kernel
theorem dX12_envyOf_48 : decode cX12_envyOf 48 = .ok (.iadd, 1) := by decide +kernel
theorem dX12_envyOf_49 : decode cX12_envyOf 49 = .ok (.iconst 1, 1) := by decide +kernel
theorem dX12_envyOf_50 : decode cX12_envyOf 50 = .ok (.iadd, 1) := by decide +kernel
theorem dX12_envyOf_51 : decode cX12_envyOf 51 = .ok (.iaload, 1) := by decide +kernel
theorem dX12_envyOf_52 : decode cX12_envyOf 52 = .ok (.if_icmp .ne 7, 3) := by decide +kernel
theorem dX12_envyOf_55 : decode cX12_envyOf 55 = .ok (.iconst 1, 1) := by decide +kernel
theorem dX12_envyOf_56 : decode cX12_envyOf 56 = .ok (.goto 4, 3) := by decide +kernel
theorem dX12_envyOf_59 : decode cX12_envyOf 59 = .ok (.iconst 0, 1) := by decide +kernel
theorem dX12_envyOf_60 : decode cX12_envyOf 60 = .ok (.istore 4, 2) := by decide +kernel
theorem dX12_envyOf_62 : decode cX12_envyOf 62 = .ok (.iload_n 2, 1) := by decide +kernel
theorem dX12_envyOf_63 : decode cX12_envyOf 63 = .ok (.iload 4, 2) := by decide +kernel
theorem dX12_envyOf_65 : decode cX12_envyOf 65 = .ok (.ifCond .eq 12, 3) := by decide +kernel
theorem dX12_envyOf_68 : decode cX12_envyOf 68 = .ok (.aload_n 0, 1) := by decide +kernel
theorem dX12_envyOf_69 : decode cX12_envyOf 69 = .ok (.iload_n 3, 1) := by decide +kernel
theorem dX12_envyOf_70 : decode cX12_envyOf 70 = .ok (.iload_n 1, 1) := by decide +kernel
theorem dX12_envyOf_71 : decode cX12_envyOf 71 = .ok (.invokestatic 139, 3) := by decide +kernel
theorem dX12_envyOf_74 : decode cX12_envyOf 74 = .ok (.goto 4, 3) := by decide +kernel
theorem dX12_envyOf_77 : decode cX12_envyOf 77 = .ok (.iconst 0, 1) := by decide +kernel
theorem dX12_envyOf_78 : decode cX12_envyOf 78 = .ok (.iadd, 1) := by decide +kernel
theorem dX12_envyOf_79 : decode cX12_envyOf 79 = .ok (.istore_n 2, 1) := by decide +kernel
theorem dX12_envyOf_80 : decode cX12_envyOf 80 = .ok (.iinc 3 1, 3) := by decide +kernel
theorem dX12_envyOf_83 : decode cX12_envyOf 83 = .ok (.goto (-79), 3) := by decide +kernel
theorem dX12_envyOf_86 : decode cX12_envyOf 86 = .ok (.iload_n 2, 1) := by decide +kernel
theorem dX12_envyOf_87 : decode cX12_envyOf 87 = .ok (.ireturn, 1) := by decide +kernel
theorem dX12_calls_0 : decode cX12_calls 0 = .ok (.ldc 47, 2) := by decide +kernel
theorem dX12_calls_2 : decode cX12_calls 2 = .ok (.istore_n 1, 1) := by decide +kernel
theorem dX12_calls_3 : decode cX12_calls 3 = .ok (.iconst 0, 1) := by decide +kernel
theorem dX12_calls_4 : decode cX12_calls 4 = .ok (.istore_n 2, 1) := by decide +kernel
theorem dX12_calls_5 : decode cX12_calls 5 = .ok (.iconst 0, 1) := by decide +kernel
theorem dX12_calls_6 : decode cX12_calls 6 = .ok (.istore_n 3, 1) := by decide +kernel
theorem dX12_calls_7 : decode cX12_calls 7 = .ok (.iload_n 3, 1) := by decide +kernel
theorem dX12_calls_8 : decode cX12_calls 8 = .ok (.aload_n 0, 1) := by decide +kernel
theorem dX12_calls_9 : decode cX12_calls 9 = .ok (.iconst 4, 1) := by decide +kernel
theorem dX12_calls_10 : decode cX12_calls 10 = .ok (.iaload, 1) := by decide +kernel
theorem dX12_calls_11 : decode cX12_calls 11 = .ok (.if_icmp .ge 65, 3) := by decide +kernel
theorem dX12_calls_14 : decode cX12_calls 14 = .ok (.aload_n 0, 1) := by decide +kernel
theorem dX12_calls_15 : decode cX12_calls 15 = .ok (.iconst 3, 1) := by decide +kernel
theorem dX12_calls_16 : decode cX12_calls 16 = .ok (.iaload, 1) := by decide +kernel
theorem dX12_calls_17 : decode cX12_calls 17 = .ok (.ifCond .gt 17, 3) := by decide +kernel
theorem dX12_calls_20 : decode cX12_calls 20 = .ok (.aload_n 0, 1) := by decide +kernel
theorem dX12_calls_21 : decode cX12_calls 21 = .ok (.iconst 5, 1) := by decide +kernel
theorem dX12_calls_22 : decode cX12_calls 22 = .ok (.bipush 6, 2) := by decide +kernel
theorem dX12_calls_24 : decode cX12_calls 24 = .ok (.iload_n 3, 1) := by decide +kernel
theorem dX12_calls_25 : decode cX12_calls 25 = .ok (.imul, 1) := by decide +kernel
theorem dX12_calls_26 : decode cX12_calls 26 = .ok (.iadd, 1) := by decide +kernel
theorem dX12_calls_27 : decode cX12_calls 27 = .ok (.iconst 5, 1) := by decide +kernel
theorem dX12_calls_28 : decode cX12_calls 28 = .ok (.iadd, 1) := by decide +kernel
theorem dX12_calls_29 : decode cX12_calls 29 = .ok (.iaload, 1) := by decide +kernel
theorem dX12_calls_30 : decode cX12_calls 30 = .ok (.iconst 1, 1) := by decide +kernel
theorem dX12_calls_31 : decode cX12_calls 31 = .ok (.if_icmp .ne 7, 3) := by decide +kernel
theorem dX12_calls_34 : decode cX12_calls 34 = .ok (.iconst 0, 1) := by decide +kernel
theorem dX12_calls_35 : decode cX12_calls 35 = .ok (.goto 8, 3) := by decide +kernel
theorem dX12_calls_38 : decode cX12_calls 38 = .ok (.aload_n 0, 1) := by decide +kernel
theorem dX12_calls_39 : decode cX12_calls 39 = .ok (.iload_n 3, 1) := by decide +kernel
theorem dX12_calls_40 : decode cX12_calls 40 = .ok (.invokestatic 143, 3) := by decide +kernel
theorem dX12_calls_43 : decode cX12_calls 43 = .ok (.istore 4, 2) := by decide +kernel
theorem dX12_calls_45 : decode cX12_calls 45 = .ok (.iload 4, 2) := by decide +kernel
theorem dX12_calls_47 : decode cX12_calls 47 = .ok (.iload_n 2, 1) := by decide +kernel
theorem dX12_calls_48 : decode cX12_calls 48 = .ok (.if_icmp .le 7, 3) := by decide +kernel
theorem dX12_calls_51 : decode cX12_calls 51 = .ok (.iload_n 3, 1) := by decide +kernel
theorem dX12_calls_52 : decode cX12_calls 52 = .ok (.goto 4, 3) := by decide +kernel
theorem dX12_calls_55 : decode cX12_calls 55 = .ok (.iload_n 1, 1) := by decide +kernel
theorem dX12_calls_56 : decode cX12_calls 56 = .ok (.istore_n 1, 1) := by decide +kernel
theorem dX12_calls_57 : decode cX12_calls 57 = .ok (.iload 4, 2) := by decide +kernel
theorem dX12_calls_59 : decode cX12_calls 59 = .ok (.iload_n 2, 1) := by decide +kernel
theorem dX12_calls_60 : decode cX12_calls 60 = .ok (.if_icmp .le 8, 3) := by decide +kernel
theorem dX12_calls_63 : decode cX12_calls 63 = .ok (.iload 4, 2) := by decide +kernel
theorem dX12_calls_65 : decode cX12_calls 65 = .ok (.goto 4, 3) := by decide +kernel
theorem dX12_calls_68 : decode cX12_calls 68 = .ok (.iload_n 2, 1) := by decide +kernel
theorem dX12_calls_69 : decode cX12_calls 69 = .ok (.istore_n 2, 1) := by decide +kernel
theorem dX12_calls_70 : decode cX12_calls 70 = .ok (.iinc 3 1, 3) := by decide +kernel
theorem dX12_calls_73 : decode cX12_calls 73 = .ok (.goto (-66), 3) := by decide +kernel
theorem dX12_calls_76 : decode cX12_calls 76 = .ok (.iload_n 1, 1) := by decide +kernel
theorem dX12_calls_77 : decode cX12_calls 77 = .ok (.ireturn, 1) := by decide +kernel
theorem dX12_nearer_0 : decode cX12_nearer 0 = .ok (.iload_n 0, 1) := by decide +kernel
theorem dX12_nearer_1 : decode cX12_nearer 1 = .ok (.iload_n 1, 1) := by decide +kernel
theorem dX12_nearer_2 : decode cX12_nearer 2 = .ok (.if_icmp .ge 9, 3) := by decide +kernel
theorem dX12_nearer_5 : decode cX12_nearer 5 = .ok (.iload_n 0, 1) := by decide +kernel
theorem dX12_nearer_6 : decode cX12_nearer 6 = .ok (.iconst 1, 1) := by decide +kernel
theorem dX12_nearer_7 : decode cX12_nearer 7 = .ok (.iadd, 1) := by decide +kernel
theorem dX12_nearer_8 : decode cX12_nearer 8 = .ok (.goto 15, 3) := by decide +kernel
theorem dX12_nearer_11 : decode cX12_nearer 11 = .ok (.iload_n 0, 1) := by decide +kernel
theorem dX12_nearer_12 : decode cX12_nearer 12 = .ok (.iload_n 1, 1) := by decide +kernel
theorem dX12_nearer_13 : decode cX12_nearer 13 = .ok (.if_icmp .le 9, 3) := by decide +kernel
theorem dX12_nearer_16 : decode cX12_nearer 16 = .ok (.iload_n 0, 1) := by decide +kernel
theorem dX12_nearer_17 : decode cX12_nearer 17 = .ok (.iconst 1, 1) := by decide +kernel
theorem dX12_nearer_18 : decode cX12_nearer 18 = .ok (.isub, 1) := by decide +kernel
theorem dX12_nearer_19 : decode cX12_nearer 19 = .ok (.goto 4, 3) := by decide +kernel
theorem dX12_nearer_22 : decode cX12_nearer 22 = .ok (.iload_n 0, 1) := by decide +kernel
theorem dX12_nearer_23 : decode cX12_nearer 23 = .ok (.ireturn, 1) := by decide +kernel
theorem dX12_passes_0 : decode cX12_passes 0 = .ok (.aload_n 0, 1) := by decide +kernel
theorem dX12_passes_1 : decode cX12_passes 1 = .ok (.iconst 2, 1) := by decide +kernel
theorem dX12_passes_2 : decode cX12_passes 2 = .ok (.dup2, 1) := by decide +kernel
theorem dX12_passes_3 : decode cX12_passes 3 = .ok (.iaload, 1) := by decide +kernel
theorem dX12_passes_4 : decode cX12_passes 4 = .ok (.iconst 1, 1) := by decide +kernel
theorem dX12_passes_5 : decode cX12_passes 5 = .ok (.iadd, 1) := by decide +kernel
theorem dX12_passes_6 : decode cX12_passes 6 = .ok (.iastore, 1) := by decide +kernel
theorem dX12_passes_7 : decode cX12_passes 7 = .ok (.aload_n 0, 1) := by decide +kernel
theorem dX12_passes_8 : decode cX12_passes 8 = .ok (.iconst 3, 1) := by decide +kernel
theorem dX12_passes_9 : decode cX12_passes 9 = .ok (.iaload, 1) := by decide +kernel
theorem dX12_passes_10 : decode cX12_passes 10 = .ok (.ifCond .le 61, 3) := by decide +kernel
theorem dX12_passes_13 : decode cX12_passes 13 = .ok (.iconst 5, 1) := by decide +kernel
theorem dX12_passes_14 : decode cX12_passes 14 = .ok (.bipush 6, 2) := by decide +kernel
theorem dX12_passes_16 : decode cX12_passes 16 = .ok (.aload_n 0, 1) := by decide +kernel
theorem dX12_passes_17 : decode cX12_passes 17 = .ok (.iconst 3, 1) := by decide +kernel
theorem dX12_passes_18 : decode cX12_passes 18 = .ok (.iaload, 1) := by decide +kernel
theorem dX12_passes_19 : decode cX12_passes 19 = .ok (.iconst 1, 1) := by decide +kernel
theorem dX12_passes_20 : decode cX12_passes 20 = .ok (.isub, 1) := by decide +kernel
theorem dX12_passes_21 : decode cX12_passes 21 = .ok (.imul, 1) := by decide +kernel
theorem dX12_passes_22 : decode cX12_passes 22 = .ok (.iadd, 1) := by decide +kernel
theorem dX12_passes_23 : decode cX12_passes 23 = .ok (.istore_n 1, 1) := by decide +kernel
theorem dX12_passes_24 : decode cX12_passes 24 = .ok (.aload_n 0, 1) := by decide +kernel
theorem dX12_passes_25 : decode cX12_passes 25 = .ok (.iconst 1, 1) := by decide +kernel
theorem dX12_passes_26 : decode cX12_passes 26 = .ok (.iaload, 1) := by decide +kernel
theorem dX12_passes_27 : decode cX12_passes 27 = .ok (.aload_n 0, 1) := by decide +kernel
theorem dX12_passes_28 : decode cX12_passes 28 = .ok (.iload_n 1, 1) := by decide +kernel
theorem dX12_passes_29 : decode cX12_passes 29 = .ok (.iconst 2, 1) := by decide +kernel
theorem dX12_passes_30 : decode cX12_passes 30 = .ok (.iadd, 1) := by decide +kernel
theorem dX12_passes_31 : decode cX12_passes 31 = .ok (.iaload, 1) := by decide +kernel
theorem dX12_passes_32 : decode cX12_passes 32 = .ok (.if_icmp .ne 16, 3) := by decide +kernel
theorem dX12_passes_35 : decode cX12_passes 35 = .ok (.aload_n 0, 1) := by decide +kernel
theorem dX12_passes_36 : decode cX12_passes 36 = .ok (.iload_n 1, 1) := by decide +kernel
theorem dX12_passes_37 : decode cX12_passes 37 = .ok (.iconst 5, 1) := by decide +kernel
theorem dX12_passes_38 : decode cX12_passes 38 = .ok (.iadd, 1) := by decide +kernel
theorem dX12_passes_39 : decode cX12_passes 39 = .ok (.iconst 1, 1) := by decide +kernel
theorem dX12_passes_40 : decode cX12_passes 40 = .ok (.iastore, 1) := by decide +kernel
theorem dX12_passes_41 : decode cX12_passes 41 = .ok (.aload_n 0, 1) := by decide +kernel
theorem dX12_passes_42 : decode cX12_passes 42 = .ok (.iconst 3, 1) := by decide +kernel
theorem dX12_passes_43 : decode cX12_passes 43 = .ok (.iconst 0, 1) := by decide +kernel
theorem dX12_passes_44 : decode cX12_passes 44 = .ok (.iastore, 1) := by decide +kernel
theorem dX12_passes_45 : decode cX12_passes 45 = .ok (.goto 25, 3) := by decide +kernel
theorem dX12_passes_48 : decode cX12_passes 48 = .ok (.aload_n 0, 1) := by decide +kernel
theorem dX12_passes_49 : decode cX12_passes 49 = .ok (.iconst 1, 1) := by decide +kernel
theorem dX12_passes_50 : decode cX12_passes 50 = .ok (.aload_n 0, 1) := by decide +kernel
theorem dX12_passes_51 : decode cX12_passes 51 = .ok (.iconst 1, 1) := by decide +kernel
theorem dX12_passes_52 : decode cX12_passes 52 = .ok (.iaload, 1) := by decide +kernel
theorem dX12_passes_53 : decode cX12_passes 53 = .ok (.aload_n 0, 1) := by decide +kernel
theorem dX12_passes_54 : decode cX12_passes 54 = .ok (.iload_n 1, 1) := by decide +kernel
theorem dX12_passes_55 : decode cX12_passes 55 = .ok (.iconst 2, 1) := by decide +kernel
theorem dX12_passes_56 : decode cX12_passes 56 = .ok (.iadd, 1) := by decide +kernel
theorem dX12_passes_57 : decode cX12_passes 57 = .ok (.iaload, 1) := by decide +kernel
theorem dX12_passes_58 : decode cX12_passes 58 = .ok (.invokestatic 147, 3) := by decide +kernel
theorem dX12_passes_61 : decode cX12_passes 61 = .ok (.iastore, 1) := by decide +kernel
theorem dX12_passes_62 : decode cX12_passes 62 = .ok (.aload_n 0, 1) := by decide +kernel
theorem dX12_passes_63 : decode cX12_passes 63 = .ok (.iload_n 1, 1) := by decide +kernel
theorem dX12_passes_64 : decode cX12_passes 64 = .ok (.iconst 1, 1) := by decide +kernel
theorem dX12_passes_65 : decode cX12_passes 65 = .ok (.iadd, 1) := by decide +kernel
theorem dX12_passes_66 : decode cX12_passes 66 = .ok (.aload_n 0, 1) := by decide +kernel
theorem dX12_passes_67 : decode cX12_passes 67 = .ok (.iconst 1, 1) := by decide +kernel
theorem dX12_passes_68 : decode cX12_passes 68 = .ok (.iaload, 1) := by decide +kernel
theorem dX12_passes_69 : decode cX12_passes 69 = .ok (.iastore, 1) := by decide +kernel
theorem dX12_passes_70 : decode cX12_passes 70 = .ok (.return_, 1) := by decide +kernel
theorem dX12_passes_71 : decode cX12_passes 71 = .ok (.aload_n 0, 1) := by decide +kernel
theorem dX12_passes_72 : decode cX12_passes 72 = .ok (.invokestatic 150, 3) := by decide +kernel
theorem dX12_passes_75 : decode cX12_passes 75 = .ok (.istore_n 1, 1) := by decide +kernel
theorem dX12_passes_76 : decode cX12_passes 76 = .ok (.iload_n 1, 1) := by decide +kernel
theorem dX12_passes_77 : decode cX12_passes 77 = .ok (.ldc 47, 2) := by decide +kernel
theorem dX12_passes_79 : decode cX12_passes 79 = .ok (.if_icmp .ne 4, 3) := by decide +kernel
theorem dX12_passes_82 : decode cX12_passes 82 = .ok (.return_, 1) := by decide +kernel
theorem dX12_passes_83 : decode cX12_passes 83 = .ok (.aload_n 0, 1) := by decide +kernel
theorem dX12_passes_84 : decode cX12_passes 84 = .ok (.iconst 5, 1) := by decide +kernel
theorem dX12_passes_85 : decode cX12_passes 85 = .ok (.bipush 6, 2) := by decide +kernel
theorem dX12_passes_87 : decode cX12_passes 87 = .ok (.iload_n 1, 1) := by decide +kernel
theorem dX12_passes_88 : decode cX12_passes 88 = .ok (.imul, 1) := by decide +kernel
theorem dX12_passes_89 : decode cX12_passes 89 = .ok (.iadd, 1) := by decide +kernel
theorem dX12_passes_90 : decode cX12_passes 90 = .ok (.iconst 1, 1) := by decide +kernel
theorem dX12_passes_91 : decode cX12_passes 91 = .ok (.iadd, 1) := by decide +kernel
theorem dX12_passes_92 : decode cX12_passes 92 = .ok (.iaload, 1) := by decide +kernel
theorem dX12_passes_93 : decode cX12_passes 93 = .ok (.istore_n 2, 1) := by decide +kernel
theorem dX12_passes_94 : decode cX12_passes 94 = .ok (.aload_n 0, 1) := by decide +kernel
theorem dX12_passes_95 : decode cX12_passes 95 = .ok (.iconst 1, 1) := by decide +kernel
theorem dX12_passes_96 : decode cX12_passes 96 = .ok (.iaload, 1) := by decide +kernel
theorem dX12_passes_97 : decode cX12_passes 97 = .ok (.iload_n 2, 1) := by decide +kernel
theorem dX12_passes_98 : decode cX12_passes 98 = .ok (.if_icmp .ne 12, 3) := by decide +kernel
theorem dX12_passes_101 : decode cX12_passes 101 = .ok (.aload_n 0, 1) := by decide +kernel
theorem dX12_passes_102 : decode cX12_passes 102 = .ok (.iconst 3, 1) := by decide +kernel
theorem dX12_passes_103 : decode cX12_passes 103 = .ok (.iload_n 1, 1) := by decide +kernel
theorem dX12_passes_104 : decode cX12_passes 104 = .ok (.iconst 1, 1) := by decide +kernel
theorem dX12_passes_105 : decode cX12_passes 105 = .ok (.iadd, 1) := by decide +kernel
theorem dX12_passes_106 : decode cX12_passes 106 = .ok (.iastore, 1) := by decide +kernel
theorem dX12_passes_107 : decode cX12_passes 107 = .ok (.goto 13, 3) := by decide +kernel
theorem dX12_passes_110 : decode cX12_passes 110 = .ok (.aload_n 0, 1) := by decide +kernel
theorem dX12_passes_111 : decode cX12_passes 111 = .ok (.iconst 1, 1) := by decide +kernel
theorem dX12_passes_112 : decode cX12_passes 112 = .ok (.aload_n 0, 1) := by decide +kernel
theorem dX12_passes_113 : decode cX12_passes 113 = .ok (.iconst 1, 1) := by decide +kernel
theorem dX12_passes_114 : decode cX12_passes 114 = .ok (.iaload, 1) := by decide +kernel
theorem dX12_passes_115 : decode cX12_passes 115 = .ok (.iload_n 2, 1) := by decide +kernel
theorem dX12_passes_116 : decode cX12_passes 116 = .ok (.invokestatic 147, 3) := by decide +kernel
theorem dX12_passes_119 : decode cX12_passes 119 = .ok (.iastore, 1) := by decide +kernel
theorem dX12_passes_120 : decode cX12_passes 120 = .ok (.return_, 1) := by decide +kernel
theorem dX12_broughtIn_0 : decode cX12_broughtIn 0 = .ok (.iconst 0, 1) := by decide +kernel
theorem dX12_broughtIn_1 : decode cX12_broughtIn 1 = .ok (.istore_n 1, 1) := by decide +kernel
theorem dX12_broughtIn_2 : decode cX12_broughtIn 2 = .ok (.iconst 0, 1) := by decide +kernel
theorem dX12_broughtIn_3 : decode cX12_broughtIn 3 = .ok (.istore_n 2, 1) := by decide +kernel
theorem dX12_broughtIn_4 : decode cX12_broughtIn 4 = .ok (.iload_n 2, 1) := by decide +kernel
theorem dX12_broughtIn_5 : decode cX12_broughtIn 5 = .ok (.aload_n 0, 1) := by decide +kernel
theorem dX12_broughtIn_6 : decode cX12_broughtIn 6 = .ok (.iconst 4, 1) := by decide +kernel
theorem dX12_broughtIn_7 : decode cX12_broughtIn 7 = .ok (.iaload, 1) := by decide +kernel
theorem dX12_broughtIn_8 : decode cX12_broughtIn 8 = .ok (.if_icmp .ge 24, 3) := by decide +kernel
theorem dX12_broughtIn_11 : decode cX12_broughtIn 11 = .ok (.iload_n 1, 1) := by decide +kernel
theorem dX12_broughtIn_12 : decode cX12_broughtIn 12 = .ok (.aload_n 0, 1) := by decide +kernel
theorem dX12_broughtIn_13 : decode cX12_broughtIn 13 = .ok (.iconst 5, 1) := by decide +kernel
theorem dX12_broughtIn_14 : decode cX12_broughtIn 14 = .ok (.bipush 6, 2) := by decide +kernel
theorem dX12_broughtIn_16 : decode cX12_broughtIn 16 = .ok (.iload_n 2, 1) := by decide +kernel
theorem dX12_broughtIn_17 : decode cX12_broughtIn 17 = .ok (.imul, 1) := by decide +kernel
theorem dX12_broughtIn_18 : decode cX12_broughtIn 18 = .ok (.iadd, 1) := by decide +kernel
theorem dX12_broughtIn_19 : decode cX12_broughtIn 19 = .ok (.iconst 5, 1) := by decide +kernel
theorem dX12_broughtIn_20 : decode cX12_broughtIn 20 = .ok (.iadd, 1) := by decide +kernel
theorem dX12_broughtIn_21 : decode cX12_broughtIn 21 = .ok (.iaload, 1) := by decide +kernel
theorem dX12_broughtIn_22 : decode cX12_broughtIn 22 = .ok (.iload_n 2, 1) := by decide +kernel
theorem dX12_broughtIn_23 : decode cX12_broughtIn 23 = .ok (.ishl, 1) := by decide +kernel
theorem dX12_broughtIn_24 : decode cX12_broughtIn 24 = .ok (.ior, 1) := by decide +kernel
theorem dX12_broughtIn_25 : decode cX12_broughtIn 25 = .ok (.istore_n 1, 1) := by decide +kernel
theorem dX12_broughtIn_26 : decode cX12_broughtIn 26 = .ok (.iinc 2 1, 3) := by decide +kernel
theorem dX12_broughtIn_29 : decode cX12_broughtIn 29 = .ok (.goto (-25), 3) := by decide +kernel
theorem dX12_broughtIn_32 : decode cX12_broughtIn 32 = .ok (.iload_n 1, 1) := by decide +kernel
theorem dX12_broughtIn_33 : decode cX12_broughtIn 33 = .ok (.ireturn, 1) := by decide +kernel
theorem dX12_tries_0 : decode cX12_tries 0 = .ok (.aload_n 0, 1) := by decide +kernel
theorem dX12_tries_1 : decode cX12_tries 1 = .ok (.getfield 25, 3) := by decide +kernel
theorem dX12_tries_4 : decode cX12_tries 4 = .ok (.iconst 0, 1) := by decide +kernel
theorem dX12_tries_5 : decode cX12_tries 5 = .ok (.aload_n 0, 1) := by decide +kernel
theorem dX12_tries_6 : decode cX12_tries 6 = .ok (.getfield 31, 3) := by decide +kernel
theorem dX12_tries_9 : decode cX12_tries 9 = .ok (.iconst 0, 1) := by decide +kernel
theorem dX12_tries_10 : decode cX12_tries 10 = .ok (.invokestatic 128, 3) := by decide +kernel
theorem dX12_tries_13 : decode cX12_tries 13 = .ok (.iconst 0, 1) := by decide +kernel
theorem dX12_tries_14 : decode cX12_tries 14 = .ok (.istore_n 2, 1) := by decide +kernel
theorem dX12_tries_15 : decode cX12_tries 15 = .ok (.iload_n 2, 1) := by decide +kernel
theorem dX12_tries_16 : decode cX12_tries 16 = .ok (.iload_n 1, 1) := by decide +kernel
theorem dX12_tries_17 : decode cX12_tries 17 = .ok (.if_icmp .ge 16, 3) := by decide +kernel
theorem dX12_tries_20 : decode cX12_tries 20 = .ok (.aload_n 0, 1) := by decide +kernel
theorem dX12_tries_21 : decode cX12_tries 21 = .ok (.getfield 31, 3) := by decide +kernel
theorem dX12_tries_24 : decode cX12_tries 24 = .ok (.invokestatic 154, 3) := by decide +kernel
theorem dX12_tries_27 : decode cX12_tries 27 = .ok (.iinc 2 1, 3) := by decide +kernel
theorem dX12_tries_30 : decode cX12_tries 30 = .ok (.goto (-15), 3) := by decide +kernel
theorem dX12_tries_33 : decode cX12_tries 33 = .ok (.return_, 1) := by decide +kernel
theorem dX12_broughtBy_0 : decode cX12_broughtBy 0 = .ok (.iconst 0, 1) := by decide +kernel
theorem dX12_broughtBy_1 : decode cX12_broughtBy 1 = .ok (.istore_n 3, 1) := by decide +kernel
theorem dX12_broughtBy_2 : decode cX12_broughtBy 2 = .ok (.iload_n 3, 1) := by decide +kernel
theorem dX12_broughtBy_3 : decode cX12_broughtBy 3 = .ok (.iload_n 2, 1) := by decide +kernel
theorem dX12_broughtBy_4 : decode cX12_broughtBy 4 = .ok (.if_icmp .gt 35, 3) := by decide +kernel
theorem dX12_broughtBy_7 : decode cX12_broughtBy 7 = .ok (.aload_n 0, 1) := by decide +kernel
theorem dX12_broughtBy_8 : decode cX12_broughtBy 8 = .ok (.getfield 31, 3) := by decide +kernel
theorem dX12_broughtBy_11 : decode cX12_broughtBy 11 = .ok (.iconst 5, 1) := by decide +kernel
theorem dX12_broughtBy_12 : decode cX12_broughtBy 12 = .ok (.bipush 6, 2) := by decide +kernel
theorem dX12_broughtBy_14 : decode cX12_broughtBy 14 = .ok (.iload_n 1, 1) := by decide +kernel
theorem dX12_broughtBy_15 : decode cX12_broughtBy 15 = .ok (.imul, 1) := by decide +kernel
theorem dX12_broughtBy_16 : decode cX12_broughtBy 16 = .ok (.iadd, 1) := by decide +kernel
theorem dX12_broughtBy_17 : decode cX12_broughtBy 17 = .ok (.iconst 5, 1) := by decide +kernel
theorem dX12_broughtBy_18 : decode cX12_broughtBy 18 = .ok (.iadd, 1) := by decide +kernel
theorem dX12_broughtBy_19 : decode cX12_broughtBy 19 = .ok (.iaload, 1) := by decide +kernel
theorem dX12_broughtBy_20 : decode cX12_broughtBy 20 = .ok (.iconst 1, 1) := by decide +kernel
theorem dX12_broughtBy_21 : decode cX12_broughtBy 21 = .ok (.if_icmp .ne 5, 3) := by decide +kernel
theorem dX12_broughtBy_24 : decode cX12_broughtBy 24 = .ok (.iload_n 3, 1) := by decide +kernel
theorem dX12_broughtBy_25 : decode cX12_broughtBy 25 = .ok (.ireturn, 1) := by decide +kernel
theorem dX12_broughtBy_26 : decode cX12_broughtBy 26 = .ok (.aload_n 0, 1) := by decide +kernel
theorem dX12_broughtBy_27 : decode cX12_broughtBy 27 = .ok (.getfield 31, 3) := by decide +kernel
theorem dX12_broughtBy_30 : decode cX12_broughtBy 30 = .ok (.invokestatic 154, 3) := by decide +kernel
theorem dX12_broughtBy_33 : decode cX12_broughtBy 33 = .ok (.iinc 3 1, 3) := by decide +kernel
theorem dX12_broughtBy_36 : decode cX12_broughtBy 36 = .ok (.goto (-34), 3) := by decide +kernel
theorem dX12_broughtBy_39 : decode cX12_broughtBy 39 = .ok (.ldc 47, 2) := by decide +kernel
theorem dX12_broughtBy_41 : decode cX12_broughtBy 41 = .ok (.ireturn, 1) := by decide +kernel
theorem dX12_notes_0 : decode cX12_notes 0 = .ok (.aload_n 0, 1) := by decide +kernel
theorem dX12_notes_1 : decode cX12_notes 1 = .ok (.getfield 132, 3) := by decide +kernel
theorem dX12_notes_4 : decode cX12_notes 4 = .ok (.bipush 24, 2) := by decide +kernel
theorem dX12_notes_6 : decode cX12_notes 6 = .ok (.if_icmp .ne 43, 3) := by decide +kernel
theorem dX12_notes_9 : decode cX12_notes 9 = .ok (.iconst 0, 1) := by decide +kernel
theorem dX12_notes_10 : decode cX12_notes 10 = .ok (.istore_n 1, 1) := by decide +kernel
theorem dX12_notes_11 : decode cX12_notes 11 = .ok (.iload_n 1, 1) := by decide +kernel
theorem dX12_notes_12 : decode cX12_notes 12 = .ok (.sipush 943, 3) := by decide +kernel
theorem dX12_notes_15 : decode cX12_notes 15 = .ok (.if_icmp .ge 24, 3) := by decide +kernel
theorem dX12_notes_18 : decode cX12_notes 18 = .ok (.aload_n 0, 1) := by decide +kernel
theorem dX12_notes_19 : decode cX12_notes 19 = .ok (.getfield 34, 3) := by decide +kernel
theorem dX12_notes_22 : decode cX12_notes 22 = .ok (.iload_n 1, 1) := by decide +kernel
theorem dX12_notes_23 : decode cX12_notes 23 = .ok (.aload_n 0, 1) := by decide +kernel
theorem dX12_notes_24 : decode cX12_notes 24 = .ok (.getfield 34, 3) := by decide +kernel
theorem dX12_notes_27 : decode cX12_notes 27 = .ok (.iload_n 1, 1) := by decide +kernel
theorem dX12_notes_28 : decode cX12_notes 28 = .ok (.bipush 41, 2) := by decide +kernel
theorem dX12_notes_30 : decode cX12_notes 30 = .ok (.iadd, 1) := by decide +kernel
theorem dX12_notes_31 : decode cX12_notes 31 = .ok (.iaload, 1) := by decide +kernel
theorem dX12_notes_32 : decode cX12_notes 32 = .ok (.iastore, 1) := by decide +kernel
theorem dX12_notes_33 : decode cX12_notes 33 = .ok (.iinc 1 1, 3) := by decide +kernel
theorem dX12_notes_36 : decode cX12_notes 36 = .ok (.goto (-25), 3) := by decide +kernel
theorem dX12_notes_39 : decode cX12_notes 39 = .ok (.aload_n 0, 1) := by decide +kernel
theorem dX12_notes_40 : decode cX12_notes 40 = .ok (.dup, 1) := by decide +kernel
theorem dX12_notes_41 : decode cX12_notes 41 = .ok (.getfield 132, 3) := by decide +kernel
theorem dX12_notes_44 : decode cX12_notes 44 = .ok (.iconst 1, 1) := by decide +kernel
theorem dX12_notes_45 : decode cX12_notes 45 = .ok (.isub, 1) := by decide +kernel
theorem dX12_notes_46 : decode cX12_notes 46 = .ok (.putfield 132, 3) := by decide +kernel
theorem dX12_notes_49 : decode cX12_notes 49 = .ok (.aload_n 0, 1) := by decide +kernel
theorem dX12_notes_50 : decode cX12_notes 50 = .ok (.getfield 25, 3) := by decide +kernel
theorem dX12_notes_53 : decode cX12_notes 53 = .ok (.iconst 0, 1) := by decide +kernel
theorem dX12_notes_54 : decode cX12_notes 54 = .ok (.aload_n 0, 1) := by decide +kernel
theorem dX12_notes_55 : decode cX12_notes 55 = .ok (.getfield 34, 3) := by decide +kernel
theorem dX12_notes_58 : decode cX12_notes 58 = .ok (.bipush 41, 2) := by decide +kernel
theorem dX12_notes_60 : decode cX12_notes 60 = .ok (.aload_n 0, 1) := by decide +kernel
theorem dX12_notes_61 : decode cX12_notes 61 = .ok (.getfield 132, 3) := by decide +kernel
theorem dX12_notes_64 : decode cX12_notes 64 = .ok (.imul, 1) := by decide +kernel
theorem dX12_notes_65 : decode cX12_notes 65 = .ok (.invokestatic 128, 3) := by decide +kernel
theorem dX12_notes_68 : decode cX12_notes 68 = .ok (.aload_n 0, 1) := by decide +kernel
theorem dX12_notes_69 : decode cX12_notes 69 = .ok (.dup, 1) := by decide +kernel
theorem dX12_notes_70 : decode cX12_notes 70 = .ok (.getfield 132, 3) := by decide +kernel
theorem dX12_notes_73 : decode cX12_notes 73 = .ok (.iconst 1, 1) := by decide +kernel
theorem dX12_notes_74 : decode cX12_notes 74 = .ok (.iadd, 1) := by decide +kernel
theorem dX12_notes_75 : decode cX12_notes 75 = .ok (.putfield 132, 3) := by decide +kernel
theorem dX12_notes_78 : decode cX12_notes 78 = .ok (.return_, 1) := by decide +kernel
theorem dX12_steps_0 : decode cX12_steps 0 = .ok (.aload_n 0, 1) := by decide +kernel
theorem dX12_steps_1 : decode cX12_steps 1 = .ok (.invokevirtual 158, 3) := by decide +kernel
theorem dX12_steps_4 : decode cX12_steps 4 = .ok (.ifCond .ne 6, 3) := by decide +kernel
theorem dX12_steps_7 : decode cX12_steps 7 = .ok (.ldc 161, 2) := by decide +kernel
theorem dX12_steps_9 : decode cX12_steps 9 = .ok (.ireturn, 1) := by decide +kernel
theorem dX12_steps_10 : decode cX12_steps 10 = .ok (.iload_n 1, 1) := by decide +kernel
theorem dX12_steps_11 : decode cX12_steps 11 = .ok (.iconst 1, 1) := by decide +kernel
theorem dX12_steps_12 : decode cX12_steps 12 = .ok (.bipush 24, 2) := by decide +kernel
theorem dX12_steps_14 : decode cX12_steps 14 = .ok (.invokestatic 53, 3) := by decide +kernel
theorem dX12_steps_17 : decode cX12_steps 17 = .ok (.ifCond .ne 6, 3) := by decide +kernel
theorem dX12_steps_20 : decode cX12_steps 20 = .ok (.ldc 61, 2) := by decide +kernel
theorem dX12_steps_22 : decode cX12_steps 22 = .ok (.ireturn, 1) := by decide +kernel
theorem dX12_steps_23 : decode cX12_steps 23 = .ok (.aload_n 0, 1) := by decide +kernel
theorem dX12_steps_24 : decode cX12_steps 24 = .ok (.getfield 25, 3) := by decide +kernel
theorem dX12_steps_27 : decode cX12_steps 27 = .ok (.iconst 2, 1) := by decide +kernel
theorem dX12_steps_28 : decode cX12_steps 28 = .ok (.iaload, 1) := by decide +kernel
theorem dX12_steps_29 : decode cX12_steps 29 = .ok (.iload_n 1, 1) := by decide +kernel
theorem dX12_steps_30 : decode cX12_steps 30 = .ok (.iadd, 1) := by decide +kernel
theorem dX12_steps_31 : decode cX12_steps 31 = .ok (.sipush 999, 3) := by decide +kernel
theorem dX12_steps_34 : decode cX12_steps 34 = .ok (.if_icmp .le 6, 3) := by decide +kernel
theorem dX12_steps_37 : decode cX12_steps 37 = .ok (.ldc 82, 2) := by decide +kernel
theorem dX12_steps_39 : decode cX12_steps 39 = .ok (.ireturn, 1) := by decide +kernel
theorem dX12_steps_40 : decode cX12_steps 40 = .ok (.iconst 0, 1) := by decide +kernel
theorem dX12_steps_41 : decode cX12_steps 41 = .ok (.istore_n 2, 1) := by decide +kernel
theorem dX12_steps_42 : decode cX12_steps 42 = .ok (.iload_n 2, 1) := by decide +kernel
theorem dX12_steps_43 : decode cX12_steps 43 = .ok (.iload_n 1, 1) := by decide +kernel
theorem dX12_steps_44 : decode cX12_steps 44 = .ok (.if_icmp .ge 20, 3) := by decide +kernel
theorem dX12_steps_47 : decode cX12_steps 47 = .ok (.aload_n 0, 1) := by decide +kernel
theorem dX12_steps_48 : decode cX12_steps 48 = .ok (.invokevirtual 162, 3) := by decide +kernel
theorem dX12_steps_51 : decode cX12_steps 51 = .ok (.aload_n 0, 1) := by decide +kernel
theorem dX12_steps_52 : decode cX12_steps 52 = .ok (.getfield 25, 3) := by decide +kernel
theorem dX12_steps_55 : decode cX12_steps 55 = .ok (.invokestatic 154, 3) := by decide +kernel
theorem dX12_steps_58 : decode cX12_steps 58 = .ok (.iinc 2 1, 3) := by decide +kernel
theorem dX12_steps_61 : decode cX12_steps 61 = .ok (.goto (-19), 3) := by decide +kernel
theorem dX12_steps_64 : decode cX12_steps 64 = .ok (.aload_n 0, 1) := by decide +kernel
theorem dX12_steps_65 : decode cX12_steps 65 = .ok (.getfield 25, 3) := by decide +kernel
theorem dX12_steps_68 : decode cX12_steps 68 = .ok (.iconst 1, 1) := by decide +kernel
theorem dX12_steps_69 : decode cX12_steps 69 = .ok (.iaload, 1) := by decide +kernel
theorem dX12_steps_70 : decode cX12_steps 70 = .ok (.ireturn, 1) := by decide +kernel
theorem dX12_show_0 : decode cX12_show 0 = .ok (.aload_n 0, 1) := by decide +kernel
theorem dX12_show_1 : decode cX12_show 1 = .ok (.iload_n 1, 1) := by decide +kernel
theorem dX12_show_2 : decode cX12_show 2 = .ok (.invokevirtual 165, 3) := by decide +kernel
theorem dX12_show_5 : decode cX12_show 5 = .ok (.ifCond .eq 13, 3) := by decide +kernel
theorem dX12_show_8 : decode cX12_show 8 = .ok (.iload_n 2, 1) := by decide +kernel
theorem dX12_show_9 : decode cX12_show 9 = .ok (.iconst 0, 1) := by decide +kernel
theorem dX12_show_10 : decode cX12_show 10 = .ok (.bipush 9, 2) := by decide +kernel
theorem dX12_show_12 : decode cX12_show 12 = .ok (.invokestatic 53, 3) := by decide +kernel
theorem dX12_show_15 : decode cX12_show 15 = .ok (.ifCond .ne 6, 3) := by decide +kernel
theorem dX12_show_18 : decode cX12_show 18 = .ok (.ldc 61, 2) := by decide +kernel
theorem dX12_show_20 : decode cX12_show 20 = .ok (.ireturn, 1) := by decide +kernel
theorem dX12_show_21 : decode cX12_show 21 = .ok (.aload_n 0, 1) := by decide +kernel
theorem dX12_show_22 : decode cX12_show 22 = .ok (.invokevirtual 162, 3) := by decide +kernel
theorem dX12_show_25 : decode cX12_show 25 = .ok (.aload_n 0, 1) := by decide +kernel
theorem dX12_show_26 : decode cX12_show 26 = .ok (.getfield 25, 3) := by decide +kernel
theorem dX12_show_29 : decode cX12_show 29 = .ok (.iconst 5, 1) := by decide +kernel
theorem dX12_show_30 : decode cX12_show 30 = .ok (.bipush 6, 2) := by decide +kernel
theorem dX12_show_32 : decode cX12_show 32 = .ok (.iload_n 1, 1) := by decide +kernel
theorem dX12_show_33 : decode cX12_show 33 = .ok (.imul, 1) := by decide +kernel
theorem dX12_show_34 : decode cX12_show 34 = .ok (.iadd, 1) := by decide +kernel
theorem dX12_show_35 : decode cX12_show 35 = .ok (.iconst 3, 1) := by decide +kernel
theorem dX12_show_36 : decode cX12_show 36 = .ok (.iadd, 1) := by decide +kernel
theorem dX12_show_37 : decode cX12_show 37 = .ok (.iaload, 1) := by decide +kernel
theorem dX12_show_38 : decode cX12_show 38 = .ok (.istore_n 3, 1) := by decide +kernel
theorem dX12_show_39 : decode cX12_show 39 = .ok (.aload_n 0, 1) := by decide +kernel
theorem dX12_show_40 : decode cX12_show 40 = .ok (.getfield 25, 3) := by decide +kernel
theorem dX12_show_43 : decode cX12_show 43 = .ok (.iconst 5, 1) := by decide +kernel
theorem dX12_show_44 : decode cX12_show 44 = .ok (.bipush 6, 2) := by decide +kernel
theorem dX12_show_46 : decode cX12_show 46 = .ok (.iload_n 1, 1) := by decide +kernel
theorem dX12_show_47 : decode cX12_show 47 = .ok (.imul, 1) := by decide +kernel
theorem dX12_show_48 : decode cX12_show 48 = .ok (.iadd, 1) := by decide +kernel
theorem dX12_show_49 : decode cX12_show 49 = .ok (.iconst 3, 1) := by decide +kernel
theorem dX12_show_50 : decode cX12_show 50 = .ok (.iadd, 1) := by decide +kernel
theorem dX12_show_51 : decode cX12_show 51 = .ok (.iload_n 2, 1) := by decide +kernel
theorem dX12_show_52 : decode cX12_show 52 = .ok (.iastore, 1) := by decide +kernel
theorem dX12_show_53 : decode cX12_show 53 = .ok (.iload_n 3, 1) := by decide +kernel
theorem dX12_show_54 : decode cX12_show 54 = .ok (.ireturn, 1) := by decide +kernel
theorem dX12_walk_0 : decode cX12_walk 0 = .ok (.aload_n 0, 1) := by decide +kernel
theorem dX12_walk_1 : decode cX12_walk 1 = .ok (.iload_n 1, 1) := by decide +kernel
theorem dX12_walk_2 : decode cX12_walk 2 = .ok (.invokevirtual 165, 3) := by decide +kernel
theorem dX12_walk_5 : decode cX12_walk 5 = .ok (.ifCond .eq 12, 3) := by decide +kernel
theorem dX12_walk_8 : decode cX12_walk 8 = .ok (.iload_n 2, 1) := by decide +kernel
theorem dX12_walk_9 : decode cX12_walk 9 = .ok (.iconst 0, 1) := by decide +kernel
theorem dX12_walk_10 : decode cX12_walk 10 = .ok (.iconst 1, 1) := by decide +kernel
theorem dX12_walk_11 : decode cX12_walk 11 = .ok (.invokestatic 53, 3) := by decide +kernel
theorem dX12_walk_14 : decode cX12_walk 14 = .ok (.ifCond .ne 6, 3) := by decide +kernel
theorem dX12_walk_17 : decode cX12_walk 17 = .ok (.ldc 61, 2) := by decide +kernel
theorem dX12_walk_19 : decode cX12_walk 19 = .ok (.ireturn, 1) := by decide +kernel
theorem dX12_walk_20 : decode cX12_walk 20 = .ok (.aload_n 0, 1) := by decide +kernel
theorem dX12_walk_21 : decode cX12_walk 21 = .ok (.getfield 25, 3) := by decide +kernel
theorem dX12_walk_24 : decode cX12_walk 24 = .ok (.iconst 5, 1) := by decide +kernel
theorem dX12_walk_25 : decode cX12_walk 25 = .ok (.bipush 6, 2) := by decide +kernel
theorem dX12_walk_27 : decode cX12_walk 27 = .ok (.iload_n 1, 1) := by decide +kernel
theorem dX12_walk_28 : decode cX12_walk 28 = .ok (.imul, 1) := by decide +kernel
theorem dX12_walk_29 : decode cX12_walk 29 = .ok (.iadd, 1) := by decide +kernel
theorem dX12_walk_30 : decode cX12_walk 30 = .ok (.iconst 1, 1) := by decide +kernel
theorem dX12_walk_31 : decode cX12_walk 31 = .ok (.iadd, 1) := by decide +kernel
theorem dX12_walk_32 : decode cX12_walk 32 = .ok (.iaload, 1) := by decide +kernel
theorem dX12_walk_33 : decode cX12_walk 33 = .ok (.iconst 2, 1) := by decide +kernel
theorem dX12_walk_34 : decode cX12_walk 34 = .ok (.iload_n 2, 1) := by decide +kernel
theorem dX12_walk_35 : decode cX12_walk 35 = .ok (.imul, 1) := by decide +kernel
theorem dX12_walk_36 : decode cX12_walk 36 = .ok (.iadd, 1) := by decide +kernel
theorem dX12_walk_37 : decode cX12_walk 37 = .ok (.iconst 1, 1) := by decide +kernel
theorem dX12_walk_38 : decode cX12_walk 38 = .ok (.isub, 1) := by decide +kernel
theorem dX12_walk_39 : decode cX12_walk 39 = .ok (.istore_n 3, 1) := by decide +kernel
theorem dX12_walk_40 : decode cX12_walk 40 = .ok (.aload_n 0, 1) := by decide +kernel
theorem dX12_walk_41 : decode cX12_walk 41 = .ok (.getfield 25, 3) := by decide +kernel
theorem dX12_walk_44 : decode cX12_walk 44 = .ok (.iload_n 1, 1) := by decide +kernel
theorem dX12_walk_45 : decode cX12_walk 45 = .ok (.invokestatic 135, 3) := by decide +kernel
theorem dX12_walk_48 : decode cX12_walk 48 = .ok (.ifCond .ne 17, 3) := by decide +kernel
theorem dX12_walk_51 : decode cX12_walk 51 = .ok (.iload_n 3, 1) := by decide +kernel
theorem dX12_walk_52 : decode cX12_walk 52 = .ok (.iconst 0, 1) := by decide +kernel
theorem dX12_walk_53 : decode cX12_walk 53 = .ok (.aload_n 0, 1) := by decide +kernel
theorem dX12_walk_54 : decode cX12_walk 54 = .ok (.getfield 25, 3) := by decide +kernel
theorem dX12_walk_57 : decode cX12_walk 57 = .ok (.iconst 0, 1) := by decide +kernel
theorem dX12_walk_58 : decode cX12_walk 58 = .ok (.iaload, 1) := by decide +kernel
theorem dX12_walk_59 : decode cX12_walk 59 = .ok (.invokestatic 53, 3) := by decide +kernel
theorem dX12_walk_62 : decode cX12_walk 62 = .ok (.ifCond .ne 6, 3) := by decide +kernel
theorem dX12_walk_65 : decode cX12_walk 65 = .ok (.ldc 161, 2) := by decide +kernel
theorem dX12_walk_67 : decode cX12_walk 67 = .ok (.ireturn, 1) := by decide +kernel
theorem dX12_walk_68 : decode cX12_walk 68 = .ok (.aload_n 0, 1) := by decide +kernel
theorem dX12_walk_69 : decode cX12_walk 69 = .ok (.invokevirtual 162, 3) := by decide +kernel
theorem dX12_walk_72 : decode cX12_walk 72 = .ok (.aload_n 0, 1) := by decide +kernel
theorem dX12_walk_73 : decode cX12_walk 73 = .ok (.getfield 25, 3) := by decide +kernel
theorem dX12_walk_76 : decode cX12_walk 76 = .ok (.iconst 5, 1) := by decide +kernel
theorem dX12_walk_77 : decode cX12_walk 77 = .ok (.bipush 6, 2) := by decide +kernel
theorem dX12_walk_79 : decode cX12_walk 79 = .ok (.iload_n 1, 1) := by decide +kernel
theorem dX12_walk_80 : decode cX12_walk 80 = .ok (.imul, 1) := by decide +kernel
theorem dX12_walk_81 : decode cX12_walk 81 = .ok (.iadd, 1) := by decide +kernel
theorem dX12_walk_82 : decode cX12_walk 82 = .ok (.iconst 1, 1) := by decide +kernel
theorem dX12_walk_83 : decode cX12_walk 83 = .ok (.iadd, 1) := by decide +kernel
theorem dX12_walk_84 : decode cX12_walk 84 = .ok (.iload_n 3, 1) := by decide +kernel
theorem dX12_walk_85 : decode cX12_walk 85 = .ok (.iastore, 1) := by decide +kernel
theorem dX12_walk_86 : decode cX12_walk 86 = .ok (.iload_n 3, 1) := by decide +kernel
theorem dX12_walk_87 : decode cX12_walk 87 = .ok (.ireturn, 1) := by decide +kernel
theorem dX12_undo_0 : decode cX12_undo 0 = .ok (.aload_n 0, 1) := by decide +kernel
theorem dX12_undo_1 : decode cX12_undo 1 = .ok (.getfield 132, 3) := by decide +kernel
theorem dX12_undo_4 : decode cX12_undo 4 = .ok (.ifCond .ne 6, 3) := by decide +kernel
theorem dX12_undo_7 : decode cX12_undo 7 = .ok (.ldc 161, 2) := by decide +kernel
theorem dX12_undo_9 : decode cX12_undo 9 = .ok (.ireturn, 1) := by decide +kernel
theorem dX12_undo_10 : decode cX12_undo 10 = .ok (.aload_n 0, 1) := by decide +kernel
theorem dX12_undo_11 : decode cX12_undo 11 = .ok (.dup, 1) := by decide +kernel
theorem dX12_undo_12 : decode cX12_undo 12 = .ok (.getfield 132, 3) := by decide +kernel
theorem dX12_undo_15 : decode cX12_undo 15 = .ok (.iconst 1, 1) := by decide +kernel
theorem dX12_undo_16 : decode cX12_undo 16 = .ok (.isub, 1) := by decide +kernel
theorem dX12_undo_17 : decode cX12_undo 17 = .ok (.putfield 132, 3) := by decide +kernel
theorem dX12_undo_20 : decode cX12_undo 20 = .ok (.aload_n 0, 1) := by decide +kernel
theorem dX12_undo_21 : decode cX12_undo 21 = .ok (.getfield 34, 3) := by decide +kernel
theorem dX12_undo_24 : decode cX12_undo 24 = .ok (.bipush 41, 2) := by decide +kernel
theorem dX12_undo_26 : decode cX12_undo 26 = .ok (.aload_n 0, 1) := by decide +kernel
theorem dX12_undo_27 : decode cX12_undo 27 = .ok (.getfield 132, 3) := by decide +kernel
theorem dX12_undo_30 : decode cX12_undo 30 = .ok (.imul, 1) := by decide +kernel
theorem dX12_undo_31 : decode cX12_undo 31 = .ok (.aload_n 0, 1) := by decide +kernel
theorem dX12_undo_32 : decode cX12_undo 32 = .ok (.getfield 25, 3) := by decide +kernel
theorem dX12_undo_35 : decode cX12_undo 35 = .ok (.iconst 0, 1) := by decide +kernel
theorem dX12_undo_36 : decode cX12_undo 36 = .ok (.invokestatic 128, 3) := by decide +kernel
theorem dX12_undo_39 : decode cX12_undo 39 = .ok (.aload_n 0, 1) := by decide +kernel
theorem dX12_undo_40 : decode cX12_undo 40 = .ok (.getfield 132, 3) := by decide +kernel
theorem dX12_undo_43 : decode cX12_undo 43 = .ok (.ireturn, 1) := by decide +kernel
theorem dX12_person_0 : decode cX12_person 0 = .ok (.aload_n 0, 1) := by decide +kernel
theorem dX12_person_1 : decode cX12_person 1 = .ok (.iload_n 1, 1) := by decide +kernel
theorem dX12_person_2 : decode cX12_person 2 = .ok (.invokevirtual 165, 3) := by decide +kernel
theorem dX12_person_5 : decode cX12_person 5 = .ok (.ifCond .ne 6, 3) := by decide +kernel
theorem dX12_person_8 : decode cX12_person 8 = .ok (.ldc 61, 2) := by decide +kernel
theorem dX12_person_10 : decode cX12_person 10 = .ok (.ireturn, 1) := by decide +kernel
theorem dX12_person_11 : decode cX12_person 11 = .ok (.iconst 5, 1) := by decide +kernel
theorem dX12_person_12 : decode cX12_person 12 = .ok (.bipush 6, 2) := by decide +kernel
theorem dX12_person_14 : decode cX12_person 14 = .ok (.iload_n 1, 1) := by decide +kernel
theorem dX12_person_15 : decode cX12_person 15 = .ok (.imul, 1) := by decide +kernel
theorem dX12_person_16 : decode cX12_person 16 = .ok (.iadd, 1) := by decide +kernel
theorem dX12_person_17 : decode cX12_person 17 = .ok (.istore_n 3, 1) := by decide +kernel
theorem dX12_person_18 : decode cX12_person 18 = .ok (.iload_n 2, 1) := by decide +kernel
theorem dX12_person_19 : decode cX12_person 19 = .ok (.tableswitch 91 0 5 #[37, 46, 55, 64, 73, 82], 37) := by decide +kernel
theorem dX12_person_56 : decode cX12_person 56 = .ok (.aload_n 0, 1) := by decide +kernel
theorem dX12_person_57 : decode cX12_person 57 = .ok (.getfield 25, 3) := by decide +kernel
theorem dX12_person_60 : decode cX12_person 60 = .ok (.iload_n 3, 1) := by decide +kernel
theorem dX12_person_61 : decode cX12_person 61 = .ok (.iconst 1, 1) := by decide +kernel
theorem dX12_person_62 : decode cX12_person 62 = .ok (.iadd, 1) := by decide +kernel
theorem dX12_person_63 : decode cX12_person 63 = .ok (.iaload, 1) := by decide +kernel
theorem dX12_person_64 : decode cX12_person 64 = .ok (.ireturn, 1) := by decide +kernel
theorem dX12_person_65 : decode cX12_person 65 = .ok (.aload_n 0, 1) := by decide +kernel
theorem dX12_person_66 : decode cX12_person 66 = .ok (.getfield 25, 3) := by decide +kernel
theorem dX12_person_69 : decode cX12_person 69 = .ok (.iload_n 3, 1) := by decide +kernel
theorem dX12_person_70 : decode cX12_person 70 = .ok (.iconst 2, 1) := by decide +kernel
theorem dX12_person_71 : decode cX12_person 71 = .ok (.iadd, 1) := by decide +kernel
theorem dX12_person_72 : decode cX12_person 72 = .ok (.iaload, 1) := by decide +kernel
theorem dX12_person_73 : decode cX12_person 73 = .ok (.ireturn, 1) := by decide +kernel
theorem dX12_person_74 : decode cX12_person 74 = .ok (.aload_n 0, 1) := by decide +kernel
theorem dX12_person_75 : decode cX12_person 75 = .ok (.getfield 25, 3) := by decide +kernel
theorem dX12_person_78 : decode cX12_person 78 = .ok (.iload_n 3, 1) := by decide +kernel
theorem dX12_person_79 : decode cX12_person 79 = .ok (.iconst 3, 1) := by decide +kernel
theorem dX12_person_80 : decode cX12_person 80 = .ok (.iadd, 1) := by decide +kernel
theorem dX12_person_81 : decode cX12_person 81 = .ok (.iaload, 1) := by decide +kernel
theorem dX12_person_82 : decode cX12_person 82 = .ok (.ireturn, 1) := by decide +kernel
theorem dX12_person_83 : decode cX12_person 83 = .ok (.aload_n 0, 1) := by decide +kernel
theorem dX12_person_84 : decode cX12_person 84 = .ok (.getfield 25, 3) := by decide +kernel
theorem dX12_person_87 : decode cX12_person 87 = .ok (.iload_n 3, 1) := by decide +kernel
theorem dX12_person_88 : decode cX12_person 88 = .ok (.iconst 4, 1) := by decide +kernel
theorem dX12_person_89 : decode cX12_person 89 = .ok (.iadd, 1) := by decide +kernel
theorem dX12_person_90 : decode cX12_person 90 = .ok (.iaload, 1) := by decide +kernel
theorem dX12_person_91 : decode cX12_person 91 = .ok (.ireturn, 1) := by decide +kernel
theorem dX12_person_92 : decode cX12_person 92 = .ok (.aload_n 0, 1) := by decide +kernel
theorem dX12_person_93 : decode cX12_person 93 = .ok (.getfield 25, 3) := by decide +kernel
theorem dX12_person_96 : decode cX12_person 96 = .ok (.iload_n 1, 1) := by decide +kernel
theorem dX12_person_97 : decode cX12_person 97 = .ok (.invokestatic 143, 3) := by decide +kernel
theorem dX12_person_100 : decode cX12_person 100 = .ok (.ireturn, 1) := by decide +kernel
theorem dX12_person_101 : decode cX12_person 101 = .ok (.aload_n 0, 1) := by decide +kernel
theorem dX12_person_102 : decode cX12_person 102 = .ok (.getfield 25, 3) := by decide +kernel
theorem dX12_person_105 : decode cX12_person 105 = .ok (.iload_n 3, 1) := by decide +kernel
theorem dX12_person_106 : decode cX12_person 106 = .ok (.iconst 5, 1) := by decide +kernel
theorem dX12_person_107 : decode cX12_person 107 = .ok (.iadd, 1) := by decide +kernel
theorem dX12_person_108 : decode cX12_person 108 = .ok (.iaload, 1) := by decide +kernel
theorem dX12_person_109 : decode cX12_person 109 = .ok (.ireturn, 1) := by decide +kernel
theorem dX12_person_110 : decode cX12_person 110 = .ok (.ldc 61, 2) := by decide +kernel
theorem dX12_person_112 : decode cX12_person 112 = .ok (.ireturn, 1) := by decide +kernel
theorem dX12_minds_0 : decode cX12_minds 0 = .ok (.aload_n 0, 1) := by decide +kernel
theorem dX12_minds_1 : decode cX12_minds 1 = .ok (.iload_n 1, 1) := by decide +kernel
theorem dX12_minds_2 : decode cX12_minds 2 = .ok (.invokevirtual 165, 3) := by decide +kernel
theorem dX12_minds_5 : decode cX12_minds 5 = .ok (.ifCond .eq 28, 3) := by decide +kernel
theorem dX12_minds_8 : decode cX12_minds 8 = .ok (.aload_n 0, 1) := by decide +kernel
theorem dX12_minds_9 : decode cX12_minds 9 = .ok (.iload_n 2, 1) := by decide +kernel
theorem dX12_minds_10 : decode cX12_minds 10 = .ok (.invokevirtual 165, 3) := by decide +kernel
theorem dX12_minds_13 : decode cX12_minds 13 = .ok (.ifCond .eq 20, 3) := by decide +kernel
theorem dX12_minds_16 : decode cX12_minds 16 = .ok (.iload_n 1, 1) := by decide +kernel
theorem dX12_minds_17 : decode cX12_minds 17 = .ok (.iload_n 2, 1) := by decide +kernel
theorem dX12_minds_18 : decode cX12_minds 18 = .ok (.if_icmp .eq 15, 3) := by decide +kernel
theorem dX12_minds_21 : decode cX12_minds 21 = .ok (.aload_n 0, 1) := by decide +kernel
theorem dX12_minds_22 : decode cX12_minds 22 = .ok (.getfield 25, 3) := by decide +kernel
theorem dX12_minds_25 : decode cX12_minds 25 = .ok (.iload_n 1, 1) := by decide +kernel
theorem dX12_minds_26 : decode cX12_minds 26 = .ok (.iload_n 2, 1) := by decide +kernel
theorem dX12_minds_27 : decode cX12_minds 27 = .ok (.invokestatic 139, 3) := by decide +kernel
theorem dX12_minds_30 : decode cX12_minds 30 = .ok (.goto 5, 3) := by decide +kernel
theorem dX12_minds_33 : decode cX12_minds 33 = .ok (.ldc 61, 2) := by decide +kernel
theorem dX12_minds_35 : decode cX12_minds 35 = .ok (.ireturn, 1) := by decide +kernel
theorem dX12_riderIn_0 : decode cX12_riderIn 0 = .ok (.aload_n 0, 1) := by decide +kernel
theorem dX12_riderIn_1 : decode cX12_riderIn 1 = .ok (.iconst 3, 1) := by decide +kernel
theorem dX12_riderIn_2 : decode cX12_riderIn 2 = .ok (.iaload, 1) := by decide +kernel
theorem dX12_riderIn_3 : decode cX12_riderIn 3 = .ok (.ifCond .ne 8, 3) := by decide +kernel
theorem dX12_riderIn_6 : decode cX12_riderIn 6 = .ok (.ldc 47, 2) := by decide +kernel
theorem dX12_riderIn_8 : decode cX12_riderIn 8 = .ok (.goto 8, 3) := by decide +kernel
theorem dX12_riderIn_11 : decode cX12_riderIn 11 = .ok (.aload_n 0, 1) := by decide +kernel
theorem dX12_riderIn_12 : decode cX12_riderIn 12 = .ok (.iconst 3, 1) := by decide +kernel
theorem dX12_riderIn_13 : decode cX12_riderIn 13 = .ok (.iaload, 1) := by decide +kernel
theorem dX12_riderIn_14 : decode cX12_riderIn 14 = .ok (.iconst 1, 1) := by decide +kernel
theorem dX12_riderIn_15 : decode cX12_riderIn 15 = .ok (.isub, 1) := by decide +kernel
theorem dX12_riderIn_16 : decode cX12_riderIn 16 = .ok (.ireturn, 1) := by decide +kernel
theorem dX12_car_0 : decode cX12_car 0 = .ok (.aload_n 0, 1) := by decide +kernel
theorem dX12_car_1 : decode cX12_car 1 = .ok (.invokevirtual 158, 3) := by decide +kernel
theorem dX12_car_4 : decode cX12_car 4 = .ok (.ifCond .ne 6, 3) := by decide +kernel
theorem dX12_car_7 : decode cX12_car 7 = .ok (.ldc 161, 2) := by decide +kernel
theorem dX12_car_9 : decode cX12_car 9 = .ok (.ireturn, 1) := by decide +kernel
theorem dX12_car_10 : decode cX12_car 10 = .ok (.iload_n 1, 1) := by decide +kernel
theorem dX12_car_11 : decode cX12_car 11 = .ok (.tableswitch 60 0 3 #[29, 36, 44, 52], 29) := by decide +kernel
theorem dX12_car_40 : decode cX12_car 40 = .ok (.aload_n 0, 1) := by decide +kernel
theorem dX12_car_41 : decode cX12_car 41 = .ok (.getfield 25, 3) := by decide +kernel
theorem dX12_car_44 : decode cX12_car 44 = .ok (.iconst 1, 1) := by decide +kernel
theorem dX12_car_45 : decode cX12_car 45 = .ok (.iaload, 1) := by decide +kernel
theorem dX12_car_46 : decode cX12_car 46 = .ok (.ireturn, 1) := by decide +kernel
theorem dX12_car_47 : decode cX12_car 47 = .ok (.aload_n 0, 1) := by decide +kernel
theorem dX12_car_48 : decode cX12_car 48 = .ok (.getfield 25, 3) := by decide +kernel
theorem dX12_car_51 : decode cX12_car 51 = .ok (.invokestatic 168, 3) := by decide +kernel
theorem dX12_car_54 : decode cX12_car 54 = .ok (.ireturn, 1) := by decide +kernel
theorem dX12_car_55 : decode cX12_car 55 = .ok (.aload_n 0, 1) := by decide +kernel
theorem dX12_car_56 : decode cX12_car 56 = .ok (.getfield 25, 3) := by decide +kernel
theorem dX12_car_59 : decode cX12_car 59 = .ok (.invokestatic 150, 3) := by decide +kernel
theorem dX12_car_62 : decode cX12_car 62 = .ok (.ireturn, 1) := by decide +kernel
theorem dX12_car_63 : decode cX12_car 63 = .ok (.aload_n 0, 1) := by decide +kernel
theorem dX12_car_64 : decode cX12_car 64 = .ok (.getfield 25, 3) := by decide +kernel
theorem dX12_car_67 : decode cX12_car 67 = .ok (.invokestatic 171, 3) := by decide +kernel
theorem dX12_car_70 : decode cX12_car 70 = .ok (.ireturn, 1) := by decide +kernel
theorem dX12_car_71 : decode cX12_car 71 = .ok (.ldc 61, 2) := by decide +kernel
theorem dX12_car_73 : decode cX12_car 73 = .ok (.ireturn, 1) := by decide +kernel
theorem dX12_ahead_0 : decode cX12_ahead 0 = .ok (.aload_n 0, 1) := by decide +kernel
theorem dX12_ahead_1 : decode cX12_ahead 1 = .ok (.invokevirtual 158, 3) := by decide +kernel
theorem dX12_ahead_4 : decode cX12_ahead 4 = .ok (.ifCond .ne 6, 3) := by decide +kernel
theorem dX12_ahead_7 : decode cX12_ahead 7 = .ok (.ldc 161, 2) := by decide +kernel
theorem dX12_ahead_9 : decode cX12_ahead 9 = .ok (.ireturn, 1) := by decide +kernel
theorem dX12_ahead_10 : decode cX12_ahead 10 = .ok (.iload_n 1, 1) := by decide +kernel
theorem dX12_ahead_11 : decode cX12_ahead 11 = .ok (.invokestatic 174, 3) := by decide +kernel
theorem dX12_ahead_14 : decode cX12_ahead 14 = .ok (.ifCond .eq 12, 3) := by decide +kernel
theorem dX12_ahead_17 : decode cX12_ahead 17 = .ok (.iload_n 2, 1) := by decide +kernel
theorem dX12_ahead_18 : decode cX12_ahead 18 = .ok (.iconst 0, 1) := by decide +kernel
theorem dX12_ahead_19 : decode cX12_ahead 19 = .ok (.iconst 2, 1) := by decide +kernel
theorem dX12_ahead_20 : decode cX12_ahead 20 = .ok (.invokestatic 53, 3) := by decide +kernel
theorem dX12_ahead_23 : decode cX12_ahead 23 = .ok (.ifCond .ne 6, 3) := by decide +kernel
theorem dX12_ahead_26 : decode cX12_ahead 26 = .ok (.ldc 61, 2) := by decide +kernel
theorem dX12_ahead_28 : decode cX12_ahead 28 = .ok (.ireturn, 1) := by decide +kernel
theorem dX12_ahead_29 : decode cX12_ahead 29 = .ok (.aload_n 0, 1) := by decide +kernel
theorem dX12_ahead_30 : decode cX12_ahead 30 = .ok (.iload_n 1, 1) := by decide +kernel
theorem dX12_ahead_31 : decode cX12_ahead 31 = .ok (.invokevirtual 177, 3) := by decide +kernel
theorem dX12_ahead_34 : decode cX12_ahead 34 = .ok (.iload_n 2, 1) := by decide +kernel
theorem dX12_ahead_35 : decode cX12_ahead 35 = .ok (.ifCond .ne 12, 3) := by decide +kernel
theorem dX12_ahead_38 : decode cX12_ahead 38 = .ok (.aload_n 0, 1) := by decide +kernel
theorem dX12_ahead_39 : decode cX12_ahead 39 = .ok (.getfield 31, 3) := by decide +kernel
theorem dX12_ahead_42 : decode cX12_ahead 42 = .ok (.iconst 1, 1) := by decide +kernel
theorem dX12_ahead_43 : decode cX12_ahead 43 = .ok (.iaload, 1) := by decide +kernel
theorem dX12_ahead_44 : decode cX12_ahead 44 = .ok (.goto 25, 3) := by decide +kernel
theorem dX12_ahead_47 : decode cX12_ahead 47 = .ok (.iload_n 2, 1) := by decide +kernel
theorem dX12_ahead_48 : decode cX12_ahead 48 = .ok (.iconst 1, 1) := by decide +kernel
theorem dX12_ahead_49 : decode cX12_ahead 49 = .ok (.if_icmp .ne 13, 3) := by decide +kernel
theorem dX12_ahead_52 : decode cX12_ahead 52 = .ok (.aload_n 0, 1) := by decide +kernel
theorem dX12_ahead_53 : decode cX12_ahead 53 = .ok (.getfield 31, 3) := by decide +kernel
theorem dX12_ahead_56 : decode cX12_ahead 56 = .ok (.invokestatic 168, 3) := by decide +kernel
theorem dX12_ahead_59 : decode cX12_ahead 59 = .ok (.goto 10, 3) := by decide +kernel
theorem dX12_ahead_62 : decode cX12_ahead 62 = .ok (.aload_n 0, 1) := by decide +kernel
theorem dX12_ahead_63 : decode cX12_ahead 63 = .ok (.getfield 31, 3) := by decide +kernel
theorem dX12_ahead_66 : decode cX12_ahead 66 = .ok (.invokestatic 171, 3) := by decide +kernel
theorem dX12_ahead_69 : decode cX12_ahead 69 = .ok (.ireturn, 1) := by decide +kernel
theorem dX12_when_0 : decode cX12_when 0 = .ok (.aload_n 0, 1) := by decide +kernel
theorem dX12_when_1 : decode cX12_when 1 = .ok (.iload_n 1, 1) := by decide +kernel
theorem dX12_when_2 : decode cX12_when 2 = .ok (.invokevirtual 165, 3) := by decide +kernel
theorem dX12_when_5 : decode cX12_when 5 = .ok (.ifCond .ne 6, 3) := by decide +kernel
theorem dX12_when_8 : decode cX12_when 8 = .ok (.ldc 61, 2) := by decide +kernel
theorem dX12_when_10 : decode cX12_when 10 = .ok (.ireturn, 1) := by decide +kernel
theorem dX12_when_11 : decode cX12_when 11 = .ok (.aload_n 0, 1) := by decide +kernel
theorem dX12_when_12 : decode cX12_when 12 = .ok (.iconst 0, 1) := by decide +kernel
theorem dX12_when_13 : decode cX12_when 13 = .ok (.invokevirtual 177, 3) := by decide +kernel
theorem dX12_when_16 : decode cX12_when 16 = .ok (.aload_n 0, 1) := by decide +kernel
