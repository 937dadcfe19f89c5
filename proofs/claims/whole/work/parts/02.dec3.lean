theorem dX11_goesYear_172 : decode cX11_goesYear 172 = .ok (.dup2, 1) := by decide +kernel
theorem dX11_goesYear_173 : decode cX11_goesYear 173 = .ok (.iaload, 1) := by decide +kernel
theorem dX11_goesYear_174 : decode cX11_goesYear 174 = .ok (.aload_n 0, 1) := by decide +kernel
theorem dX11_goesYear_175 : decode cX11_goesYear 175 = .ok (.getfield 9, 3) := by decide +kernel
theorem dX11_goesYear_178 : decode cX11_goesYear 178 = .ok (.bipush 15, 2) := by decide +kernel
theorem dX11_goesYear_180 : decode cX11_goesYear 180 = .ok (.iload_n 1, 1) := by decide +kernel
theorem dX11_goesYear_181 : decode cX11_goesYear 181 = .ok (.iadd, 1) := by decide +kernel
theorem dX11_goesYear_182 : decode cX11_goesYear 182 = .ok (.iaload, 1) := by decide +kernel
theorem dX11_goesYear_183 : decode cX11_goesYear 183 = .ok (.iadd, 1) := by decide +kernel
theorem dX11_goesYear_184 : decode cX11_goesYear 184 = .ok (.iastore, 1) := by decide +kernel
theorem dX11_goesYear_185 : decode cX11_goesYear 185 = .ok (.aload_n 0, 1) := by decide +kernel
theorem dX11_goesYear_186 : decode cX11_goesYear 186 = .ok (.getfield 43, 3) := by decide +kernel
theorem dX11_goesYear_189 : decode cX11_goesYear 189 = .ok (.iload_n 1, 1) := by decide +kernel
theorem dX11_goesYear_190 : decode cX11_goesYear 190 = .ok (.dup2, 1) := by decide +kernel
theorem dX11_goesYear_191 : decode cX11_goesYear 191 = .ok (.iaload, 1) := by decide +kernel
theorem dX11_goesYear_192 : decode cX11_goesYear 192 = .ok (.aload_n 0, 1) := by decide +kernel
theorem dX11_goesYear_193 : decode cX11_goesYear 193 = .ok (.getfield 43, 3) := by decide +kernel
theorem dX11_goesYear_196 : decode cX11_goesYear 196 = .ok (.iload_n 1, 1) := by decide +kernel
theorem dX11_goesYear_197 : decode cX11_goesYear 197 = .ok (.iaload, 1) := by decide +kernel
theorem dX11_goesYear_198 : decode cX11_goesYear 198 = .ok (.bipush 99, 2) := by decide +kernel
theorem dX11_goesYear_200 : decode cX11_goesYear 200 = .ok (.if_icmp .ge 7, 3) := by decide +kernel
theorem dX11_goesYear_203 : decode cX11_goesYear 203 = .ok (.iconst 1, 1) := by decide +kernel
theorem dX11_goesYear_204 : decode cX11_goesYear 204 = .ok (.goto 4, 3) := by decide +kernel
theorem dX11_goesYear_207 : decode cX11_goesYear 207 = .ok (.iconst 0, 1) := by decide +kernel
theorem dX11_goesYear_208 : decode cX11_goesYear 208 = .ok (.iadd, 1) := by decide +kernel
theorem dX11_goesYear_209 : decode cX11_goesYear 209 = .ok (.iastore, 1) := by decide +kernel
theorem dX11_goesYear_210 : decode cX11_goesYear 210 = .ok (.iinc 1 1, 3) := by decide +kernel
theorem dX11_goesYear_213 : decode cX11_goesYear 213 = .ok (.goto (-84), 3) := by decide +kernel
theorem dX11_goesYear_216 : decode cX11_goesYear 216 = .ok (.return_, 1) := by decide +kernel
theorem dX11_fix_0 : decode cX11_fix 0 = .ok (.iload_n 1, 1) := by decide +kernel
theorem dX11_fix_1 : decode cX11_fix 1 = .ok (.ifCond .lt 25, 3) := by decide +kernel
theorem dX11_fix_4 : decode cX11_fix 4 = .ok (.aload_n 0, 1) := by decide +kernel
theorem dX11_fix_5 : decode cX11_fix 5 = .ok (.iload_n 1, 1) := by decide +kernel
theorem dX11_fix_6 : decode cX11_fix 6 = .ok (.bipush 10, 2) := by decide +kernel
theorem dX11_fix_8 : decode cX11_fix 8 = .ok (.idiv, 1) := by decide +kernel
theorem dX11_fix_9 : decode cX11_fix 9 = .ok (.invokevirtual 168, 3) := by decide +kernel
theorem dX11_fix_12 : decode cX11_fix 12 = .ok (.ifCond .eq 14, 3) := by decide +kernel
theorem dX11_fix_15 : decode cX11_fix 15 = .ok (.aload_n 0, 1) := by decide +kernel
theorem dX11_fix_16 : decode cX11_fix 16 = .ok (.iload_n 1, 1) := by decide +kernel
theorem dX11_fix_17 : decode cX11_fix 17 = .ok (.bipush 10, 2) := by decide +kernel
theorem dX11_fix_19 : decode cX11_fix 19 = .ok (.irem, 1) := by decide +kernel
theorem dX11_fix_20 : decode cX11_fix 20 = .ok (.invokevirtual 159, 3) := by decide +kernel
theorem dX11_fix_23 : decode cX11_fix 23 = .ok (.ifCond .ne 5, 3) := by decide +kernel
theorem dX11_fix_26 : decode cX11_fix 26 = .ok (.iconst (-1), 1) := by decide +kernel
theorem dX11_fix_27 : decode cX11_fix 27 = .ok (.ireturn, 1) := by decide +kernel
theorem dX11_fix_28 : decode cX11_fix 28 = .ok (.aload_n 0, 1) := by decide +kernel
theorem dX11_fix_29 : decode cX11_fix 29 = .ok (.iload_n 1, 1) := by decide +kernel
theorem dX11_fix_30 : decode cX11_fix 30 = .ok (.bipush 10, 2) := by decide +kernel
theorem dX11_fix_32 : decode cX11_fix 32 = .ok (.idiv, 1) := by decide +kernel
theorem dX11_fix_33 : decode cX11_fix 33 = .ok (.iload_n 1, 1) := by decide +kernel
theorem dX11_fix_34 : decode cX11_fix 34 = .ok (.bipush 10, 2) := by decide +kernel
theorem dX11_fix_36 : decode cX11_fix 36 = .ok (.irem, 1) := by decide +kernel
theorem dX11_fix_37 : decode cX11_fix 37 = .ok (.invokevirtual 320, 3) := by decide +kernel
theorem dX11_fix_40 : decode cX11_fix 40 = .ok (.aload_n 0, 1) := by decide +kernel
theorem dX11_fix_41 : decode cX11_fix 41 = .ok (.getfield 34, 3) := by decide +kernel
theorem dX11_fix_44 : decode cX11_fix 44 = .ok (.iload_n 1, 1) := by decide +kernel
theorem dX11_fix_45 : decode cX11_fix 45 = .ok (.bipush 10, 2) := by decide +kernel
theorem dX11_fix_47 : decode cX11_fix 47 = .ok (.idiv, 1) := by decide +kernel
theorem dX11_fix_48 : decode cX11_fix 48 = .ok (.iaload, 1) := by decide +kernel
theorem dX11_fix_49 : decode cX11_fix 49 = .ok (.ireturn, 1) := by decide +kernel
theorem dX11_years_0 : decode cX11_years 0 = .ok (.iload_n 2, 1) := by decide +kernel
theorem dX11_years_1 : decode cX11_years 1 = .ok (.i2l, 1) := by decide +kernel
theorem dX11_years_2 : decode cX11_years 2 = .ok (.lconst 1, 1) := by decide +kernel
theorem dX11_years_3 : decode cX11_years 3 = .ok (.ldc2_w 330, 3) := by decide +kernel
theorem dX11_years_6 : decode cX11_years 6 = .ok (.invokestatic 127, 3) := by decide +kernel
theorem dX11_years_9 : decode cX11_years 9 = .ok (.ifCond .ne 5, 3) := by decide +kernel
theorem dX11_years_12 : decode cX11_years 12 = .ok (.iconst (-1), 1) := by decide +kernel
theorem dX11_years_13 : decode cX11_years 13 = .ok (.ireturn, 1) := by decide +kernel
theorem dX11_years_14 : decode cX11_years 14 = .ok (.aload_n 0, 1) := by decide +kernel
theorem dX11_years_15 : decode cX11_years 15 = .ok (.invokevirtual 332, 3) := by decide +kernel
theorem dX11_years_18 : decode cX11_years 18 = .ok (.aload_n 0, 1) := by decide +kernel
theorem dX11_years_19 : decode cX11_years 19 = .ok (.iload_n 1, 1) := by decide +kernel
theorem dX11_years_20 : decode cX11_years 20 = .ok (.putfield 323, 3) := by decide +kernel
theorem dX11_years_23 : decode cX11_years 23 = .ok (.aload_n 0, 1) := by decide +kernel
theorem dX11_years_24 : decode cX11_years 24 = .ok (.iconst 0, 1) := by decide +kernel
theorem dX11_years_25 : decode cX11_years 25 = .ok (.putfield 314, 3) := by decide +kernel
theorem dX11_years_28 : decode cX11_years 28 = .ok (.iconst 0, 1) := by decide +kernel
theorem dX11_years_29 : decode cX11_years 29 = .ok (.istore_n 3, 1) := by decide +kernel
theorem dX11_years_30 : decode cX11_years 30 = .ok (.iload_n 3, 1) := by decide +kernel
theorem dX11_years_31 : decode cX11_years 31 = .ok (.iload_n 2, 1) := by decide +kernel
theorem dX11_years_32 : decode cX11_years 32 = .ok (.if_icmp .ge 13, 3) := by decide +kernel
theorem dX11_years_35 : decode cX11_years 35 = .ok (.aload_n 0, 1) := by decide +kernel
theorem dX11_years_36 : decode cX11_years 36 = .ok (.invokevirtual 335, 3) := by decide +kernel
theorem dX11_years_39 : decode cX11_years 39 = .ok (.iinc 3 1, 3) := by decide +kernel
theorem dX11_years_42 : decode cX11_years 42 = .ok (.goto (-12), 3) := by decide +kernel
theorem dX11_years_45 : decode cX11_years 45 = .ok (.aload_n 0, 1) := by decide +kernel
theorem dX11_years_46 : decode cX11_years 46 = .ok (.dup, 1) := by decide +kernel
theorem dX11_years_47 : decode cX11_years 47 = .ok (.getfield 338, 3) := by decide +kernel
theorem dX11_years_50 : decode cX11_years 50 = .ok (.aload_n 0, 1) := by decide +kernel
theorem dX11_years_51 : decode cX11_years 51 = .ok (.getfield 314, 3) := by decide +kernel
theorem dX11_years_54 : decode cX11_years 54 = .ok (.iadd, 1) := by decide +kernel
theorem dX11_years_55 : decode cX11_years 55 = .ok (.putfield 338, 3) := by decide +kernel
theorem dX11_years_58 : decode cX11_years 58 = .ok (.aload_n 0, 1) := by decide +kernel
theorem dX11_years_59 : decode cX11_years 59 = .ok (.dup, 1) := by decide +kernel
theorem dX11_years_60 : decode cX11_years 60 = .ok (.getfield 341, 3) := by decide +kernel
theorem dX11_years_63 : decode cX11_years 63 = .ok (.iload_n 2, 1) := by decide +kernel
theorem dX11_years_64 : decode cX11_years 64 = .ok (.aload_n 0, 1) := by decide +kernel
theorem dX11_years_65 : decode cX11_years 65 = .ok (.getfield 131, 3) := by decide +kernel
theorem dX11_years_68 : decode cX11_years 68 = .ok (.imul, 1) := by decide +kernel
theorem dX11_years_69 : decode cX11_years 69 = .ok (.aload_n 0, 1) := by decide +kernel
theorem dX11_years_70 : decode cX11_years 70 = .ok (.getfield 314, 3) := by decide +kernel
theorem dX11_years_73 : decode cX11_years 73 = .ok (.isub, 1) := by decide +kernel
theorem dX11_years_74 : decode cX11_years 74 = .ok (.iadd, 1) := by decide +kernel
theorem dX11_years_75 : decode cX11_years 75 = .ok (.putfield 341, 3) := by decide +kernel
theorem dX11_years_78 : decode cX11_years 78 = .ok (.aload_n 0, 1) := by decide +kernel
theorem dX11_years_79 : decode cX11_years 79 = .ok (.getfield 314, 3) := by decide +kernel
theorem dX11_years_82 : decode cX11_years 82 = .ok (.ireturn, 1) := by decide +kernel
theorem dX11_paid_0 : decode cX11_paid 0 = .ok (.aload_n 0, 1) := by decide +kernel
theorem dX11_paid_1 : decode cX11_paid 1 = .ok (.iload_n 1, 1) := by decide +kernel
theorem dX11_paid_2 : decode cX11_paid 2 = .ok (.invokevirtual 168, 3) := by decide +kernel
theorem dX11_paid_5 : decode cX11_paid 5 = .ok (.ifCond .eq 12, 3) := by decide +kernel
theorem dX11_paid_8 : decode cX11_paid 8 = .ok (.aload_n 0, 1) := by decide +kernel
theorem dX11_paid_9 : decode cX11_paid 9 = .ok (.getfield 52, 3) := by decide +kernel
theorem dX11_paid_12 : decode cX11_paid 12 = .ok (.iload_n 1, 1) := by decide +kernel
theorem dX11_paid_13 : decode cX11_paid 13 = .ok (.iaload, 1) := by decide +kernel
theorem dX11_paid_14 : decode cX11_paid 14 = .ok (.goto 4, 3) := by decide +kernel
theorem dX11_paid_17 : decode cX11_paid 17 = .ok (.iconst (-1), 1) := by decide +kernel
theorem dX11_paid_18 : decode cX11_paid 18 = .ok (.ireturn, 1) := by decide +kernel
theorem dX11_layer_0 : decode cX11_layer 0 = .ok (.aload_n 0, 1) := by decide +kernel
theorem dX11_layer_1 : decode cX11_layer 1 = .ok (.iload_n 1, 1) := by decide +kernel
theorem dX11_layer_2 : decode cX11_layer 2 = .ok (.invokevirtual 168, 3) := by decide +kernel
theorem dX11_layer_5 : decode cX11_layer 5 = .ok (.ifCond .eq 35, 3) := by decide +kernel
theorem dX11_layer_8 : decode cX11_layer 8 = .ok (.iload_n 2, 1) := by decide +kernel
theorem dX11_layer_9 : decode cX11_layer 9 = .ok (.i2l, 1) := by decide +kernel
theorem dX11_layer_10 : decode cX11_layer 10 = .ok (.lconst 0, 1) := by decide +kernel
theorem dX11_layer_11 : decode cX11_layer 11 = .ok (.aload_n 0, 1) := by decide +kernel
theorem dX11_layer_12 : decode cX11_layer 12 = .ok (.getfield 49, 3) := by decide +kernel
theorem dX11_layer_15 : decode cX11_layer 15 = .ok (.iload_n 1, 1) := by decide +kernel
theorem dX11_layer_16 : decode cX11_layer 16 = .ok (.iaload, 1) := by decide +kernel
theorem dX11_layer_17 : decode cX11_layer 17 = .ok (.iconst 1, 1) := by decide +kernel
theorem dX11_layer_18 : decode cX11_layer 18 = .ok (.isub, 1) := by decide +kernel
theorem dX11_layer_19 : decode cX11_layer 19 = .ok (.i2l, 1) := by decide +kernel
theorem dX11_layer_20 : decode cX11_layer 20 = .ok (.invokestatic 127, 3) := by decide +kernel
theorem dX11_layer_23 : decode cX11_layer 23 = .ok (.ifCond .eq 17, 3) := by decide +kernel
theorem dX11_layer_26 : decode cX11_layer 26 = .ok (.aload_n 0, 1) := by decide +kernel
theorem dX11_layer_27 : decode cX11_layer 27 = .ok (.getfield 46, 3) := by decide +kernel
theorem dX11_layer_30 : decode cX11_layer 30 = .ok (.bipush 8, 2) := by decide +kernel
theorem dX11_layer_32 : decode cX11_layer 32 = .ok (.iload_n 1, 1) := by decide +kernel
theorem dX11_layer_33 : decode cX11_layer 33 = .ok (.imul, 1) := by decide +kernel
theorem dX11_layer_34 : decode cX11_layer 34 = .ok (.iload_n 2, 1) := by decide +kernel
theorem dX11_layer_35 : decode cX11_layer 35 = .ok (.iadd, 1) := by decide +kernel
theorem dX11_layer_36 : decode cX11_layer 36 = .ok (.iaload, 1) := by decide +kernel
theorem dX11_layer_37 : decode cX11_layer 37 = .ok (.goto 4, 3) := by decide +kernel
theorem dX11_layer_40 : decode cX11_layer 40 = .ok (.iconst (-1), 1) := by decide +kernel
theorem dX11_layer_41 : decode cX11_layer 41 = .ok (.ireturn, 1) := by decide +kernel
theorem dX11_told_0 : decode cX11_told 0 = .ok (.iload_n 1, 1) := by decide +kernel
theorem dX11_told_1 : decode cX11_told 1 = .ok (.invokestatic 145, 3) := by decide +kernel
theorem dX11_told_4 : decode cX11_told 4 = .ok (.ifCond .eq 11, 3) := by decide +kernel
theorem dX11_told_7 : decode cX11_told 7 = .ok (.aload_n 0, 1) := by decide +kernel
theorem dX11_told_8 : decode cX11_told 8 = .ok (.iload_n 2, 1) := by decide +kernel
theorem dX11_told_9 : decode cX11_told 9 = .ok (.invokevirtual 168, 3) := by decide +kernel
theorem dX11_told_12 : decode cX11_told 12 = .ok (.ifCond .ne 5, 3) := by decide +kernel
theorem dX11_told_15 : decode cX11_told 15 = .ok (.iconst (-1), 1) := by decide +kernel
theorem dX11_told_16 : decode cX11_told 16 = .ok (.ireturn, 1) := by decide +kernel
theorem dX11_told_17 : decode cX11_told 17 = .ok (.aload_n 0, 1) := by decide +kernel
theorem dX11_told_18 : decode cX11_told 18 = .ok (.getfield 102, 3) := by decide +kernel
theorem dX11_told_21 : decode cX11_told 21 = .ok (.iload_n 1, 1) := by decide +kernel
theorem dX11_told_22 : decode cX11_told 22 = .ok (.iaload, 1) := by decide +kernel
theorem dX11_told_23 : decode cX11_told 23 = .ok (.ifCond .ge 6, 3) := by decide +kernel
theorem dX11_told_26 : decode cX11_told 26 = .ok (.bipush (-11), 2) := by decide +kernel
theorem dX11_told_28 : decode cX11_told 28 = .ok (.ireturn, 1) := by decide +kernel
theorem dX11_told_29 : decode cX11_told 29 = .ok (.aload_n 0, 1) := by decide +kernel
theorem dX11_told_30 : decode cX11_told 30 = .ok (.getfield 102, 3) := by decide +kernel
theorem dX11_told_33 : decode cX11_told 33 = .ok (.iload_n 1, 1) := by decide +kernel
theorem dX11_told_34 : decode cX11_told 34 = .ok (.iaload, 1) := by decide +kernel
theorem dX11_told_35 : decode cX11_told 35 = .ok (.bipush 50, 2) := by decide +kernel
theorem dX11_told_37 : decode cX11_told 37 = .ok (.if_icmp .eq 6, 3) := by decide +kernel
theorem dX11_told_40 : decode cX11_told 40 = .ok (.bipush (-12), 2) := by decide +kernel
theorem dX11_told_42 : decode cX11_told 42 = .ok (.ireturn, 1) := by decide +kernel
theorem dX11_told_43 : decode cX11_told 43 = .ok (.aload_n 0, 1) := by decide +kernel
theorem dX11_told_44 : decode cX11_told 44 = .ok (.getfield 105, 3) := by decide +kernel
theorem dX11_told_47 : decode cX11_told 47 = .ok (.iload_n 1, 1) := by decide +kernel
theorem dX11_told_48 : decode cX11_told 48 = .ok (.iaload, 1) := by decide +kernel
theorem dX11_told_49 : decode cX11_told 49 = .ok (.aload_n 0, 1) := by decide +kernel
theorem dX11_told_50 : decode cX11_told 50 = .ok (.getfield 49, 3) := by decide +kernel
theorem dX11_told_53 : decode cX11_told 53 = .ok (.iload_n 2, 1) := by decide +kernel
theorem dX11_told_54 : decode cX11_told 54 = .ok (.iaload, 1) := by decide +kernel
theorem dX11_told_55 : decode cX11_told 55 = .ok (.if_icmp .ge 12, 3) := by decide +kernel
theorem dX11_told_58 : decode cX11_told 58 = .ok (.aload_n 0, 1) := by decide +kernel
theorem dX11_told_59 : decode cX11_told 59 = .ok (.getfield 105, 3) := by decide +kernel
theorem dX11_told_62 : decode cX11_told 62 = .ok (.iload_n 1, 1) := by decide +kernel
theorem dX11_told_63 : decode cX11_told 63 = .ok (.iaload, 1) := by decide +kernel
theorem dX11_told_64 : decode cX11_told 64 = .ok (.goto 9, 3) := by decide +kernel
theorem dX11_told_67 : decode cX11_told 67 = .ok (.aload_n 0, 1) := by decide +kernel
theorem dX11_told_68 : decode cX11_told 68 = .ok (.getfield 49, 3) := by decide +kernel
theorem dX11_told_71 : decode cX11_told 71 = .ok (.iload_n 2, 1) := by decide +kernel
theorem dX11_told_72 : decode cX11_told 72 = .ok (.iaload, 1) := by decide +kernel
theorem dX11_told_73 : decode cX11_told 73 = .ok (.istore_n 3, 1) := by decide +kernel
theorem dX11_told_74 : decode cX11_told 74 = .ok (.iconst 0, 1) := by decide +kernel
theorem dX11_told_75 : decode cX11_told 75 = .ok (.istore 4, 2) := by decide +kernel
theorem dX11_told_77 : decode cX11_told 77 = .ok (.iload 4, 2) := by decide +kernel
theorem dX11_told_79 : decode cX11_told 79 = .ok (.iload_n 3, 1) := by decide +kernel
theorem dX11_told_80 : decode cX11_told 80 = .ok (.if_icmp .ge 41, 3) := by decide +kernel
theorem dX11_told_83 : decode cX11_told 83 = .ok (.aload_n 0, 1) := by decide +kernel
theorem dX11_told_84 : decode cX11_told 84 = .ok (.getfield 108, 3) := by decide +kernel
theorem dX11_told_87 : decode cX11_told 87 = .ok (.bipush 60, 2) := by decide +kernel
theorem dX11_told_89 : decode cX11_told 89 = .ok (.iload_n 1, 1) := by decide +kernel
theorem dX11_told_90 : decode cX11_told 90 = .ok (.imul, 1) := by decide +kernel
theorem dX11_told_91 : decode cX11_told 91 = .ok (.iload 4, 2) := by decide +kernel
theorem dX11_told_93 : decode cX11_told 93 = .ok (.iadd, 1) := by decide +kernel
theorem dX11_told_94 : decode cX11_told 94 = .ok (.laload, 1) := by decide +kernel
theorem dX11_told_95 : decode cX11_told 95 = .ok (.aload_n 0, 1) := by decide +kernel
theorem dX11_told_96 : decode cX11_told 96 = .ok (.getfield 46, 3) := by decide +kernel
theorem dX11_told_99 : decode cX11_told 99 = .ok (.bipush 8, 2) := by decide +kernel
theorem dX11_told_101 : decode cX11_told 101 = .ok (.iload_n 2, 1) := by decide +kernel
theorem dX11_told_102 : decode cX11_told 102 = .ok (.imul, 1) := by decide +kernel
theorem dX11_told_103 : decode cX11_told 103 = .ok (.iload 4, 2) := by decide +kernel
theorem dX11_told_105 : decode cX11_told 105 = .ok (.iadd, 1) := by decide +kernel
theorem dX11_told_106 : decode cX11_told 106 = .ok (.iaload, 1) := by decide +kernel
theorem dX11_told_107 : decode cX11_told 107 = .ok (.i2l, 1) := by decide +kernel
theorem dX11_told_108 : decode cX11_told 108 = .ok (.lcmp, 1) := by decide +kernel
theorem dX11_told_109 : decode cX11_told 109 = .ok (.ifCond .eq 6, 3) := by decide +kernel
theorem dX11_told_112 : decode cX11_told 112 = .ok (.iload 4, 2) := by decide +kernel
theorem dX11_told_114 : decode cX11_told 114 = .ok (.ireturn, 1) := by decide +kernel
theorem dX11_told_115 : decode cX11_told 115 = .ok (.iinc 4 1, 3) := by decide +kernel
theorem dX11_told_118 : decode cX11_told 118 = .ok (.goto (-41), 3) := by decide +kernel
theorem dX11_told_121 : decode cX11_told 121 = .ok (.aload_n 0, 1) := by decide +kernel
theorem dX11_told_122 : decode cX11_told 122 = .ok (.getfield 105, 3) := by decide +kernel
theorem dX11_told_125 : decode cX11_told 125 = .ok (.iload_n 1, 1) := by decide +kernel
theorem dX11_told_126 : decode cX11_told 126 = .ok (.iaload, 1) := by decide +kernel
theorem dX11_told_127 : decode cX11_told 127 = .ok (.aload_n 0, 1) := by decide +kernel
theorem dX11_told_128 : decode cX11_told 128 = .ok (.getfield 49, 3) := by decide +kernel
theorem dX11_told_131 : decode cX11_told 131 = .ok (.iload_n 2, 1) := by decide +kernel
theorem dX11_told_132 : decode cX11_told 132 = .ok (.iaload, 1) := by decide +kernel
theorem dX11_told_133 : decode cX11_told 133 = .ok (.if_icmp .ne 8, 3) := by decide +kernel
theorem dX11_told_136 : decode cX11_told 136 = .ok (.bipush (-2), 2) := by decide +kernel
theorem dX11_told_138 : decode cX11_told 138 = .ok (.goto 4, 3) := by decide +kernel
theorem dX11_told_141 : decode cX11_told 141 = .ok (.iload_n 3, 1) := by decide +kernel
theorem dX11_told_142 : decode cX11_told 142 = .ok (.ireturn, 1) := by decide +kernel
theorem dX11_over_0 : decode cX11_over 0 = .ok (.iload_n 1, 1) := by decide +kernel
theorem dX11_over_1 : decode cX11_over 1 = .ok (.ifCond .lt 36, 3) := by decide +kernel
theorem dX11_over_4 : decode cX11_over 4 = .ok (.aload_n 0, 1) := by decide +kernel
theorem dX11_over_5 : decode cX11_over 5 = .ok (.iload_n 1, 1) := by decide +kernel
theorem dX11_over_6 : decode cX11_over 6 = .ok (.bipush 10, 2) := by decide +kernel
theorem dX11_over_8 : decode cX11_over 8 = .ok (.idiv, 1) := by decide +kernel
theorem dX11_over_9 : decode cX11_over 9 = .ok (.invokevirtual 159, 3) := by decide +kernel
theorem dX11_over_12 : decode cX11_over 12 = .ok (.ifCond .eq 25, 3) := by decide +kernel
theorem dX11_over_15 : decode cX11_over 15 = .ok (.aload_n 0, 1) := by decide +kernel
theorem dX11_over_16 : decode cX11_over 16 = .ok (.iload_n 1, 1) := by decide +kernel
theorem dX11_over_17 : decode cX11_over 17 = .ok (.bipush 10, 2) := by decide +kernel
theorem dX11_over_19 : decode cX11_over 19 = .ok (.irem, 1) := by decide +kernel
theorem dX11_over_20 : decode cX11_over 20 = .ok (.invokevirtual 159, 3) := by decide +kernel
theorem dX11_over_23 : decode cX11_over 23 = .ok (.ifCond .eq 14, 3) := by decide +kernel
theorem dX11_over_26 : decode cX11_over 26 = .ok (.iload_n 1, 1) := by decide +kernel
theorem dX11_over_27 : decode cX11_over 27 = .ok (.bipush 10, 2) := by decide +kernel
theorem dX11_over_29 : decode cX11_over 29 = .ok (.idiv, 1) := by decide +kernel
theorem dX11_over_30 : decode cX11_over 30 = .ok (.iload_n 1, 1) := by decide +kernel
theorem dX11_over_31 : decode cX11_over 31 = .ok (.bipush 10, 2) := by decide +kernel
theorem dX11_over_33 : decode cX11_over 33 = .ok (.irem, 1) := by decide +kernel
theorem dX11_over_34 : decode cX11_over 34 = .ok (.if_icmp .ne 5, 3) := by decide +kernel
theorem dX11_over_37 : decode cX11_over 37 = .ok (.iconst (-1), 1) := by decide +kernel
theorem dX11_over_38 : decode cX11_over 38 = .ok (.ireturn, 1) := by decide +kernel
theorem dX11_over_39 : decode cX11_over 39 = .ok (.iconst 0, 1) := by decide +kernel
theorem dX11_over_40 : decode cX11_over 40 = .ok (.istore_n 2, 1) := by decide +kernel
theorem dX11_over_41 : decode cX11_over 41 = .ok (.iconst 0, 1) := by decide +kernel
theorem dX11_over_42 : decode cX11_over 42 = .ok (.istore_n 3, 1) := by decide +kernel
theorem dX11_over_43 : decode cX11_over 43 = .ok (.iload_n 3, 1) := by decide +kernel
theorem dX11_over_44 : decode cX11_over 44 = .ok (.aload_n 0, 1) := by decide +kernel
theorem dX11_over_45 : decode cX11_over 45 = .ok (.getfield 131, 3) := by decide +kernel
theorem dX11_over_48 : decode cX11_over 48 = .ok (.if_icmp .ge 77, 3) := by decide +kernel
theorem dX11_over_51 : decode cX11_over 51 = .ok (.iconst 1, 1) := by decide +kernel
theorem dX11_over_52 : decode cX11_over 52 = .ok (.istore 4, 2) := by decide +kernel
theorem dX11_over_54 : decode cX11_over 54 = .ok (.iload 4, 2) := by decide +kernel
theorem dX11_over_56 : decode cX11_over 56 = .ok (.aload_n 0, 1) := by decide +kernel
theorem dX11_over_57 : decode cX11_over 57 = .ok (.getfield 49, 3) := by decide +kernel
theorem dX11_over_60 : decode cX11_over 60 = .ok (.iload_n 3, 1) := by decide +kernel
theorem dX11_over_61 : decode cX11_over 61 = .ok (.iaload, 1) := by decide +kernel
theorem dX11_over_62 : decode cX11_over 62 = .ok (.if_icmp .ge 57, 3) := by decide +kernel
theorem dX11_over_65 : decode cX11_over 65 = .ok (.iload_n 2, 1) := by decide +kernel
theorem dX11_over_66 : decode cX11_over 66 = .ok (.aload_n 0, 1) := by decide +kernel
theorem dX11_over_67 : decode cX11_over 67 = .ok (.getfield 46, 3) := by decide +kernel
theorem dX11_over_70 : decode cX11_over 70 = .ok (.bipush 8, 2) := by decide +kernel
theorem dX11_over_72 : decode cX11_over 72 = .ok (.iload_n 3, 1) := by decide +kernel
theorem dX11_over_73 : decode cX11_over 73 = .ok (.imul, 1) := by decide +kernel
theorem dX11_over_74 : decode cX11_over 74 = .ok (.iload 4, 2) := by decide +kernel
theorem dX11_over_76 : decode cX11_over 76 = .ok (.iadd, 1) := by decide +kernel
theorem dX11_over_77 : decode cX11_over 77 = .ok (.iaload, 1) := by decide +kernel
theorem dX11_over_78 : decode cX11_over 78 = .ok (.iload_n 1, 1) := by decide +kernel
theorem dX11_over_79 : decode cX11_over 79 = .ok (.bipush 10, 2) := by decide +kernel
theorem dX11_over_81 : decode cX11_over 81 = .ok (.idiv, 1) := by decide +kernel
theorem dX11_over_82 : decode cX11_over 82 = .ok (.if_icmp .ne 28, 3) := by decide +kernel
theorem dX11_over_85 : decode cX11_over 85 = .ok (.aload_n 0, 1) := by decide +kernel
theorem dX11_over_86 : decode cX11_over 86 = .ok (.getfield 46, 3) := by decide +kernel
theorem dX11_over_89 : decode cX11_over 89 = .ok (.bipush 8, 2) := by decide +kernel
theorem dX11_over_91 : decode cX11_over 91 = .ok (.iload_n 3, 1) := by decide +kernel
theorem dX11_over_92 : decode cX11_over 92 = .ok (.imul, 1) := by decide +kernel
theorem dX11_over_93 : decode cX11_over 93 = .ok (.iload 4, 2) := by decide +kernel
theorem dX11_over_95 : decode cX11_over 95 = .ok (.iadd, 1) := by decide +kernel
theorem dX11_over_96 : decode cX11_over 96 = .ok (.iconst 1, 1) := by decide +kernel
theorem dX11_over_97 : decode cX11_over 97 = .ok (.isub, 1) := by decide +kernel
theorem dX11_over_98 : decode cX11_over 98 = .ok (.iaload, 1) := by decide +kernel
theorem dX11_over_99 : decode cX11_over 99 = .ok (.iload_n 1, 1) := by decide +kernel
theorem dX11_over_100 : decode cX11_over 100 = .ok (.bipush 10, 2) := by decide +kernel
theorem dX11_over_102 : decode cX11_over 102 = .ok (.irem, 1) := by decide +kernel
theorem dX11_over_103 : decode cX11_over 103 = .ok (.if_icmp .ne 7, 3) := by decide +kernel
theorem dX11_over_106 : decode cX11_over 106 = .ok (.iconst 1, 1) := by decide +kernel
theorem dX11_over_107 : decode cX11_over 107 = .ok (.goto 4, 3) := by decide +kernel
theorem dX11_over_110 : decode cX11_over 110 = .ok (.iconst 0, 1) := by decide +kernel
theorem dX11_over_111 : decode cX11_over 111 = .ok (.iadd, 1) := by decide +kernel
theorem dX11_over_112 : decode cX11_over 112 = .ok (.istore_n 2, 1) := by decide +kernel
theorem dX11_over_113 : decode cX11_over 113 = .ok (.iinc 4 1, 3) := by decide +kernel
theorem dX11_over_116 : decode cX11_over 116 = .ok (.goto (-62), 3) := by decide +kernel
theorem dX11_over_119 : decode cX11_over 119 = .ok (.iinc 3 1, 3) := by decide +kernel
theorem dX11_over_122 : decode cX11_over 122 = .ok (.goto (-79), 3) := by decide +kernel
theorem dX11_over_125 : decode cX11_over 125 = .ok (.iload_n 2, 1) := by decide +kernel
theorem dX11_over_126 : decode cX11_over 126 = .ok (.ireturn, 1) := by decide +kernel
theorem dX11_keepsAside_0 : decode cX11_keepsAside 0 = .ok (.iconst 0, 1) := by decide +kernel
theorem dX11_keepsAside_1 : decode cX11_keepsAside 1 = .ok (.istore_n 2, 1) := by decide +kernel
theorem dX11_keepsAside_2 : decode cX11_keepsAside 2 = .ok (.iload_n 2, 1) := by decide +kernel
theorem dX11_keepsAside_3 : decode cX11_keepsAside 3 = .ok (.bipush 6, 2) := by decide +kernel
theorem dX11_keepsAside_5 : decode cX11_keepsAside 5 = .ok (.if_icmp .ge 146, 3) := by decide +kernel
theorem dX11_keepsAside_8 : decode cX11_keepsAside 8 = .ok (.iload_n 1, 1) := by decide +kernel
theorem dX11_keepsAside_9 : decode cX11_keepsAside 9 = .ok (.bipush 6, 2) := by decide +kernel
theorem dX11_keepsAside_11 : decode cX11_keepsAside 11 = .ok (.imul, 1) := by decide +kernel
theorem dX11_keepsAside_12 : decode cX11_keepsAside 12 = .ok (.iload_n 2, 1) := by decide +kernel
theorem dX11_keepsAside_13 : decode cX11_keepsAside 13 = .ok (.iadd, 1) := by decide +kernel
theorem dX11_keepsAside_14 : decode cX11_keepsAside 14 = .ok (.bipush 6, 2) := by decide +kernel
theorem dX11_keepsAside_16 : decode cX11_keepsAside 16 = .ok (.imul, 1) := by decide +kernel
theorem dX11_keepsAside_17 : decode cX11_keepsAside 17 = .ok (.istore_n 3, 1) := by decide +kernel
theorem dX11_keepsAside_18 : decode cX11_keepsAside 18 = .ok (.aload_n 0, 1) := by decide +kernel
theorem dX11_keepsAside_19 : decode cX11_keepsAside 19 = .ok (.getfield 84, 3) := by decide +kernel
theorem dX11_keepsAside_22 : decode cX11_keepsAside 22 = .ok (.iload_n 3, 1) := by decide +kernel
theorem dX11_keepsAside_23 : decode cX11_keepsAside 23 = .ok (.aload_n 0, 1) := by decide +kernel
theorem dX11_keepsAside_24 : decode cX11_keepsAside 24 = .ok (.getfield 34, 3) := by decide +kernel
theorem dX11_keepsAside_27 : decode cX11_keepsAside 27 = .ok (.iload_n 2, 1) := by decide +kernel
theorem dX11_keepsAside_28 : decode cX11_keepsAside 28 = .ok (.iaload, 1) := by decide +kernel
theorem dX11_keepsAside_29 : decode cX11_keepsAside 29 = .ok (.iastore, 1) := by decide +kernel
theorem dX11_keepsAside_30 : decode cX11_keepsAside 30 = .ok (.aload_n 0, 1) := by decide +kernel
theorem dX11_keepsAside_31 : decode cX11_keepsAside 31 = .ok (.getfield 84, 3) := by decide +kernel
theorem dX11_keepsAside_34 : decode cX11_keepsAside 34 = .ok (.iload_n 3, 1) := by decide +kernel
theorem dX11_keepsAside_35 : decode cX11_keepsAside 35 = .ok (.iconst 1, 1) := by decide +kernel
theorem dX11_keepsAside_36 : decode cX11_keepsAside 36 = .ok (.iadd, 1) := by decide +kernel
theorem dX11_keepsAside_37 : decode cX11_keepsAside 37 = .ok (.aload_n 0, 1) := by decide +kernel
theorem dX11_keepsAside_38 : decode cX11_keepsAside 38 = .ok (.getfield 37, 3) := by decide +kernel
theorem dX11_keepsAside_41 : decode cX11_keepsAside 41 = .ok (.iload_n 2, 1) := by decide +kernel
theorem dX11_keepsAside_42 : decode cX11_keepsAside 42 = .ok (.iaload, 1) := by decide +kernel
theorem dX11_keepsAside_43 : decode cX11_keepsAside 43 = .ok (.iastore, 1) := by decide +kernel
theorem dX11_keepsAside_44 : decode cX11_keepsAside 44 = .ok (.aload_n 0, 1) := by decide +kernel
theorem dX11_keepsAside_45 : decode cX11_keepsAside 45 = .ok (.getfield 84, 3) := by decide +kernel
theorem dX11_keepsAside_48 : decode cX11_keepsAside 48 = .ok (.iload_n 3, 1) := by decide +kernel
theorem dX11_keepsAside_49 : decode cX11_keepsAside 49 = .ok (.iconst 2, 1) := by decide +kernel
theorem dX11_keepsAside_50 : decode cX11_keepsAside 50 = .ok (.iadd, 1) := by decide +kernel
theorem dX11_keepsAside_51 : decode cX11_keepsAside 51 = .ok (.aload_n 0, 1) := by decide +kernel
theorem dX11_keepsAside_52 : decode cX11_keepsAside 52 = .ok (.getfield 40, 3) := by decide +kernel
theorem dX11_keepsAside_55 : decode cX11_keepsAside 55 = .ok (.iload_n 2, 1) := by decide +kernel
theorem dX11_keepsAside_56 : decode cX11_keepsAside 56 = .ok (.iaload, 1) := by decide +kernel
theorem dX11_keepsAside_57 : decode cX11_keepsAside 57 = .ok (.iastore, 1) := by decide +kernel
theorem dX11_keepsAside_58 : decode cX11_keepsAside 58 = .ok (.aload_n 0, 1) := by decide +kernel
theorem dX11_keepsAside_59 : decode cX11_keepsAside 59 = .ok (.getfield 84, 3) := by decide +kernel
theorem dX11_keepsAside_62 : decode cX11_keepsAside 62 = .ok (.iload_n 3, 1) := by decide +kernel
theorem dX11_keepsAside_63 : decode cX11_keepsAside 63 = .ok (.iconst 3, 1) := by decide +kernel
theorem dX11_keepsAside_64 : decode cX11_keepsAside 64 = .ok (.iadd, 1) := by decide +kernel
theorem dX11_keepsAside_65 : decode cX11_keepsAside 65 = .ok (.aload_n 0, 1) := by decide +kernel
theorem dX11_keepsAside_66 : decode cX11_keepsAside 66 = .ok (.getfield 43, 3) := by decide +kernel
theorem dX11_keepsAside_69 : decode cX11_keepsAside 69 = .ok (.iload_n 2, 1) := by decide +kernel
theorem dX11_keepsAside_70 : decode cX11_keepsAside 70 = .ok (.iaload, 1) := by decide +kernel
theorem dX11_keepsAside_71 : decode cX11_keepsAside 71 = .ok (.iastore, 1) := by decide +kernel
theorem dX11_keepsAside_72 : decode cX11_keepsAside 72 = .ok (.aload_n 0, 1) := by decide +kernel
theorem dX11_keepsAside_73 : decode cX11_keepsAside 73 = .ok (.getfield 84, 3) := by decide +kernel
theorem dX11_keepsAside_76 : decode cX11_keepsAside 76 = .ok (.iload_n 3, 1) := by decide +kernel
theorem dX11_keepsAside_77 : decode cX11_keepsAside 77 = .ok (.iconst 4, 1) := by decide +kernel
theorem dX11_keepsAside_78 : decode cX11_keepsAside 78 = .ok (.iadd, 1) := by decide +kernel
theorem dX11_keepsAside_79 : decode cX11_keepsAside 79 = .ok (.aload_n 0, 1) := by decide +kernel
theorem dX11_keepsAside_80 : decode cX11_keepsAside 80 = .ok (.getfield 49, 3) := by decide +kernel
theorem dX11_keepsAside_83 : decode cX11_keepsAside 83 = .ok (.iload_n 2, 1) := by decide +kernel
theorem dX11_keepsAside_84 : decode cX11_keepsAside 84 = .ok (.iaload, 1) := by decide +kernel
theorem dX11_keepsAside_85 : decode cX11_keepsAside 85 = .ok (.iastore, 1) := by decide +kernel
theorem dX11_keepsAside_86 : decode cX11_keepsAside 86 = .ok (.aload_n 0, 1) := by decide +kernel
theorem dX11_keepsAside_87 : decode cX11_keepsAside 87 = .ok (.getfield 84, 3) := by decide +kernel
theorem dX11_keepsAside_90 : decode cX11_keepsAside 90 = .ok (.iload_n 3, 1) := by decide +kernel
theorem dX11_keepsAside_91 : decode cX11_keepsAside 91 = .ok (.iconst 5, 1) := by decide +kernel
theorem dX11_keepsAside_92 : decode cX11_keepsAside 92 = .ok (.iadd, 1) := by decide +kernel
theorem dX11_keepsAside_93 : decode cX11_keepsAside 93 = .ok (.aload_n 0, 1) := by decide +kernel
theorem dX11_keepsAside_94 : decode cX11_keepsAside 94 = .ok (.getfield 52, 3) := by decide +kernel
theorem dX11_keepsAside_97 : decode cX11_keepsAside 97 = .ok (.iload_n 2, 1) := by decide +kernel
theorem dX11_keepsAside_98 : decode cX11_keepsAside 98 = .ok (.iaload, 1) := by decide +kernel
theorem dX11_keepsAside_99 : decode cX11_keepsAside 99 = .ok (.iastore, 1) := by decide +kernel
theorem dX11_keepsAside_100 : decode cX11_keepsAside 100 = .ok (.iconst 0, 1) := by decide +kernel
theorem dX11_keepsAside_101 : decode cX11_keepsAside 101 = .ok (.istore 4, 2) := by decide +kernel
theorem dX11_keepsAside_103 : decode cX11_keepsAside 103 = .ok (.iload 4, 2) := by decide +kernel
theorem dX11_keepsAside_105 : decode cX11_keepsAside 105 = .ok (.bipush 8, 2) := by decide +kernel
theorem dX11_keepsAside_107 : decode cX11_keepsAside 107 = .ok (.if_icmp .ge 38, 3) := by decide +kernel
theorem dX11_keepsAside_110 : decode cX11_keepsAside 110 = .ok (.aload_n 0, 1) := by decide +kernel
theorem dX11_keepsAside_111 : decode cX11_keepsAside 111 = .ok (.getfield 87, 3) := by decide +kernel
theorem dX11_keepsAside_114 : decode cX11_keepsAside 114 = .ok (.iload_n 1, 1) := by decide +kernel
theorem dX11_keepsAside_115 : decode cX11_keepsAside 115 = .ok (.bipush 6, 2) := by decide +kernel
theorem dX11_keepsAside_117 : decode cX11_keepsAside 117 = .ok (.imul, 1) := by decide +kernel
theorem dX11_keepsAside_118 : decode cX11_keepsAside 118 = .ok (.iload_n 2, 1) := by decide +kernel
theorem dX11_keepsAside_119 : decode cX11_keepsAside 119 = .ok (.iadd, 1) := by decide +kernel
theorem dX11_keepsAside_120 : decode cX11_keepsAside 120 = .ok (.bipush 8, 2) := by decide +kernel
theorem dX11_keepsAside_122 : decode cX11_keepsAside 122 = .ok (.imul, 1) := by decide +kernel
theorem dX11_keepsAside_123 : decode cX11_keepsAside 123 = .ok (.iload 4, 2) := by decide +kernel
theorem dX11_keepsAside_125 : decode cX11_keepsAside 125 = .ok (.iadd, 1) := by decide +kernel
theorem dX11_keepsAside_126 : decode cX11_keepsAside 126 = .ok (.aload_n 0, 1) := by decide +kernel
theorem dX11_keepsAside_127 : decode cX11_keepsAside 127 = .ok (.getfield 46, 3) := by decide +kernel
theorem dX11_keepsAside_130 : decode cX11_keepsAside 130 = .ok (.bipush 8, 2) := by decide +kernel
theorem dX11_keepsAside_132 : decode cX11_keepsAside 132 = .ok (.iload_n 2, 1) := by decide +kernel
theorem dX11_keepsAside_133 : decode cX11_keepsAside 133 = .ok (.imul, 1) := by decide +kernel
theorem dX11_keepsAside_134 : decode cX11_keepsAside 134 = .ok (.iload 4, 2) := by decide +kernel
theorem dX11_keepsAside_136 : decode cX11_keepsAside 136 = .ok (.iadd, 1) := by decide +kernel
theorem dX11_keepsAside_137 : decode cX11_keepsAside 137 = .ok (.iaload, 1) := by decide +kernel
theorem dX11_keepsAside_138 : decode cX11_keepsAside 138 = .ok (.iastore, 1) := by decide +kernel
theorem dX11_keepsAside_139 : decode cX11_keepsAside 139 = .ok (.iinc 4 1, 3) := by decide +kernel
theorem dX11_keepsAside_142 : decode cX11_keepsAside 142 = .ok (.goto (-39), 3) := by decide +kernel
theorem dX11_keepsAside_145 : decode cX11_keepsAside 145 = .ok (.iinc 2 1, 3) := by decide +kernel
theorem dX11_keepsAside_148 : decode cX11_keepsAside 148 = .ok (.goto (-146), 3) := by decide +kernel
theorem dX11_keepsAside_151 : decode cX11_keepsAside 151 = .ok (.iconst 0, 1) := by decide +kernel
theorem dX11_keepsAside_152 : decode cX11_keepsAside 152 = .ok (.istore_n 2, 1) := by decide +kernel
theorem dX11_keepsAside_153 : decode cX11_keepsAside 153 = .ok (.iload_n 2, 1) := by decide +kernel
theorem dX11_keepsAside_154 : decode cX11_keepsAside 154 = .ok (.iconst 5, 1) := by decide +kernel
theorem dX11_keepsAside_155 : decode cX11_keepsAside 155 = .ok (.if_icmp .ge 57, 3) := by decide +kernel
theorem dX11_keepsAside_158 : decode cX11_keepsAside 158 = .ok (.iload_n 1, 1) := by decide +kernel
theorem dX11_keepsAside_159 : decode cX11_keepsAside 159 = .ok (.iconst 5, 1) := by decide +kernel
theorem dX11_keepsAside_160 : decode cX11_keepsAside 160 = .ok (.imul, 1) := by decide +kernel
theorem dX11_keepsAside_161 : decode cX11_keepsAside 161 = .ok (.iload_n 2, 1) := by decide +kernel
theorem dX11_keepsAside_162 : decode cX11_keepsAside 162 = .ok (.iadd, 1) := by decide +kernel
theorem dX11_keepsAside_163 : decode cX11_keepsAside 163 = .ok (.iconst 3, 1) := by decide +kernel
theorem dX11_keepsAside_164 : decode cX11_keepsAside 164 = .ok (.imul, 1) := by decide +kernel
theorem dX11_keepsAside_165 : decode cX11_keepsAside 165 = .ok (.istore_n 3, 1) := by decide +kernel
theorem dX11_keepsAside_166 : decode cX11_keepsAside 166 = .ok (.aload_n 0, 1) := by decide +kernel
theorem dX11_keepsAside_167 : decode cX11_keepsAside 167 = .ok (.getfield 90, 3) := by decide +kernel
theorem dX11_keepsAside_170 : decode cX11_keepsAside 170 = .ok (.iload_n 3, 1) := by decide +kernel
theorem dX11_keepsAside_171 : decode cX11_keepsAside 171 = .ok (.aload_n 0, 1) := by decide +kernel
theorem dX11_keepsAside_172 : decode cX11_keepsAside 172 = .ok (.getfield 22, 3) := by decide +kernel
theorem dX11_keepsAside_175 : decode cX11_keepsAside 175 = .ok (.iload_n 2, 1) := by decide +kernel
theorem dX11_keepsAside_176 : decode cX11_keepsAside 176 = .ok (.iaload, 1) := by decide +kernel
theorem dX11_keepsAside_177 : decode cX11_keepsAside 177 = .ok (.iastore, 1) := by decide +kernel
theorem dX11_keepsAside_178 : decode cX11_keepsAside 178 = .ok (.aload_n 0, 1) := by decide +kernel
theorem dX11_keepsAside_179 : decode cX11_keepsAside 179 = .ok (.getfield 90, 3) := by decide +kernel
theorem dX11_keepsAside_182 : decode cX11_keepsAside 182 = .ok (.iload_n 3, 1) := by decide +kernel
theorem dX11_keepsAside_183 : decode cX11_keepsAside 183 = .ok (.iconst 1, 1) := by decide +kernel
theorem dX11_keepsAside_184 : decode cX11_keepsAside 184 = .ok (.iadd, 1) := by decide +kernel
theorem dX11_keepsAside_185 : decode cX11_keepsAside 185 = .ok (.aload_n 0, 1) := by decide +kernel
theorem dX11_keepsAside_186 : decode cX11_keepsAside 186 = .ok (.getfield 25, 3) := by decide +kernel
theorem dX11_keepsAside_189 : decode cX11_keepsAside 189 = .ok (.iload_n 2, 1) := by decide +kernel
theorem dX11_keepsAside_190 : decode cX11_keepsAside 190 = .ok (.iaload, 1) := by decide +kernel
theorem dX11_keepsAside_191 : decode cX11_keepsAside 191 = .ok (.iastore, 1) := by decide +kernel
theorem dX11_keepsAside_192 : decode cX11_keepsAside 192 = .ok (.aload_n 0, 1) := by decide +kernel
theorem dX11_keepsAside_193 : decode cX11_keepsAside 193 = .ok (.getfield 90, 3) := by decide +kernel
theorem dX11_keepsAside_196 : decode cX11_keepsAside 196 = .ok (.iload_n 3, 1) := by decide +kernel
theorem dX11_keepsAside_197 : decode cX11_keepsAside 197 = .ok (.iconst 2, 1) := by decide +kernel
theorem dX11_keepsAside_198 : decode cX11_keepsAside 198 = .ok (.iadd, 1) := by decide +kernel
theorem dX11_keepsAside_199 : decode cX11_keepsAside 199 = .ok (.aload_n 0, 1) := by decide +kernel
theorem dX11_keepsAside_200 : decode cX11_keepsAside 200 = .ok (.getfield 28, 3) := by decide +kernel
theorem dX11_keepsAside_203 : decode cX11_keepsAside 203 = .ok (.iload_n 2, 1) := by decide +kernel
theorem dX11_keepsAside_204 : decode cX11_keepsAside 204 = .ok (.iaload, 1) := by decide +kernel
theorem dX11_keepsAside_205 : decode cX11_keepsAside 205 = .ok (.iastore, 1) := by decide +kernel
theorem dX11_keepsAside_206 : decode cX11_keepsAside 206 = .ok (.iinc 2 1, 3) := by decide +kernel
theorem dX11_keepsAside_209 : decode cX11_keepsAside 209 = .ok (.goto (-56), 3) := by decide +kernel
theorem dX11_keepsAside_212 : decode cX11_keepsAside 212 = .ok (.aload_n 0, 1) := by decide +kernel
theorem dX11_keepsAside_213 : decode cX11_keepsAside 213 = .ok (.getfield 93, 3) := by decide +kernel
theorem dX11_keepsAside_216 : decode cX11_keepsAside 216 = .ok (.iconst 2, 1) := by decide +kernel
theorem dX11_keepsAside_217 : decode cX11_keepsAside 217 = .ok (.iload_n 1, 1) := by decide +kernel
theorem dX11_keepsAside_218 : decode cX11_keepsAside 218 = .ok (.imul, 1) := by decide +kernel
theorem dX11_keepsAside_219 : decode cX11_keepsAside 219 = .ok (.aload_n 0, 1) := by decide +kernel
theorem dX11_keepsAside_220 : decode cX11_keepsAside 220 = .ok (.getfield 341, 3) := by decide +kernel
theorem dX11_keepsAside_223 : decode cX11_keepsAside 223 = .ok (.iastore, 1) := by decide +kernel
theorem dX11_keepsAside_224 : decode cX11_keepsAside 224 = .ok (.aload_n 0, 1) := by decide +kernel
theorem dX11_keepsAside_225 : decode cX11_keepsAside 225 = .ok (.getfield 93, 3) := by decide +kernel
theorem dX11_keepsAside_228 : decode cX11_keepsAside 228 = .ok (.iconst 2, 1) := by decide +kernel
theorem dX11_keepsAside_229 : decode cX11_keepsAside 229 = .ok (.iload_n 1, 1) := by decide +kernel
theorem dX11_keepsAside_230 : decode cX11_keepsAside 230 = .ok (.imul, 1) := by decide +kernel
theorem dX11_keepsAside_231 : decode cX11_keepsAside 231 = .ok (.iconst 1, 1) := by decide +kernel
theorem dX11_keepsAside_232 : decode cX11_keepsAside 232 = .ok (.iadd, 1) := by decide +kernel
theorem dX11_keepsAside_233 : decode cX11_keepsAside 233 = .ok (.aload_n 0, 1) := by decide +kernel
theorem dX11_keepsAside_234 : decode cX11_keepsAside 234 = .ok (.getfield 338, 3) := by decide +kernel
theorem dX11_keepsAside_237 : decode cX11_keepsAside 237 = .ok (.iastore, 1) := by decide +kernel
theorem dX11_keepsAside_238 : decode cX11_keepsAside 238 = .ok (.return_, 1) := by decide +kernel
theorem dX11_laysBack_0 : decode cX11_laysBack 0 = .ok (.iconst 0, 1) := by decide +kernel
theorem dX11_laysBack_1 : decode cX11_laysBack 1 = .ok (.istore 5, 2) := by decide +kernel
theorem dX11_laysBack_3 : decode cX11_laysBack 3 = .ok (.iload 5, 2) := by decide +kernel
theorem dX11_laysBack_5 : decode cX11_laysBack 5 = .ok (.iload_n 2, 1) := by decide +kernel
theorem dX11_laysBack_6 : decode cX11_laysBack 6 = .ok (.if_icmp .ge 177, 3) := by decide +kernel
theorem dX11_laysBack_9 : decode cX11_laysBack 9 = .ok (.iload_n 1, 1) := by decide +kernel
theorem dX11_laysBack_10 : decode cX11_laysBack 10 = .ok (.bipush 6, 2) := by decide +kernel
theorem dX11_laysBack_12 : decode cX11_laysBack 12 = .ok (.imul, 1) := by decide +kernel
theorem dX11_laysBack_13 : decode cX11_laysBack 13 = .ok (.iload 5, 2) := by decide +kernel
theorem dX11_laysBack_15 : decode cX11_laysBack 15 = .ok (.iadd, 1) := by decide +kernel
theorem dX11_laysBack_16 : decode cX11_laysBack 16 = .ok (.bipush 6, 2) := by decide +kernel
theorem dX11_laysBack_18 : decode cX11_laysBack 18 = .ok (.imul, 1) := by decide +kernel
theorem dX11_laysBack_19 : decode cX11_laysBack 19 = .ok (.istore 6, 2) := by decide +kernel
theorem dX11_laysBack_21 : decode cX11_laysBack 21 = .ok (.aload_n 0, 1) := by decide +kernel
theorem dX11_laysBack_22 : decode cX11_laysBack 22 = .ok (.getfield 34, 3) := by decide +kernel
theorem dX11_laysBack_25 : decode cX11_laysBack 25 = .ok (.iload 5, 2) := by decide +kernel
theorem dX11_laysBack_27 : decode cX11_laysBack 27 = .ok (.aload_n 0, 1) := by decide +kernel
theorem dX11_laysBack_28 : decode cX11_laysBack 28 = .ok (.getfield 84, 3) := by decide +kernel
theorem dX11_laysBack_31 : decode cX11_laysBack 31 = .ok (.iload 6, 2) := by decide +kernel
theorem dX11_laysBack_33 : decode cX11_laysBack 33 = .ok (.iaload, 1) := by decide +kernel
theorem dX11_laysBack_34 : decode cX11_laysBack 34 = .ok (.iastore, 1) := by decide +kernel
theorem dX11_laysBack_35 : decode cX11_laysBack 35 = .ok (.aload_n 0, 1) := by decide +kernel
theorem dX11_laysBack_36 : decode cX11_laysBack 36 = .ok (.getfield 37, 3) := by decide +kernel
theorem dX11_laysBack_39 : decode cX11_laysBack 39 = .ok (.iload 5, 2) := by decide +kernel
theorem dX11_laysBack_41 : decode cX11_laysBack 41 = .ok (.aload_n 0, 1) := by decide +kernel
theorem dX11_laysBack_42 : decode cX11_laysBack 42 = .ok (.getfield 84, 3) := by decide +kernel
theorem dX11_laysBack_45 : decode cX11_laysBack 45 = .ok (.iload 6, 2) := by decide +kernel
theorem dX11_laysBack_47 : decode cX11_laysBack 47 = .ok (.iconst 1, 1) := by decide +kernel
theorem dX11_laysBack_48 : decode cX11_laysBack 48 = .ok (.iadd, 1) := by decide +kernel
theorem dX11_laysBack_49 : decode cX11_laysBack 49 = .ok (.iaload, 1) := by decide +kernel
theorem dX11_laysBack_50 : decode cX11_laysBack 50 = .ok (.iastore, 1) := by decide +kernel
theorem dX11_laysBack_51 : decode cX11_laysBack 51 = .ok (.aload_n 0, 1) := by decide +kernel
theorem dX11_laysBack_52 : decode cX11_laysBack 52 = .ok (.getfield 40, 3) := by decide +kernel
theorem dX11_laysBack_55 : decode cX11_laysBack 55 = .ok (.iload 5, 2) := by decide +kernel
theorem dX11_laysBack_57 : decode cX11_laysBack 57 = .ok (.aload_n 0, 1) := by decide +kernel
theorem dX11_laysBack_58 : decode cX11_laysBack 58 = .ok (.getfield 84, 3) := by decide +kernel
theorem dX11_laysBack_61 : decode cX11_laysBack 61 = .ok (.iload 6, 2) := by decide +kernel
theorem dX11_laysBack_63 : decode cX11_laysBack 63 = .ok (.iconst 2, 1) := by decide +kernel
theorem dX11_laysBack_64 : decode cX11_laysBack 64 = .ok (.iadd, 1) := by decide +kernel
theorem dX11_laysBack_65 : decode cX11_laysBack 65 = .ok (.iaload, 1) := by decide +kernel
theorem dX11_laysBack_66 : decode cX11_laysBack 66 = .ok (.iastore, 1) := by decide +kernel
theorem dX11_laysBack_67 : decode cX11_laysBack 67 = .ok (.aload_n 0, 1) := by decide +kernel
theorem dX11_laysBack_68 : decode cX11_laysBack 68 = .ok (.getfield 43, 3) := by decide +kernel
theorem dX11_laysBack_71 : decode cX11_laysBack 71 = .ok (.iload 5, 2) := by decide +kernel
theorem dX11_laysBack_73 : decode cX11_laysBack 73 = .ok (.aload_n 0, 1) := by decide +kernel
theorem dX11_laysBack_74 : decode cX11_laysBack 74 = .ok (.getfield 84, 3) := by decide +kernel
theorem dX11_laysBack_77 : decode cX11_laysBack 77 = .ok (.iload 6, 2) := by decide +kernel
theorem dX11_laysBack_79 : decode cX11_laysBack 79 = .ok (.iconst 3, 1) := by decide +kernel
theorem dX11_laysBack_80 : decode cX11_laysBack 80 = .ok (.iadd, 1) := by decide +kernel
theorem dX11_laysBack_81 : decode cX11_laysBack 81 = .ok (.iaload, 1) := by decide +kernel
theorem dX11_laysBack_82 : decode cX11_laysBack 82 = .ok (.iastore, 1) := by decide +kernel
theorem dX11_laysBack_83 : decode cX11_laysBack 83 = .ok (.aload_n 0, 1) := by decide +kernel
theorem dX11_laysBack_84 : decode cX11_laysBack 84 = .ok (.getfield 49, 3) := by decide +kernel
theorem dX11_laysBack_87 : decode cX11_laysBack 87 = .ok (.iload 5, 2) := by decide +kernel
theorem dX11_laysBack_89 : decode cX11_laysBack 89 = .ok (.aload_n 0, 1) := by decide +kernel
theorem dX11_laysBack_90 : decode cX11_laysBack 90 = .ok (.getfield 84, 3) := by decide +kernel
theorem dX11_laysBack_93 : decode cX11_laysBack 93 = .ok (.iload 6, 2) := by decide +kernel
theorem dX11_laysBack_95 : decode cX11_laysBack 95 = .ok (.iconst 4, 1) := by decide +kernel
theorem dX11_laysBack_96 : decode cX11_laysBack 96 = .ok (.iadd, 1) := by decide +kernel
theorem dX11_laysBack_97 : decode cX11_laysBack 97 = .ok (.iaload, 1) := by decide +kernel
theorem dX11_laysBack_98 : decode cX11_laysBack 98 = .ok (.iastore, 1) := by decide +kernel
theorem dX11_laysBack_99 : decode cX11_laysBack 99 = .ok (.aload_n 0, 1) := by decide +kernel
theorem dX11_laysBack_100 : decode cX11_laysBack 100 = .ok (.getfield 52, 3) := by decide +kernel
theorem dX11_laysBack_103 : decode cX11_laysBack 103 = .ok (.iload 5, 2) := by decide +kernel
theorem dX11_laysBack_105 : decode cX11_laysBack 105 = .ok (.iload 4, 2) := by decide +kernel
theorem dX11_laysBack_107 : decode cX11_laysBack 107 = .ok (.ifCond .eq 15, 3) := by decide +kernel
theorem dX11_laysBack_110 : decode cX11_laysBack 110 = .ok (.aload_n 0, 1) := by decide +kernel
theorem dX11_laysBack_111 : decode cX11_laysBack 111 = .ok (.getfield 84, 3) := by decide +kernel
theorem dX11_laysBack_114 : decode cX11_laysBack 114 = .ok (.iload 6, 2) := by decide +kernel
theorem dX11_laysBack_116 : decode cX11_laysBack 116 = .ok (.iconst 5, 1) := by decide +kernel
theorem dX11_laysBack_117 : decode cX11_laysBack 117 = .ok (.iadd, 1) := by decide +kernel
theorem dX11_laysBack_118 : decode cX11_laysBack 118 = .ok (.iaload, 1) := by decide +kernel
theorem dX11_laysBack_119 : decode cX11_laysBack 119 = .ok (.goto 10, 3) := by decide +kernel
theorem dX11_laysBack_122 : decode cX11_laysBack 122 = .ok (.aload_n 0, 1) := by decide +kernel
theorem dX11_laysBack_123 : decode cX11_laysBack 123 = .ok (.getfield 52, 3) := by decide +kernel
theorem dX11_laysBack_126 : decode cX11_laysBack 126 = .ok (.iload 5, 2) := by decide +kernel
theorem dX11_laysBack_128 : decode cX11_laysBack 128 = .ok (.iaload, 1) := by decide +kernel
theorem dX11_laysBack_129 : decode cX11_laysBack 129 = .ok (.iastore, 1) := by decide +kernel
theorem dX11_laysBack_130 : decode cX11_laysBack 130 = .ok (.iconst 0, 1) := by decide +kernel
theorem dX11_laysBack_131 : decode cX11_laysBack 131 = .ok (.istore 7, 2) := by decide +kernel
theorem dX11_laysBack_133 : decode cX11_laysBack 133 = .ok (.iload 7, 2) := by decide +kernel
theorem dX11_laysBack_135 : decode cX11_laysBack 135 = .ok (.bipush 8, 2) := by decide +kernel
theorem dX11_laysBack_137 : decode cX11_laysBack 137 = .ok (.if_icmp .ge 40, 3) := by decide +kernel
theorem dX11_laysBack_140 : decode cX11_laysBack 140 = .ok (.aload_n 0, 1) := by decide +kernel
theorem dX11_laysBack_141 : decode cX11_laysBack 141 = .ok (.getfield 46, 3) := by decide +kernel
theorem dX11_laysBack_144 : decode cX11_laysBack 144 = .ok (.bipush 8, 2) := by decide +kernel
theorem dX11_laysBack_146 : decode cX11_laysBack 146 = .ok (.iload 5, 2) := by decide +kernel
theorem dX11_laysBack_148 : decode cX11_laysBack 148 = .ok (.imul, 1) := by decide +kernel
theorem dX11_laysBack_149 : decode cX11_laysBack 149 = .ok (.iload 7, 2) := by decide +kernel
theorem dX11_laysBack_151 : decode cX11_laysBack 151 = .ok (.iadd, 1) := by decide +kernel
theorem dX11_laysBack_152 : decode cX11_laysBack 152 = .ok (.aload_n 0, 1) := by decide +kernel
theorem dX11_laysBack_153 : decode cX11_laysBack 153 = .ok (.getfield 87, 3) := by decide +kernel
theorem dX11_laysBack_156 : decode cX11_laysBack 156 = .ok (.iload_n 1, 1) := by decide +kernel
theorem dX11_laysBack_157 : decode cX11_laysBack 157 = .ok (.bipush 6, 2) := by decide +kernel
theorem dX11_laysBack_159 : decode cX11_laysBack 159 = .ok (.imul, 1) := by decide +kernel
theorem dX11_laysBack_160 : decode cX11_laysBack 160 = .ok (.iload 5, 2) := by decide +kernel
theorem dX11_laysBack_162 : decode cX11_laysBack 162 = .ok (.iadd, 1) := by decide +kernel
theorem dX11_laysBack_163 : decode cX11_laysBack 163 = .ok (.bipush 8, 2) := by decide +kernel
theorem dX11_laysBack_165 : decode cX11_laysBack 165 = .ok (.imul, 1) := by decide +kernel
theorem dX11_laysBack_166 : decode cX11_laysBack 166 = .ok (.iload 7, 2) := by decide +kernel
theorem dX11_laysBack_168 : decode cX11_laysBack 168 = .ok (.iadd, 1) := by decide +kernel
theorem dX11_laysBack_169 : decode cX11_laysBack 169 = .ok (.iaload, 1) := by decide +kernel
theorem dX11_laysBack_170 : decode cX11_laysBack 170 = .ok (.iastore, 1) := by decide +kernel
theorem dX11_laysBack_171 : decode cX11_laysBack 171 = .ok (.iinc 7 1, 3) := by decide +kernel
theorem dX11_laysBack_174 : decode cX11_laysBack 174 = .ok (.goto (-41), 3) := by decide +kernel
theorem dX11_laysBack_177 : decode cX11_laysBack 177 = .ok (.iinc 5 1, 3) := by decide +kernel
theorem dX11_laysBack_180 : decode cX11_laysBack 180 = .ok (.goto (-177), 3) := by decide +kernel
theorem dX11_laysBack_183 : decode cX11_laysBack 183 = .ok (.iconst 0, 1) := by decide +kernel
theorem dX11_laysBack_184 : decode cX11_laysBack 184 = .ok (.istore 5, 2) := by decide +kernel
theorem dX11_laysBack_186 : decode cX11_laysBack 186 = .ok (.iload 5, 2) := by decide +kernel
theorem dX11_laysBack_188 : decode cX11_laysBack 188 = .ok (.iload_n 3, 1) := by decide +kernel
theorem dX11_laysBack_189 : decode cX11_laysBack 189 = .ok (.if_icmp .ge 65, 3) := by decide +kernel
theorem dX11_laysBack_192 : decode cX11_laysBack 192 = .ok (.iload_n 1, 1) := by decide +kernel
theorem dX11_laysBack_193 : decode cX11_laysBack 193 = .ok (.iconst 5, 1) := by decide +kernel
theorem dX11_laysBack_194 : decode cX11_laysBack 194 = .ok (.imul, 1) := by decide +kernel
theorem dX11_laysBack_195 : decode cX11_laysBack 195 = .ok (.iload 5, 2) := by decide +kernel
theorem dX11_laysBack_197 : decode cX11_laysBack 197 = .ok (.iadd, 1) := by decide +kernel
theorem dX11_laysBack_198 : decode cX11_laysBack 198 = .ok (.iconst 3, 1) := by decide +kernel
theorem dX11_laysBack_199 : decode cX11_laysBack 199 = .ok (.imul, 1) := by decide +kernel
theorem dX11_laysBack_200 : decode cX11_laysBack 200 = .ok (.istore 6, 2) := by decide +kernel
theorem dX11_laysBack_202 : decode cX11_laysBack 202 = .ok (.aload_n 0, 1) := by decide +kernel
theorem dX11_laysBack_203 : decode cX11_laysBack 203 = .ok (.getfield 22, 3) := by decide +kernel
theorem dX11_laysBack_206 : decode cX11_laysBack 206 = .ok (.iload 5, 2) := by decide +kernel
theorem dX11_laysBack_208 : decode cX11_laysBack 208 = .ok (.aload_n 0, 1) := by decide +kernel
theorem dX11_laysBack_209 : decode cX11_laysBack 209 = .ok (.getfield 90, 3) := by decide +kernel
theorem dX11_laysBack_212 : decode cX11_laysBack 212 = .ok (.iload 6, 2) := by decide +kernel
theorem dX11_laysBack_214 : decode cX11_laysBack 214 = .ok (.iaload, 1) := by decide +kernel
theorem dX11_laysBack_215 : decode cX11_laysBack 215 = .ok (.iastore, 1) := by decide +kernel
theorem dX11_laysBack_216 : decode cX11_laysBack 216 = .ok (.aload_n 0, 1) := by decide +kernel
theorem dX11_laysBack_217 : decode cX11_laysBack 217 = .ok (.getfield 25, 3) := by decide +kernel
theorem dX11_laysBack_220 : decode cX11_laysBack 220 = .ok (.iload 5, 2) := by decide +kernel
theorem dX11_laysBack_222 : decode cX11_laysBack 222 = .ok (.aload_n 0, 1) := by decide +kernel
theorem dX11_laysBack_223 : decode cX11_laysBack 223 = .ok (.getfield 90, 3) := by decide +kernel
theorem dX11_laysBack_226 : decode cX11_laysBack 226 = .ok (.iload 6, 2) := by decide +kernel
theorem dX11_laysBack_228 : decode cX11_laysBack 228 = .ok (.iconst 1, 1) := by decide +kernel
theorem dX11_laysBack_229 : decode cX11_laysBack 229 = .ok (.iadd, 1) := by decide +kernel
theorem dX11_laysBack_230 : decode cX11_laysBack 230 = .ok (.iaload, 1) := by decide +kernel
theorem dX11_laysBack_231 : decode cX11_laysBack 231 = .ok (.iastore, 1) := by decide +kernel
theorem dX11_laysBack_232 : decode cX11_laysBack 232 = .ok (.aload_n 0, 1) := by decide +kernel
theorem dX11_laysBack_233 : decode cX11_laysBack 233 = .ok (.getfield 28, 3) := by decide +kernel
theorem dX11_laysBack_236 : decode cX11_laysBack 236 = .ok (.iload 5, 2) := by decide +kernel
theorem dX11_laysBack_238 : decode cX11_laysBack 238 = .ok (.aload_n 0, 1) := by decide +kernel
theorem dX11_laysBack_239 : decode cX11_laysBack 239 = .ok (.getfield 90, 3) := by decide +kernel
theorem dX11_laysBack_242 : decode cX11_laysBack 242 = .ok (.iload 6, 2) := by decide +kernel
theorem dX11_laysBack_244 : decode cX11_laysBack 244 = .ok (.iconst 2, 1) := by decide +kernel
theorem dX11_laysBack_245 : decode cX11_laysBack 245 = .ok (.iadd, 1) := by decide +kernel
theorem dX11_laysBack_246 : decode cX11_laysBack 246 = .ok (.iaload, 1) := by decide +kernel
theorem dX11_laysBack_247 : decode cX11_laysBack 247 = .ok (.iastore, 1) := by decide +kernel
theorem dX11_laysBack_248 : decode cX11_laysBack 248 = .ok (.iinc 5 1, 3) := by decide +kernel
theorem dX11_laysBack_251 : decode cX11_laysBack 251 = .ok (.goto (-65), 3) := by decide +kernel
theorem dX11_laysBack_254 : decode cX11_laysBack 254 = .ok (.aload_n 0, 1) := by decide +kernel
theorem dX11_laysBack_255 : decode cX11_laysBack 255 = .ok (.aload_n 0, 1) := by decide +kernel
theorem dX11_laysBack_256 : decode cX11_laysBack 256 = .ok (.getfield 93, 3) := by decide +kernel
theorem dX11_laysBack_259 : decode cX11_laysBack 259 = .ok (.iconst 2, 1) := by decide +kernel
theorem dX11_laysBack_260 : decode cX11_laysBack 260 = .ok (.iload_n 1, 1) := by decide +kernel
theorem dX11_laysBack_261 : decode cX11_laysBack 261 = .ok (.imul, 1) := by decide +kernel
theorem dX11_laysBack_262 : decode cX11_laysBack 262 = .ok (.iaload, 1) := by decide +kernel
theorem dX11_laysBack_263 : decode cX11_laysBack 263 = .ok (.putfield 341, 3) := by decide +kernel
theorem dX11_laysBack_266 : decode cX11_laysBack 266 = .ok (.aload_n 0, 1) := by decide +kernel
theorem dX11_laysBack_267 : decode cX11_laysBack 267 = .ok (.aload_n 0, 1) := by decide +kernel
theorem dX11_laysBack_268 : decode cX11_laysBack 268 = .ok (.getfield 93, 3) := by decide +kernel
theorem dX11_laysBack_271 : decode cX11_laysBack 271 = .ok (.iconst 2, 1) := by decide +kernel
theorem dX11_laysBack_272 : decode cX11_laysBack 272 = .ok (.iload_n 1, 1) := by decide +kernel
theorem dX11_laysBack_273 : decode cX11_laysBack 273 = .ok (.imul, 1) := by decide +kernel
theorem dX11_laysBack_274 : decode cX11_laysBack 274 = .ok (.iconst 1, 1) := by decide +kernel
theorem dX11_laysBack_275 : decode cX11_laysBack 275 = .ok (.iadd, 1) := by decide +kernel
theorem dX11_laysBack_276 : decode cX11_laysBack 276 = .ok (.iaload, 1) := by decide +kernel
theorem dX11_laysBack_277 : decode cX11_laysBack 277 = .ok (.putfield 338, 3) := by decide +kernel
theorem dX11_laysBack_280 : decode cX11_laysBack 280 = .ok (.return_, 1) := by decide +kernel
theorem dX11_ruled_0 : decode cX11_ruled 0 = .ok (.iload_n 2, 1) := by decide +kernel
theorem dX11_ruled_1 : decode cX11_ruled 1 = .ok (.i2l, 1) := by decide +kernel
theorem dX11_ruled_2 : decode cX11_ruled 2 = .ok (.lconst 1, 1) := by decide +kernel
theorem dX11_ruled_3 : decode cX11_ruled 3 = .ok (.ldc2_w 344, 3) := by decide +kernel
theorem dX11_ruled_6 : decode cX11_ruled 6 = .ok (.invokestatic 127, 3) := by decide +kernel
theorem dX11_ruled_9 : decode cX11_ruled 9 = .ok (.ifCond .eq 13, 3) := by decide +kernel
theorem dX11_ruled_12 : decode cX11_ruled 12 = .ok (.iload_n 3, 1) := by decide +kernel
theorem dX11_ruled_13 : decode cX11_ruled 13 = .ok (.i2l, 1) := by decide +kernel
theorem dX11_ruled_14 : decode cX11_ruled 14 = .ok (.lconst 0, 1) := by decide +kernel
theorem dX11_ruled_15 : decode cX11_ruled 15 = .ok (.lconst 1, 1) := by decide +kernel
theorem dX11_ruled_16 : decode cX11_ruled 16 = .ok (.invokestatic 127, 3) := by decide +kernel
theorem dX11_ruled_19 : decode cX11_ruled 19 = .ok (.ifCond .ne 5, 3) := by decide +kernel
theorem dX11_ruled_22 : decode cX11_ruled 22 = .ok (.iconst (-1), 1) := by decide +kernel
theorem dX11_ruled_23 : decode cX11_ruled 23 = .ok (.ireturn, 1) := by decide +kernel
theorem dX11_ruled_24 : decode cX11_ruled 24 = .ok (.aload_n 0, 1) := by decide +kernel
theorem dX11_ruled_25 : decode cX11_ruled 25 = .ok (.getfield 153, 3) := by decide +kernel
theorem dX11_ruled_28 : decode cX11_ruled 28 = .ok (.istore 4, 2) := by decide +kernel
theorem dX11_ruled_30 : decode cX11_ruled 30 = .ok (.iconst 0, 1) := by decide +kernel
theorem dX11_ruled_31 : decode cX11_ruled 31 = .ok (.istore 5, 2) := by decide +kernel
theorem dX11_ruled_33 : decode cX11_ruled 33 = .ok (.iconst (-1), 1) := by decide +kernel
theorem dX11_ruled_34 : decode cX11_ruled 34 = .ok (.istore 6, 2) := by decide +kernel
theorem dX11_ruled_36 : decode cX11_ruled 36 = .ok (.aload_n 0, 1) := by decide +kernel
theorem dX11_ruled_37 : decode cX11_ruled 37 = .ok (.iconst 0, 1) := by decide +kernel
theorem dX11_ruled_38 : decode cX11_ruled 38 = .ok (.invokevirtual 346, 3) := by decide +kernel
theorem dX11_ruled_41 : decode cX11_ruled 41 = .ok (.iconst 0, 1) := by decide +kernel
theorem dX11_ruled_42 : decode cX11_ruled 42 = .ok (.istore 7, 2) := by decide +kernel
theorem dX11_ruled_44 : decode cX11_ruled 44 = .ok (.iload 7, 2) := by decide +kernel
theorem dX11_ruled_46 : decode cX11_ruled 46 = .ok (.bipush 10, 2) := by decide +kernel
theorem dX11_ruled_48 : decode cX11_ruled 48 = .ok (.if_icmp .ge 81, 3) := by decide +kernel
theorem dX11_ruled_51 : decode cX11_ruled 51 = .ok (.aload_n 0, 1) := by decide +kernel
theorem dX11_ruled_52 : decode cX11_ruled 52 = .ok (.iload 7, 2) := by decide +kernel
theorem dX11_ruled_54 : decode cX11_ruled 54 = .ok (.putfield 153, 3) := by decide +kernel
theorem dX11_ruled_57 : decode cX11_ruled 57 = .ok (.aload_n 0, 1) := by decide +kernel
theorem dX11_ruled_58 : decode cX11_ruled 58 = .ok (.invokevirtual 332, 3) := by decide +kernel
theorem dX11_ruled_61 : decode cX11_ruled 61 = .ok (.aload_n 0, 1) := by decide +kernel
theorem dX11_ruled_62 : decode cX11_ruled 62 = .ok (.iload_n 1, 1) := by decide +kernel
theorem dX11_ruled_63 : decode cX11_ruled 63 = .ok (.putfield 323, 3) := by decide +kernel
theorem dX11_ruled_66 : decode cX11_ruled 66 = .ok (.aload_n 0, 1) := by decide +kernel
theorem dX11_ruled_67 : decode cX11_ruled 67 = .ok (.iconst 0, 1) := by decide +kernel
theorem dX11_ruled_68 : decode cX11_ruled 68 = .ok (.putfield 314, 3) := by decide +kernel
theorem dX11_ruled_71 : decode cX11_ruled 71 = .ok (.iconst 0, 1) := by decide +kernel
theorem dX11_ruled_72 : decode cX11_ruled 72 = .ok (.istore 8, 2) := by decide +kernel
theorem dX11_ruled_74 : decode cX11_ruled 74 = .ok (.iload 8, 2) := by decide +kernel
theorem dX11_ruled_76 : decode cX11_ruled 76 = .ok (.iload_n 2, 1) := by decide +kernel
theorem dX11_ruled_77 : decode cX11_ruled 77 = .ok (.if_icmp .ge 13, 3) := by decide +kernel
theorem dX11_ruled_80 : decode cX11_ruled 80 = .ok (.aload_n 0, 1) := by decide +kernel
theorem dX11_ruled_81 : decode cX11_ruled 81 = .ok (.invokevirtual 335, 3) := by decide +kernel
theorem dX11_ruled_84 : decode cX11_ruled 84 = .ok (.iinc 8 1, 3) := by decide +kernel
theorem dX11_ruled_87 : decode cX11_ruled 87 = .ok (.goto (-13), 3) := by decide +kernel
theorem dX11_ruled_90 : decode cX11_ruled 90 = .ok (.aload_n 0, 1) := by decide +kernel
theorem dX11_ruled_91 : decode cX11_ruled 91 = .ok (.iconst 0, 1) := by decide +kernel
theorem dX11_ruled_92 : decode cX11_ruled 92 = .ok (.bipush 6, 2) := by decide +kernel
theorem dX11_ruled_94 : decode cX11_ruled 94 = .ok (.iconst 5, 1) := by decide +kernel
theorem dX11_ruled_95 : decode cX11_ruled 95 = .ok (.iconst 1, 1) := by decide +kernel
theorem dX11_ruled_96 : decode cX11_ruled 96 = .ok (.invokevirtual 349, 3) := by decide +kernel
theorem dX11_ruled_99 : decode cX11_ruled 99 = .ok (.iload 6, 2) := by decide +kernel
theorem dX11_ruled_101 : decode cX11_ruled 101 = .ok (.ifCond .lt 12, 3) := by decide +kernel
theorem dX11_ruled_104 : decode cX11_ruled 104 = .ok (.aload_n 0, 1) := by decide +kernel
theorem dX11_ruled_105 : decode cX11_ruled 105 = .ok (.getfield 314, 3) := by decide +kernel
theorem dX11_ruled_108 : decode cX11_ruled 108 = .ok (.iload 6, 2) := by decide +kernel
theorem dX11_ruled_110 : decode cX11_ruled 110 = .ok (.if_icmp .ge 13, 3) := by decide +kernel
theorem dX11_ruled_113 : decode cX11_ruled 113 = .ok (.iload 7, 2) := by decide +kernel
theorem dX11_ruled_115 : decode cX11_ruled 115 = .ok (.istore 5, 2) := by decide +kernel
theorem dX11_ruled_117 : decode cX11_ruled 117 = .ok (.aload_n 0, 1) := by decide +kernel
theorem dX11_ruled_118 : decode cX11_ruled 118 = .ok (.getfield 314, 3) := by decide +kernel
theorem dX11_ruled_121 : decode cX11_ruled 121 = .ok (.istore 6, 2) := by decide +kernel
theorem dX11_ruled_123 : decode cX11_ruled 123 = .ok (.iinc 7 1, 3) := by decide +kernel
theorem dX11_ruled_126 : decode cX11_ruled 126 = .ok (.goto (-82), 3) := by decide +kernel
theorem dX11_ruled_129 : decode cX11_ruled 129 = .ok (.aload_n 0, 1) := by decide +kernel
theorem dX11_ruled_130 : decode cX11_ruled 130 = .ok (.iload 4, 2) := by decide +kernel
theorem dX11_ruled_132 : decode cX11_ruled 132 = .ok (.putfield 153, 3) := by decide +kernel
theorem dX11_ruled_135 : decode cX11_ruled 135 = .ok (.iload_n 3, 1) := by decide +kernel
theorem dX11_ruled_136 : decode cX11_ruled 136 = .ok (.ifCond .ne 8, 3) := by decide +kernel
theorem dX11_ruled_139 : decode cX11_ruled 139 = .ok (.iload 5, 2) := by decide +kernel
theorem dX11_ruled_141 : decode cX11_ruled 141 = .ok (.goto 5, 3) := by decide +kernel
theorem dX11_ruled_144 : decode cX11_ruled 144 = .ok (.iload 6, 2) := by decide +kernel
theorem dX11_ruled_146 : decode cX11_ruled 146 = .ok (.ireturn, 1) := by decide +kernel
theorem dX11_firstBelow_0 : decode cX11_firstBelow 0 = .ok (.iconst 0, 1) := by decide +kernel
theorem dX11_firstBelow_1 : decode cX11_firstBelow 1 = .ok (.istore_n 2, 1) := by decide +kernel
theorem dX11_firstBelow_2 : decode cX11_firstBelow 2 = .ok (.iload_n 2, 1) := by decide +kernel
theorem dX11_firstBelow_3 : decode cX11_firstBelow 3 = .ok (.aload_n 0, 1) := by decide +kernel
theorem dX11_firstBelow_4 : decode cX11_firstBelow 4 = .ok (.getfield 124, 3) := by decide +kernel
theorem dX11_firstBelow_7 : decode cX11_firstBelow 7 = .ok (.if_icmp .ge 21, 3) := by decide +kernel
theorem dX11_firstBelow_10 : decode cX11_firstBelow 10 = .ok (.aload_n 0, 1) := by decide +kernel
theorem dX11_firstBelow_11 : decode cX11_firstBelow 11 = .ok (.getfield 22, 3) := by decide +kernel
theorem dX11_firstBelow_14 : decode cX11_firstBelow 14 = .ok (.iload_n 2, 1) := by decide +kernel
theorem dX11_firstBelow_15 : decode cX11_firstBelow 15 = .ok (.iaload, 1) := by decide +kernel
theorem dX11_firstBelow_16 : decode cX11_firstBelow 16 = .ok (.iload_n 1, 1) := by decide +kernel
theorem dX11_firstBelow_17 : decode cX11_firstBelow 17 = .ok (.if_icmp .ge 5, 3) := by decide +kernel
theorem dX11_firstBelow_20 : decode cX11_firstBelow 20 = .ok (.iload_n 2, 1) := by decide +kernel
theorem dX11_firstBelow_21 : decode cX11_firstBelow 21 = .ok (.ireturn, 1) := by decide +kernel
theorem dX11_firstBelow_22 : decode cX11_firstBelow 22 = .ok (.iinc 2 1, 3) := by decide +kernel
theorem dX11_firstBelow_25 : decode cX11_firstBelow 25 = .ok (.goto (-23), 3) := by decide +kernel
theorem dX11_firstBelow_28 : decode cX11_firstBelow 28 = .ok (.iconst (-1), 1) := by decide +kernel
theorem dX11_firstBelow_29 : decode cX11_firstBelow 29 = .ok (.ireturn, 1) := by decide +kernel
theorem dX11_ruined_0 : decode cX11_ruined 0 = .ok (.iload_n 2, 1) := by decide +kernel
theorem dX11_ruined_1 : decode cX11_ruined 1 = .ok (.i2l, 1) := by decide +kernel
theorem dX11_ruined_2 : decode cX11_ruined 2 = .ok (.ldc2_w 353, 3) := by decide +kernel
theorem dX11_ruined_5 : decode cX11_ruined 5 = .ok (.lconst 0, 1) := by decide +kernel
theorem dX11_ruined_6 : decode cX11_ruined 6 = .ok (.invokestatic 127, 3) := by decide +kernel
theorem dX11_ruined_9 : decode cX11_ruined 9 = .ok (.ifCond .eq 13, 3) := by decide +kernel
theorem dX11_ruined_12 : decode cX11_ruined 12 = .ok (.iload_n 3, 1) := by decide +kernel
theorem dX11_ruined_13 : decode cX11_ruined 13 = .ok (.i2l, 1) := by decide +kernel
theorem dX11_ruined_14 : decode cX11_ruined 14 = .ok (.lconst 0, 1) := by decide +kernel
theorem dX11_ruined_15 : decode cX11_ruined 15 = .ok (.lconst 1, 1) := by decide +kernel
theorem dX11_ruined_16 : decode cX11_ruined 16 = .ok (.invokestatic 127, 3) := by decide +kernel
theorem dX11_ruined_19 : decode cX11_ruined 19 = .ok (.ifCond .ne 5, 3) := by decide +kernel
theorem dX11_ruined_22 : decode cX11_ruined 22 = .ok (.iconst (-1), 1) := by decide +kernel
theorem dX11_ruined_23 : decode cX11_ruined 23 = .ok (.ireturn, 1) := by decide +kernel
theorem dX11_ruined_24 : decode cX11_ruined 24 = .ok (.aload_n 0, 1) := by decide +kernel
theorem dX11_ruined_25 : decode cX11_ruined 25 = .ok (.iconst 0, 1) := by decide +kernel
theorem dX11_ruined_26 : decode cX11_ruined 26 = .ok (.invokevirtual 346, 3) := by decide +kernel
theorem dX11_ruined_29 : decode cX11_ruined 29 = .ok (.aload_n 0, 1) := by decide +kernel
theorem dX11_ruined_30 : decode cX11_ruined 30 = .ok (.invokevirtual 332, 3) := by decide +kernel
theorem dX11_ruined_33 : decode cX11_ruined 33 = .ok (.aload_n 0, 1) := by decide +kernel
theorem dX11_ruined_34 : decode cX11_ruined 34 = .ok (.iload_n 1, 1) := by decide +kernel
theorem dX11_ruined_35 : decode cX11_ruined 35 = .ok (.putfield 323, 3) := by decide +kernel
theorem dX11_ruined_38 : decode cX11_ruined 38 = .ok (.iconst 0, 1) := by decide +kernel
theorem dX11_ruined_39 : decode cX11_ruined 39 = .ok (.istore 4, 2) := by decide +kernel
theorem dX11_ruined_41 : decode cX11_ruined 41 = .ok (.iconst (-1), 1) := by decide +kernel
theorem dX11_ruined_42 : decode cX11_ruined 42 = .ok (.istore 5, 2) := by decide +kernel
theorem dX11_ruined_44 : decode cX11_ruined 44 = .ok (.iload 5, 2) := by decide +kernel
theorem dX11_ruined_46 : decode cX11_ruined 46 = .ok (.ifCond .ge 27, 3) := by decide +kernel
theorem dX11_ruined_49 : decode cX11_ruined 49 = .ok (.iload 4, 2) := by decide +kernel
theorem dX11_ruined_51 : decode cX11_ruined 51 = .ok (.bipush 30, 2) := by decide +kernel
theorem dX11_ruined_53 : decode cX11_ruined 53 = .ok (.if_icmp .ge 20, 3) := by decide +kernel
theorem dX11_ruined_56 : decode cX11_ruined 56 = .ok (.aload_n 0, 1) := by decide +kernel
theorem dX11_ruined_57 : decode cX11_ruined 57 = .ok (.invokevirtual 335, 3) := by decide +kernel
theorem dX11_ruined_60 : decode cX11_ruined 60 = .ok (.iinc 4 1, 3) := by decide +kernel
theorem dX11_ruined_63 : decode cX11_ruined 63 = .ok (.aload_n 0, 1) := by decide +kernel
theorem dX11_ruined_64 : decode cX11_ruined 64 = .ok (.iload_n 2, 1) := by decide +kernel
theorem dX11_ruined_65 : decode cX11_ruined 65 = .ok (.invokevirtual 355, 3) := by decide +kernel
theorem dX11_ruined_68 : decode cX11_ruined 68 = .ok (.istore 5, 2) := by decide +kernel
theorem dX11_ruined_70 : decode cX11_ruined 70 = .ok (.goto (-26), 3) := by decide +kernel
theorem dX11_ruined_73 : decode cX11_ruined 73 = .ok (.aload_n 0, 1) := by decide +kernel
theorem dX11_ruined_74 : decode cX11_ruined 74 = .ok (.iconst 0, 1) := by decide +kernel
theorem dX11_ruined_75 : decode cX11_ruined 75 = .ok (.bipush 6, 2) := by decide +kernel
theorem dX11_ruined_77 : decode cX11_ruined 77 = .ok (.iconst 5, 1) := by decide +kernel
theorem dX11_ruined_78 : decode cX11_ruined 78 = .ok (.iconst 1, 1) := by decide +kernel
theorem dX11_ruined_79 : decode cX11_ruined 79 = .ok (.invokevirtual 349, 3) := by decide +kernel
theorem dX11_ruined_82 : decode cX11_ruined 82 = .ok (.iload 5, 2) := by decide +kernel
theorem dX11_ruined_84 : decode cX11_ruined 84 = .ok (.ifCond .ge 8, 3) := by decide +kernel
theorem dX11_ruined_87 : decode cX11_ruined 87 = .ok (.bipush (-2), 2) := by decide +kernel
theorem dX11_ruined_89 : decode cX11_ruined 89 = .ok (.goto 14, 3) := by decide +kernel
theorem dX11_ruined_92 : decode cX11_ruined 92 = .ok (.iload_n 3, 1) := by decide +kernel
theorem dX11_ruined_93 : decode cX11_ruined 93 = .ok (.ifCond .ne 8, 3) := by decide +kernel
theorem dX11_ruined_96 : decode cX11_ruined 96 = .ok (.iload 4, 2) := by decide +kernel
theorem dX11_ruined_98 : decode cX11_ruined 98 = .ok (.goto 5, 3) := by decide +kernel
theorem dX11_ruined_101 : decode cX11_ruined 101 = .ok (.iload 5, 2) := by decide +kernel
theorem dX11_ruined_103 : decode cX11_ruined 103 = .ok (.ireturn, 1) := by decide +kernel
theorem dX11_image_0 : decode cX11_image 0 = .ok (.aload_n 0, 1) := by decide +kernel
theorem dX11_image_1 : decode cX11_image 1 = .ok (.iconst 1, 1) := by decide +kernel
theorem dX11_image_2 : decode cX11_image 2 = .ok (.putfield 358, 3) := by decide +kernel
theorem dX11_image_5 : decode cX11_image 5 = .ok (.aload_n 0, 1) := by decide +kernel
theorem dX11_image_6 : decode cX11_image 6 = .ok (.aload_n 0, 1) := by decide +kernel
theorem dX11_image_7 : decode cX11_image 7 = .ok (.getfield 131, 3) := by decide +kernel
theorem dX11_image_10 : decode cX11_image 10 = .ok (.putfield 362, 3) := by decide +kernel
theorem dX11_image_13 : decode cX11_image 13 = .ok (.aload_n 0, 1) := by decide +kernel
theorem dX11_image_14 : decode cX11_image 14 = .ok (.aload_n 0, 1) := by decide +kernel
theorem dX11_image_15 : decode cX11_image 15 = .ok (.getfield 124, 3) := by decide +kernel
theorem dX11_image_18 : decode cX11_image 18 = .ok (.putfield 365, 3) := by decide +kernel
theorem dX11_image_21 : decode cX11_image 21 = .ok (.aload_n 0, 1) := by decide +kernel
theorem dX11_image_22 : decode cX11_image 22 = .ok (.iconst 1, 1) := by decide +kernel
theorem dX11_image_23 : decode cX11_image 23 = .ok (.invokevirtual 346, 3) := by decide +kernel
theorem dX11_image_26 : decode cX11_image 26 = .ok (.aload_n 0, 1) := by decide +kernel
theorem dX11_image_27 : decode cX11_image 27 = .ok (.getfield 131, 3) := by decide +kernel
theorem dX11_image_30 : decode cX11_image 30 = .ok (.ireturn, 1) := by decide +kernel
theorem dX11_back_0 : decode cX11_back 0 = .ok (.aload_n 0, 1) := by decide +kernel
theorem dX11_back_1 : decode cX11_back 1 = .ok (.getfield 358, 3) := by decide +kernel
theorem dX11_back_4 : decode cX11_back 4 = .ok (.ifCond .ne 6, 3) := by decide +kernel
theorem dX11_back_7 : decode cX11_back 7 = .ok (.bipush (-5), 2) := by decide +kernel
theorem dX11_back_9 : decode cX11_back 9 = .ok (.ireturn, 1) := by decide +kernel
theorem dX11_back_10 : decode cX11_back 10 = .ok (.aload_n 0, 1) := by decide +kernel
theorem dX11_back_11 : decode cX11_back 11 = .ok (.iconst 1, 1) := by decide +kernel
theorem dX11_back_12 : decode cX11_back 12 = .ok (.aload_n 0, 1) := by decide +kernel
theorem dX11_back_13 : decode cX11_back 13 = .ok (.getfield 362, 3) := by decide +kernel
theorem dX11_back_16 : decode cX11_back 16 = .ok (.aload_n 0, 1) := by decide +kernel
theorem dX11_back_17 : decode cX11_back 17 = .ok (.getfield 365, 3) := by decide +kernel
theorem dX11_back_20 : decode cX11_back 20 = .ok (.iconst 0, 1) := by decide +kernel
theorem dX11_back_21 : decode cX11_back 21 = .ok (.invokevirtual 349, 3) := by decide +kernel
theorem dX11_back_24 : decode cX11_back 24 = .ok (.aload_n 0, 1) := by decide +kernel
theorem dX11_back_25 : decode cX11_back 25 = .ok (.getfield 362, 3) := by decide +kernel
theorem dX11_back_28 : decode cX11_back 28 = .ok (.ireturn, 1) := by decide +kernel
theorem dX11_isBody_0 : decode cX11_isBody 0 = .ok (.iload_n 1, 1) := by decide +kernel
theorem dX11_isBody_1 : decode cX11_isBody 1 = .ok (.i2l, 1) := by decide +kernel
theorem dX11_isBody_2 : decode cX11_isBody 2 = .ok (.lconst 0, 1) := by decide +kernel
theorem dX11_isBody_3 : decode cX11_isBody 3 = .ok (.aload_n 0, 1) := by decide +kernel
theorem dX11_isBody_4 : decode cX11_isBody 4 = .ok (.getfield 368, 3) := by decide +kernel
theorem dX11_isBody_7 : decode cX11_isBody 7 = .ok (.iconst 1, 1) := by decide +kernel
theorem dX11_isBody_8 : decode cX11_isBody 8 = .ok (.isub, 1) := by decide +kernel
theorem dX11_isBody_9 : decode cX11_isBody 9 = .ok (.i2l, 1) := by decide +kernel
theorem dX11_isBody_10 : decode cX11_isBody 10 = .ok (.invokestatic 127, 3) := by decide +kernel
theorem dX11_isBody_13 : decode cX11_isBody 13 = .ok (.ireturn, 1) := by decide +kernel
theorem dX11_kindOf_0 : decode cX11_kindOf 0 = .ok (.aload_n 0, 1) := by decide +kernel
theorem dX11_kindOf_1 : decode cX11_kindOf 1 = .ok (.getfield 96, 3) := by decide +kernel
theorem dX11_kindOf_4 : decode cX11_kindOf 4 = .ok (.iload_n 1, 1) := by decide +kernel
theorem dX11_kindOf_5 : decode cX11_kindOf 5 = .ok (.iaload, 1) := by decide +kernel
theorem dX11_kindOf_6 : decode cX11_kindOf 6 = .ok (.ireturn, 1) := by decide +kernel
theorem dX11_body_0 : decode cX11_body 0 = .ok (.iload_n 1, 1) := by decide +kernel
theorem dX11_body_1 : decode cX11_body 1 = .ok (.i2l, 1) := by decide +kernel
theorem dX11_body_2 : decode cX11_body 2 = .ok (.lconst 0, 1) := by decide +kernel
theorem dX11_body_3 : decode cX11_body 3 = .ok (.ldc2_w 371, 3) := by decide +kernel
theorem dX11_body_6 : decode cX11_body 6 = .ok (.invokestatic 127, 3) := by decide +kernel
theorem dX11_body_9 : decode cX11_body 9 = .ok (.ifCond .ne 5, 3) := by decide +kernel
theorem dX11_body_12 : decode cX11_body 12 = .ok (.iconst (-1), 1) := by decide +kernel
theorem dX11_body_13 : decode cX11_body 13 = .ok (.ireturn, 1) := by decide +kernel
theorem dX11_body_14 : decode cX11_body 14 = .ok (.aload_n 0, 1) := by decide +kernel
theorem dX11_body_15 : decode cX11_body 15 = .ok (.getfield 368, 3) := by decide +kernel
theorem dX11_body_18 : decode cX11_body 18 = .ok (.bipush 50, 2) := by decide +kernel
theorem dX11_body_20 : decode cX11_body 20 = .ok (.if_icmp .ne 6, 3) := by decide +kernel
theorem dX11_body_23 : decode cX11_body 23 = .ok (.bipush (-3), 2) := by decide +kernel
theorem dX11_body_25 : decode cX11_body 25 = .ok (.ireturn, 1) := by decide +kernel
theorem dX11_body_26 : decode cX11_body 26 = .ok (.aload_n 0, 1) := by decide +kernel
theorem dX11_body_27 : decode cX11_body 27 = .ok (.getfield 96, 3) := by decide +kernel
theorem dX11_body_30 : decode cX11_body 30 = .ok (.aload_n 0, 1) := by decide +kernel
theorem dX11_body_31 : decode cX11_body 31 = .ok (.getfield 368, 3) := by decide +kernel
theorem dX11_body_34 : decode cX11_body 34 = .ok (.iload_n 1, 1) := by decide +kernel
theorem dX11_body_35 : decode cX11_body 35 = .ok (.iastore, 1) := by decide +kernel
theorem dX11_body_36 : decode cX11_body 36 = .ok (.aload_n 0, 1) := by decide +kernel
theorem dX11_body_37 : decode cX11_body 37 = .ok (.dup, 1) := by decide +kernel
theorem dX11_body_38 : decode cX11_body 38 = .ok (.getfield 368, 3) := by decide +kernel
theorem dX11_body_41 : decode cX11_body 41 = .ok (.iconst 1, 1) := by decide +kernel
theorem dX11_body_42 : decode cX11_body 42 = .ok (.iadd, 1) := by decide +kernel
theorem dX11_body_43 : decode cX11_body 43 = .ok (.putfield 368, 3) := by decide +kernel
theorem dX11_body_46 : decode cX11_body 46 = .ok (.aload_n 0, 1) := by decide +kernel
theorem dX11_body_47 : decode cX11_body 47 = .ok (.getfield 368, 3) := by decide +kernel
theorem dX11_body_50 : decode cX11_body 50 = .ok (.iconst 1, 1) := by decide +kernel
theorem dX11_body_51 : decode cX11_body 51 = .ok (.isub, 1) := by decide +kernel
theorem dX11_body_52 : decode cX11_body 52 = .ok (.ireturn, 1) := by decide +kernel
theorem dX11_above_0 : decode cX11_above 0 = .ok (.iload_n 0, 1) := by decide +kernel
theorem dX11_above_1 : decode cX11_above 1 = .ok (.iconst 3, 1) := by decide +kernel
theorem dX11_above_2 : decode cX11_above 2 = .ok (.if_icmp .ne 7, 3) := by decide +kernel
theorem dX11_above_5 : decode cX11_above 5 = .ok (.iconst 2, 1) := by decide +kernel
theorem dX11_above_6 : decode cX11_above 6 = .ok (.goto 32, 3) := by decide +kernel
theorem dX11_above_9 : decode cX11_above 9 = .ok (.iload_n 0, 1) := by decide +kernel
theorem dX11_above_10 : decode cX11_above 10 = .ok (.iconst 4, 1) := by decide +kernel
theorem dX11_above_11 : decode cX11_above 11 = .ok (.if_icmp .ne 7, 3) := by decide +kernel
theorem dX11_above_14 : decode cX11_above 14 = .ok (.iconst 1, 1) := by decide +kernel
theorem dX11_above_15 : decode cX11_above 15 = .ok (.goto 23, 3) := by decide +kernel
theorem dX11_above_18 : decode cX11_above 18 = .ok (.iload_n 0, 1) := by decide +kernel
theorem dX11_above_19 : decode cX11_above 19 = .ok (.iconst 5, 1) := by decide +kernel
theorem dX11_above_20 : decode cX11_above 20 = .ok (.if_icmp .ne 7, 3) := by decide +kernel
theorem dX11_above_23 : decode cX11_above 23 = .ok (.iconst 3, 1) := by decide +kernel
theorem dX11_above_24 : decode cX11_above 24 = .ok (.goto 14, 3) := by decide +kernel
theorem dX11_above_27 : decode cX11_above 27 = .ok (.iload_n 0, 1) := by decide +kernel
theorem dX11_above_28 : decode cX11_above 28 = .ok (.bipush 7, 2) := by decide +kernel
theorem dX11_above_30 : decode cX11_above 30 = .ok (.if_icmp .ne 7, 3) := by decide +kernel
theorem dX11_above_33 : decode cX11_above 33 = .ok (.iconst 4, 1) := by decide +kernel
theorem dX11_above_34 : decode cX11_above 34 = .ok (.goto 4, 3) := by decide +kernel
theorem dX11_above_37 : decode cX11_above 37 = .ok (.iconst 0, 1) := by decide +kernel
theorem dX11_above_38 : decode cX11_above 38 = .ok (.ireturn, 1) := by decide +kernel
theorem dX11_begins_0 : decode cX11_begins 0 = .ok (.aload_n 0, 1) := by decide +kernel
theorem dX11_begins_1 : decode cX11_begins 1 = .ok (.getfield 373, 3) := by decide +kernel
theorem dX11_begins_4 : decode cX11_begins 4 = .ok (.bipush 24, 2) := by decide +kernel
theorem dX11_begins_6 : decode cX11_begins 6 = .ok (.if_icmp .ge 13, 3) := by decide +kernel
theorem dX11_begins_9 : decode cX11_begins 9 = .ok (.aload_n 0, 1) := by decide +kernel
theorem dX11_begins_10 : decode cX11_begins 10 = .ok (.getfield 99, 3) := by decide +kernel
theorem dX11_begins_13 : decode cX11_begins 13 = .ok (.aload_n 0, 1) := by decide +kernel
theorem dX11_begins_14 : decode cX11_begins 14 = .ok (.getfield 373, 3) := by decide +kernel
theorem dX11_begins_17 : decode cX11_begins 17 = .ok (.iload_n 1, 1) := by decide +kernel
theorem dX11_begins_18 : decode cX11_begins 18 = .ok (.iastore, 1) := by decide +kernel
theorem dX11_begins_19 : decode cX11_begins 19 = .ok (.aload_n 0, 1) := by decide +kernel
theorem dX11_begins_20 : decode cX11_begins 20 = .ok (.dup, 1) := by decide +kernel
theorem dX11_begins_21 : decode cX11_begins 21 = .ok (.getfield 373, 3) := by decide +kernel
theorem dX11_begins_24 : decode cX11_begins 24 = .ok (.iconst 1, 1) := by decide +kernel
theorem dX11_begins_25 : decode cX11_begins 25 = .ok (.iadd, 1) := by decide +kernel
theorem dX11_begins_26 : decode cX11_begins 26 = .ok (.putfield 373, 3) := by decide +kernel
theorem dX11_begins_29 : decode cX11_begins 29 = .ok (.return_, 1) := by decide +kernel
theorem dX11_mendsAs_0 : decode cX11_mendsAs 0 = .ok (.iload_n 1, 1) := by decide +kernel
theorem dX11_mendsAs_1 : decode cX11_mendsAs 1 = .ok (.iconst 1, 1) := by decide +kernel
theorem dX11_mendsAs_2 : decode cX11_mendsAs 2 = .ok (.if_icmp .eq 14, 3) := by decide +kernel
theorem dX11_mendsAs_5 : decode cX11_mendsAs 5 = .ok (.iload_n 1, 1) := by decide +kernel
theorem dX11_mendsAs_6 : decode cX11_mendsAs 6 = .ok (.iconst 4, 1) := by decide +kernel
theorem dX11_mendsAs_7 : decode cX11_mendsAs 7 = .ok (.if_icmp .eq 9, 3) := by decide +kernel
theorem dX11_mendsAs_10 : decode cX11_mendsAs 10 = .ok (.iload_n 1, 1) := by decide +kernel
theorem dX11_mendsAs_11 : decode cX11_mendsAs 11 = .ok (.bipush 7, 2) := by decide +kernel
theorem dX11_mendsAs_13 : decode cX11_mendsAs 13 = .ok (.if_icmp .ne 18, 3) := by decide +kernel
theorem dX11_mendsAs_16 : decode cX11_mendsAs 16 = .ok (.aload_n 0, 1) := by decide +kernel
theorem dX11_mendsAs_17 : decode cX11_mendsAs 17 = .ok (.bipush 20, 2) := by decide +kernel
theorem dX11_mendsAs_19 : decode cX11_mendsAs 19 = .ok (.invokevirtual 376, 3) := by decide +kernel
theorem dX11_mendsAs_22 : decode cX11_mendsAs 22 = .ok (.aload_n 0, 1) := by decide +kernel
theorem dX11_mendsAs_23 : decode cX11_mendsAs 23 = .ok (.iconst 0, 1) := by decide +kernel
theorem dX11_mendsAs_24 : decode cX11_mendsAs 24 = .ok (.iload_n 2, 1) := by decide +kernel
theorem dX11_mendsAs_25 : decode cX11_mendsAs 25 = .ok (.invokevirtual 379, 3) := by decide +kernel
theorem dX11_mendsAs_28 : decode cX11_mendsAs 28 = .ok (.iconst 3, 1) := by decide +kernel
theorem dX11_mendsAs_29 : decode cX11_mendsAs 29 = .ok (.iadd, 1) := by decide +kernel
theorem dX11_mendsAs_30 : decode cX11_mendsAs 30 = .ok (.ireturn, 1) := by decide +kernel
theorem dX11_mendsAs_31 : decode cX11_mendsAs 31 = .ok (.iload_n 1, 1) := by decide +kernel
theorem dX11_mendsAs_32 : decode cX11_mendsAs 32 = .ok (.bipush 6, 2) := by decide +kernel
theorem dX11_mendsAs_34 : decode cX11_mendsAs 34 = .ok (.if_icmp .ne 18, 3) := by decide +kernel
theorem dX11_mendsAs_37 : decode cX11_mendsAs 37 = .ok (.aload_n 0, 1) := by decide +kernel
theorem dX11_mendsAs_38 : decode cX11_mendsAs 38 = .ok (.bipush 70, 2) := by decide +kernel
theorem dX11_mendsAs_40 : decode cX11_mendsAs 40 = .ok (.invokevirtual 376, 3) := by decide +kernel
theorem dX11_mendsAs_43 : decode cX11_mendsAs 43 = .ok (.aload_n 0, 1) := by decide +kernel
theorem dX11_mendsAs_44 : decode cX11_mendsAs 44 = .ok (.iconst 0, 1) := by decide +kernel
theorem dX11_mendsAs_45 : decode cX11_mendsAs 45 = .ok (.iload_n 2, 1) := by decide +kernel
theorem dX11_mendsAs_46 : decode cX11_mendsAs 46 = .ok (.invokevirtual 379, 3) := by decide +kernel
theorem dX11_mendsAs_49 : decode cX11_mendsAs 49 = .ok (.iconst 2, 1) := by decide +kernel
theorem dX11_mendsAs_50 : decode cX11_mendsAs 50 = .ok (.imul, 1) := by decide +kernel
theorem dX11_mendsAs_51 : decode cX11_mendsAs 51 = .ok (.ireturn, 1) := by decide +kernel
theorem dX11_mendsAs_52 : decode cX11_mendsAs 52 = .ok (.aload_n 0, 1) := by decide +kernel
theorem dX11_mendsAs_53 : decode cX11_mendsAs 53 = .ok (.iconst 1, 1) := by decide +kernel
theorem dX11_mendsAs_54 : decode cX11_mendsAs 54 = .ok (.invokevirtual 376, 3) := by decide +kernel
theorem dX11_mendsAs_57 : decode cX11_mendsAs 57 = .ok (.iload_n 2, 1) := by decide +kernel
theorem dX11_mendsAs_58 : decode cX11_mendsAs 58 = .ok (.aload_n 0, 1) := by decide +kernel
theorem dX11_mendsAs_59 : decode cX11_mendsAs 59 = .ok (.getfield 382, 3) := by decide +kernel
theorem dX11_mendsAs_62 : decode cX11_mendsAs 62 = .ok (.iadd, 1) := by decide +kernel
theorem dX11_mendsAs_63 : decode cX11_mendsAs 63 = .ok (.ireturn, 1) := by decide +kernel
theorem dX11_paysAs_0 : decode cX11_paysAs 0 = .ok (.iload_n 1, 1) := by decide +kernel
theorem dX11_paysAs_1 : decode cX11_paysAs 1 = .ok (.iconst 3, 1) := by decide +kernel
theorem dX11_paysAs_2 : decode cX11_paysAs 2 = .ok (.if_icmp .eq 8, 3) := by decide +kernel
theorem dX11_paysAs_5 : decode cX11_paysAs 5 = .ok (.iload_n 1, 1) := by decide +kernel
theorem dX11_paysAs_6 : decode cX11_paysAs 6 = .ok (.iconst 5, 1) := by decide +kernel
theorem dX11_paysAs_7 : decode cX11_paysAs 7 = .ok (.if_icmp .ne 18, 3) := by decide +kernel
theorem dX11_paysAs_10 : decode cX11_paysAs 10 = .ok (.aload_n 0, 1) := by decide +kernel
theorem dX11_paysAs_11 : decode cX11_paysAs 11 = .ok (.bipush 41, 2) := by decide +kernel
theorem dX11_paysAs_13 : decode cX11_paysAs 13 = .ok (.invokevirtual 376, 3) := by decide +kernel
theorem dX11_paysAs_16 : decode cX11_paysAs 16 = .ok (.aload_n 0, 1) := by decide +kernel
theorem dX11_paysAs_17 : decode cX11_paysAs 17 = .ok (.iconst 2, 1) := by decide +kernel
theorem dX11_paysAs_18 : decode cX11_paysAs 18 = .ok (.iload_n 2, 1) := by decide +kernel
theorem dX11_paysAs_19 : decode cX11_paysAs 19 = .ok (.iconst 1, 1) := by decide +kernel
theorem dX11_paysAs_20 : decode cX11_paysAs 20 = .ok (.iadd, 1) := by decide +kernel
theorem dX11_paysAs_21 : decode cX11_paysAs 21 = .ok (.invokevirtual 385, 3) := by decide +kernel
theorem dX11_paysAs_24 : decode cX11_paysAs 24 = .ok (.ireturn, 1) := by decide +kernel
theorem dX11_paysAs_25 : decode cX11_paysAs 25 = .ok (.iload_n 1, 1) := by decide +kernel
theorem dX11_paysAs_26 : decode cX11_paysAs 26 = .ok (.iconst 2, 1) := by decide +kernel
theorem dX11_paysAs_27 : decode cX11_paysAs 27 = .ok (.if_icmp .ne 17, 3) := by decide +kernel
theorem dX11_paysAs_30 : decode cX11_paysAs 30 = .ok (.aload_n 0, 1) := by decide +kernel
theorem dX11_paysAs_31 : decode cX11_paysAs 31 = .ok (.bipush 30, 2) := by decide +kernel
theorem dX11_paysAs_33 : decode cX11_paysAs 33 = .ok (.invokevirtual 376, 3) := by decide +kernel
theorem dX11_paysAs_36 : decode cX11_paysAs 36 = .ok (.aload_n 0, 1) := by decide +kernel
theorem dX11_paysAs_37 : decode cX11_paysAs 37 = .ok (.iconst 0, 1) := by decide +kernel
theorem dX11_paysAs_38 : decode cX11_paysAs 38 = .ok (.iload_n 2, 1) := by decide +kernel
theorem dX11_paysAs_39 : decode cX11_paysAs 39 = .ok (.invokevirtual 385, 3) := by decide +kernel
theorem dX11_paysAs_42 : decode cX11_paysAs 42 = .ok (.ineg, 1) := by decide +kernel
theorem dX11_paysAs_43 : decode cX11_paysAs 43 = .ok (.ireturn, 1) := by decide +kernel
theorem dX11_paysAs_44 : decode cX11_paysAs 44 = .ok (.iload_n 1, 1) := by decide +kernel
theorem dX11_paysAs_45 : decode cX11_paysAs 45 = .ok (.bipush 7, 2) := by decide +kernel
theorem dX11_paysAs_47 : decode cX11_paysAs 47 = .ok (.if_icmp .ne 28, 3) := by decide +kernel
theorem dX11_paysAs_50 : decode cX11_paysAs 50 = .ok (.aload_n 0, 1) := by decide +kernel
theorem dX11_paysAs_51 : decode cX11_paysAs 51 = .ok (.bipush 80, 2) := by decide +kernel
theorem dX11_paysAs_53 : decode cX11_paysAs 53 = .ok (.invokevirtual 376, 3) := by decide +kernel
theorem dX11_paysAs_56 : decode cX11_paysAs 56 = .ok (.aload_n 0, 1) := by decide +kernel
theorem dX11_paysAs_57 : decode cX11_paysAs 57 = .ok (.iconst 4, 1) := by decide +kernel
theorem dX11_paysAs_58 : decode cX11_paysAs 58 = .ok (.iload_n 2, 1) := by decide +kernel
theorem dX11_paysAs_59 : decode cX11_paysAs 59 = .ok (.invokevirtual 385, 3) := by decide +kernel
theorem dX11_paysAs_62 : decode cX11_paysAs 62 = .ok (.istore_n 3, 1) := by decide +kernel
theorem dX11_paysAs_63 : decode cX11_paysAs 63 = .ok (.iload_n 3, 1) := by decide +kernel
theorem dX11_paysAs_64 : decode cX11_paysAs 64 = .ok (.aload_n 0, 1) := by decide +kernel
theorem dX11_paysAs_65 : decode cX11_paysAs 65 = .ok (.aload_n 0, 1) := by decide +kernel
theorem dX11_paysAs_66 : decode cX11_paysAs 66 = .ok (.getfield 388, 3) := by decide +kernel
theorem dX11_paysAs_69 : decode cX11_paysAs 69 = .ok (.iconst 2, 1) := by decide +kernel
theorem dX11_paysAs_70 : decode cX11_paysAs 70 = .ok (.invokevirtual 391, 3) := by decide +kernel
theorem dX11_paysAs_73 : decode cX11_paysAs 73 = .ok (.iadd, 1) := by decide +kernel
theorem dX11_paysAs_74 : decode cX11_paysAs 74 = .ok (.ireturn, 1) := by decide +kernel
theorem dX11_paysAs_75 : decode cX11_paysAs 75 = .ok (.aload_n 0, 1) := by decide +kernel
theorem dX11_paysAs_76 : decode cX11_paysAs 76 = .ok (.bipush 10, 2) := by decide +kernel
theorem dX11_paysAs_78 : decode cX11_paysAs 78 = .ok (.invokevirtual 376, 3) := by decide +kernel
theorem dX11_paysAs_81 : decode cX11_paysAs 81 = .ok (.aload_n 0, 1) := by decide +kernel
theorem dX11_paysAs_82 : decode cX11_paysAs 82 = .ok (.aload_n 0, 1) := by decide +kernel
theorem dX11_paysAs_83 : decode cX11_paysAs 83 = .ok (.getfield 388, 3) := by decide +kernel
theorem dX11_paysAs_86 : decode cX11_paysAs 86 = .ok (.iload_n 2, 1) := by decide +kernel
theorem dX11_paysAs_87 : decode cX11_paysAs 87 = .ok (.invokevirtual 379, 3) := by decide +kernel
theorem dX11_paysAs_90 : decode cX11_paysAs 90 = .ok (.iconst 2, 1) := by decide +kernel
theorem dX11_paysAs_91 : decode cX11_paysAs 91 = .ok (.imul, 1) := by decide +kernel
theorem dX11_paysAs_92 : decode cX11_paysAs 92 = .ok (.ireturn, 1) := by decide +kernel
theorem dX11_leavesAs_0 : decode cX11_leavesAs 0 = .ok (.iload_n 1, 1) := by decide +kernel
theorem dX11_leavesAs_1 : decode cX11_leavesAs 1 = .ok (.iconst 3, 1) := by decide +kernel
theorem dX11_leavesAs_2 : decode cX11_leavesAs 2 = .ok (.if_icmp .eq 8, 3) := by decide +kernel
theorem dX11_leavesAs_5 : decode cX11_leavesAs 5 = .ok (.iload_n 1, 1) := by decide +kernel
theorem dX11_leavesAs_6 : decode cX11_leavesAs 6 = .ok (.iconst 5, 1) := by decide +kernel
theorem dX11_leavesAs_7 : decode cX11_leavesAs 7 = .ok (.if_icmp .ne 18, 3) := by decide +kernel
theorem dX11_leavesAs_10 : decode cX11_leavesAs 10 = .ok (.aload_n 0, 1) := by decide +kernel
theorem dX11_leavesAs_11 : decode cX11_leavesAs 11 = .ok (.bipush 40, 2) := by decide +kernel
theorem dX11_leavesAs_13 : decode cX11_leavesAs 13 = .ok (.invokevirtual 376, 3) := by decide +kernel
theorem dX11_leavesAs_16 : decode cX11_leavesAs 16 = .ok (.aload_n 0, 1) := by decide +kernel
theorem dX11_leavesAs_17 : decode cX11_leavesAs 17 = .ok (.iconst 2, 1) := by decide +kernel
theorem dX11_leavesAs_18 : decode cX11_leavesAs 18 = .ok (.iload_n 2, 1) := by decide +kernel
theorem dX11_leavesAs_19 : decode cX11_leavesAs 19 = .ok (.invokevirtual 391, 3) := by decide +kernel
theorem dX11_leavesAs_22 : decode cX11_leavesAs 22 = .ok (.iconst 3, 1) := by decide +kernel
theorem dX11_leavesAs_23 : decode cX11_leavesAs 23 = .ok (.imul, 1) := by decide +kernel
theorem dX11_leavesAs_24 : decode cX11_leavesAs 24 = .ok (.ireturn, 1) := by decide +kernel
theorem dX11_leavesAs_25 : decode cX11_leavesAs 25 = .ok (.iload_n 1, 1) := by decide +kernel
theorem dX11_leavesAs_26 : decode cX11_leavesAs 26 = .ok (.iconst 4, 1) := by decide +kernel
theorem dX11_leavesAs_27 : decode cX11_leavesAs 27 = .ok (.if_icmp .eq 9, 3) := by decide +kernel
theorem dX11_leavesAs_30 : decode cX11_leavesAs 30 = .ok (.iload_n 1, 1) := by decide +kernel
theorem dX11_leavesAs_31 : decode cX11_leavesAs 31 = .ok (.bipush 7, 2) := by decide +kernel
theorem dX11_leavesAs_33 : decode cX11_leavesAs 33 = .ok (.if_icmp .ne 28, 3) := by decide +kernel
theorem dX11_leavesAs_36 : decode cX11_leavesAs 36 = .ok (.aload_n 0, 1) := by decide +kernel
theorem dX11_leavesAs_37 : decode cX11_leavesAs 37 = .ok (.bipush 50, 2) := by decide +kernel
theorem dX11_leavesAs_39 : decode cX11_leavesAs 39 = .ok (.invokevirtual 376, 3) := by decide +kernel
theorem dX11_leavesAs_42 : decode cX11_leavesAs 42 = .ok (.aload_n 0, 1) := by decide +kernel
theorem dX11_leavesAs_43 : decode cX11_leavesAs 43 = .ok (.iconst 1, 1) := by decide +kernel
theorem dX11_leavesAs_44 : decode cX11_leavesAs 44 = .ok (.iload_n 2, 1) := by decide +kernel
theorem dX11_leavesAs_45 : decode cX11_leavesAs 45 = .ok (.invokevirtual 391, 3) := by decide +kernel
theorem dX11_leavesAs_48 : decode cX11_leavesAs 48 = .ok (.istore_n 3, 1) := by decide +kernel
theorem dX11_leavesAs_49 : decode cX11_leavesAs 49 = .ok (.iload_n 3, 1) := by decide +kernel
theorem dX11_leavesAs_50 : decode cX11_leavesAs 50 = .ok (.aload_n 0, 1) := by decide +kernel
theorem dX11_leavesAs_51 : decode cX11_leavesAs 51 = .ok (.aload_n 0, 1) := by decide +kernel
theorem dX11_leavesAs_52 : decode cX11_leavesAs 52 = .ok (.getfield 388, 3) := by decide +kernel
theorem dX11_leavesAs_55 : decode cX11_leavesAs 55 = .ok (.iconst 2, 1) := by decide +kernel
theorem dX11_leavesAs_56 : decode cX11_leavesAs 56 = .ok (.invokevirtual 379, 3) := by decide +kernel
theorem dX11_leavesAs_59 : decode cX11_leavesAs 59 = .ok (.isub, 1) := by decide +kernel
theorem dX11_leavesAs_60 : decode cX11_leavesAs 60 = .ok (.ireturn, 1) := by decide +kernel
theorem dX11_leavesAs_61 : decode cX11_leavesAs 61 = .ok (.aload_n 0, 1) := by decide +kernel
theorem dX11_leavesAs_62 : decode cX11_leavesAs 62 = .ok (.bipush 11, 2) := by decide +kernel
theorem dX11_leavesAs_64 : decode cX11_leavesAs 64 = .ok (.invokevirtual 376, 3) := by decide +kernel
theorem dX11_leavesAs_67 : decode cX11_leavesAs 67 = .ok (.iload_n 2, 1) := by decide +kernel
theorem dX11_leavesAs_68 : decode cX11_leavesAs 68 = .ok (.aload_n 0, 1) := by decide +kernel
theorem dX11_leavesAs_69 : decode cX11_leavesAs 69 = .ok (.getfield 382, 3) := by decide +kernel
theorem dX11_leavesAs_72 : decode cX11_leavesAs 72 = .ok (.ixor, 1) := by decide +kernel
theorem dX11_leavesAs_73 : decode cX11_leavesAs 73 = .ok (.ireturn, 1) := by decide +kernel
theorem dX11_tellsAs_0 : decode cX11_tellsAs 0 = .ok (.iload_n 1, 1) := by decide +kernel
theorem dX11_tellsAs_1 : decode cX11_tellsAs 1 = .ok (.iconst 5, 1) := by decide +kernel
theorem dX11_tellsAs_2 : decode cX11_tellsAs 2 = .ok (.if_icmp .ne 18, 3) := by decide +kernel
theorem dX11_tellsAs_5 : decode cX11_tellsAs 5 = .ok (.aload_n 0, 1) := by decide +kernel
theorem dX11_tellsAs_6 : decode cX11_tellsAs 6 = .ok (.bipush 60, 2) := by decide +kernel
theorem dX11_tellsAs_8 : decode cX11_tellsAs 8 = .ok (.invokevirtual 376, 3) := by decide +kernel
theorem dX11_tellsAs_11 : decode cX11_tellsAs 11 = .ok (.aload_n 0, 1) := by decide +kernel
theorem dX11_tellsAs_12 : decode cX11_tellsAs 12 = .ok (.iconst 3, 1) := by decide +kernel
theorem dX11_tellsAs_13 : decode cX11_tellsAs 13 = .ok (.iload_n 2, 1) := by decide +kernel
theorem dX11_tellsAs_14 : decode cX11_tellsAs 14 = .ok (.invokevirtual 394, 3) := by decide +kernel
theorem dX11_tellsAs_17 : decode cX11_tellsAs 17 = .ok (.iconst 5, 1) := by decide +kernel
theorem dX11_tellsAs_18 : decode cX11_tellsAs 18 = .ok (.ixor, 1) := by decide +kernel
theorem dX11_tellsAs_19 : decode cX11_tellsAs 19 = .ok (.ireturn, 1) := by decide +kernel
theorem dX11_tellsAs_20 : decode cX11_tellsAs 20 = .ok (.iload_n 1, 1) := by decide +kernel
theorem dX11_tellsAs_21 : decode cX11_tellsAs 21 = .ok (.bipush 7, 2) := by decide +kernel
theorem dX11_tellsAs_23 : decode cX11_tellsAs 23 = .ok (.if_icmp .ne 18, 3) := by decide +kernel
theorem dX11_tellsAs_26 : decode cX11_tellsAs 26 = .ok (.aload_n 0, 1) := by decide +kernel
theorem dX11_tellsAs_27 : decode cX11_tellsAs 27 = .ok (.bipush 81, 2) := by decide +kernel
theorem dX11_tellsAs_29 : decode cX11_tellsAs 29 = .ok (.invokevirtual 376, 3) := by decide +kernel
theorem dX11_tellsAs_32 : decode cX11_tellsAs 32 = .ok (.aload_n 0, 1) := by decide +kernel
theorem dX11_tellsAs_33 : decode cX11_tellsAs 33 = .ok (.iconst 4, 1) := by decide +kernel
theorem dX11_tellsAs_34 : decode cX11_tellsAs 34 = .ok (.iload_n 2, 1) := by decide +kernel
theorem dX11_tellsAs_35 : decode cX11_tellsAs 35 = .ok (.invokevirtual 394, 3) := by decide +kernel
theorem dX11_tellsAs_38 : decode cX11_tellsAs 38 = .ok (.iconst 1, 1) := by decide +kernel
theorem dX11_tellsAs_39 : decode cX11_tellsAs 39 = .ok (.isub, 1) := by decide +kernel
theorem dX11_tellsAs_40 : decode cX11_tellsAs 40 = .ok (.ireturn, 1) := by decide +kernel
theorem dX11_tellsAs_41 : decode cX11_tellsAs 41 = .ok (.aload_n 0, 1) := by decide +kernel
theorem dX11_tellsAs_42 : decode cX11_tellsAs 42 = .ok (.iconst 2, 1) := by decide +kernel
theorem dX11_tellsAs_43 : decode cX11_tellsAs 43 = .ok (.invokevirtual 376, 3) := by decide +kernel
theorem dX11_tellsAs_46 : decode cX11_tellsAs 46 = .ok (.aload_n 0, 1) := by decide +kernel
theorem dX11_tellsAs_47 : decode cX11_tellsAs 47 = .ok (.aload_n 0, 1) := by decide +kernel
theorem dX11_tellsAs_48 : decode cX11_tellsAs 48 = .ok (.getfield 388, 3) := by decide +kernel
theorem dX11_tellsAs_51 : decode cX11_tellsAs 51 = .ok (.iload_n 2, 1) := by decide +kernel
theorem dX11_tellsAs_52 : decode cX11_tellsAs 52 = .ok (.invokevirtual 385, 3) := by decide +kernel
theorem dX11_tellsAs_55 : decode cX11_tellsAs 55 = .ok (.istore_n 3, 1) := by decide +kernel
theorem dX11_tellsAs_56 : decode cX11_tellsAs 56 = .ok (.iload_n 3, 1) := by decide +kernel
theorem dX11_tellsAs_57 : decode cX11_tellsAs 57 = .ok (.aload_n 0, 1) := by decide +kernel
theorem dX11_tellsAs_58 : decode cX11_tellsAs 58 = .ok (.aload_n 0, 1) := by decide +kernel
theorem dX11_tellsAs_59 : decode cX11_tellsAs 59 = .ok (.getfield 388, 3) := by decide +kernel
theorem dX11_tellsAs_62 : decode cX11_tellsAs 62 = .ok (.iconst 1, 1) := by decide +kernel
theorem dX11_tellsAs_63 : decode cX11_tellsAs 63 = .ok (.invokevirtual 391, 3) := by decide +kernel
theorem dX11_tellsAs_66 : decode cX11_tellsAs 66 = .ok (.isub, 1) := by decide +kernel
theorem dX11_tellsAs_67 : decode cX11_tellsAs 67 = .ok (.ireturn, 1) := by decide +kernel
theorem dX11_act_0 : decode cX11_act 0 = .ok (.aload_n 0, 1) := by decide +kernel
theorem dX11_act_1 : decode cX11_act 1 = .ok (.iconst 0, 1) := by decide +kernel
theorem dX11_act_2 : decode cX11_act 2 = .ok (.putfield 373, 3) := by decide +kernel
theorem dX11_act_5 : decode cX11_act 5 = .ok (.aload_n 0, 1) := by decide +kernel
theorem dX11_act_6 : decode cX11_act 6 = .ok (.iload_n 1, 1) := by decide +kernel
theorem dX11_act_7 : decode cX11_act 7 = .ok (.invokevirtual 397, 3) := by decide +kernel
theorem dX11_act_10 : decode cX11_act 10 = .ok (.ifCond .ne 5, 3) := by decide +kernel
theorem dX11_act_13 : decode cX11_act 13 = .ok (.iconst 0, 1) := by decide +kernel
theorem dX11_act_14 : decode cX11_act 14 = .ok (.ireturn, 1) := by decide +kernel
theorem dX11_act_15 : decode cX11_act 15 = .ok (.aload_n 0, 1) := by decide +kernel
theorem dX11_act_16 : decode cX11_act 16 = .ok (.aload_n 0, 1) := by decide +kernel
theorem dX11_act_17 : decode cX11_act 17 = .ok (.getfield 96, 3) := by decide +kernel
theorem dX11_act_20 : decode cX11_act 20 = .ok (.iload_n 1, 1) := by decide +kernel
theorem dX11_act_21 : decode cX11_act 21 = .ok (.iaload, 1) := by decide +kernel
theorem dX11_act_22 : decode cX11_act 22 = .ok (.putfield 388, 3) := by decide +kernel
theorem dX11_act_25 : decode cX11_act 25 = .ok (.aload_n 0, 1) := by decide +kernel
theorem dX11_act_26 : decode cX11_act 26 = .ok (.iload_n 1, 1) := by decide +kernel
theorem dX11_act_27 : decode cX11_act 27 = .ok (.putfield 382, 3) := by decide +kernel
theorem dX11_act_30 : decode cX11_act 30 = .ok (.iload_n 2, 1) := by decide +kernel
theorem dX11_act_31 : decode cX11_act 31 = .ok (.tableswitch 69 0 3 #[29, 39, 49, 59], 29) := by decide +kernel
theorem dX11_act_60 : decode cX11_act 60 = .ok (.aload_n 0, 1) := by decide +kernel
theorem dX11_act_61 : decode cX11_act 61 = .ok (.aload_n 0, 1) := by decide +kernel
theorem dX11_act_62 : decode cX11_act 62 = .ok (.getfield 388, 3) := by decide +kernel
theorem dX11_act_65 : decode cX11_act 65 = .ok (.iload_n 3, 1) := by decide +kernel
theorem dX11_act_66 : decode cX11_act 66 = .ok (.invokevirtual 379, 3) := by decide +kernel
theorem dX11_act_69 : decode cX11_act 69 = .ok (.ireturn, 1) := by decide +kernel
theorem dX11_act_70 : decode cX11_act 70 = .ok (.aload_n 0, 1) := by decide +kernel
theorem dX11_act_71 : decode cX11_act 71 = .ok (.aload_n 0, 1) := by decide +kernel
theorem dX11_act_72 : decode cX11_act 72 = .ok (.getfield 388, 3) := by decide +kernel
theorem dX11_act_75 : decode cX11_act 75 = .ok (.iload_n 3, 1) := by decide +kernel
theorem dX11_act_76 : decode cX11_act 76 = .ok (.invokevirtual 385, 3) := by decide +kernel
theorem dX11_act_79 : decode cX11_act 79 = .ok (.ireturn, 1) := by decide +kernel
theorem dX11_act_80 : decode cX11_act 80 = .ok (.aload_n 0, 1) := by decide +kernel
theorem dX11_act_81 : decode cX11_act 81 = .ok (.aload_n 0, 1) := by decide +kernel
theorem dX11_act_82 : decode cX11_act 82 = .ok (.getfield 388, 3) := by decide +kernel
theorem dX11_act_85 : decode cX11_act 85 = .ok (.iload_n 3, 1) := by decide +kernel
theorem dX11_act_86 : decode cX11_act 86 = .ok (.invokevirtual 391, 3) := by decide +kernel
theorem dX11_act_89 : decode cX11_act 89 = .ok (.ireturn, 1) := by decide +kernel
theorem dX11_act_90 : decode cX11_act 90 = .ok (.aload_n 0, 1) := by decide +kernel
theorem dX11_act_91 : decode cX11_act 91 = .ok (.aload_n 0, 1) := by decide +kernel
theorem dX11_act_92 : decode cX11_act 92 = .ok (.getfield 388, 3) := by decide +kernel
theorem dX11_act_95 : decode cX11_act 95 = .ok (.iload_n 3, 1) := by decide +kernel
theorem dX11_act_96 : decode cX11_act 96 = .ok (.invokevirtual 394, 3) := by decide +kernel
theorem dX11_act_99 : decode cX11_act 99 = .ok (.ireturn, 1) := by decide +kernel
theorem dX11_act_100 : decode cX11_act 100 = .ok (.iconst 0, 1) := by decide +kernel
theorem dX11_act_101 : decode cX11_act 101 = .ok (.ireturn, 1) := by decide +kernel
theorem dX11_trace_0 : decode cX11_trace 0 = .ok (.iload_n 1, 1) := by decide +kernel
theorem dX11_trace_1 : decode cX11_trace 1 = .ok (.ifCond .lt 26, 3) := by decide +kernel
theorem dX11_trace_4 : decode cX11_trace 4 = .ok (.iload_n 1, 1) := by decide +kernel
theorem dX11_trace_5 : decode cX11_trace 5 = .ok (.aload_n 0, 1) := by decide +kernel
theorem dX11_trace_6 : decode cX11_trace 6 = .ok (.getfield 373, 3) := by decide +kernel
theorem dX11_trace_9 : decode cX11_trace 9 = .ok (.if_icmp .ge 18, 3) := by decide +kernel
theorem dX11_trace_12 : decode cX11_trace 12 = .ok (.iload_n 1, 1) := by decide +kernel
theorem dX11_trace_13 : decode cX11_trace 13 = .ok (.bipush 24, 2) := by decide +kernel
theorem dX11_trace_15 : decode cX11_trace 15 = .ok (.if_icmp .ge 12, 3) := by decide +kernel
theorem dX11_trace_18 : decode cX11_trace 18 = .ok (.aload_n 0, 1) := by decide +kernel
theorem dX11_trace_19 : decode cX11_trace 19 = .ok (.getfield 99, 3) := by decide +kernel
theorem dX11_trace_22 : decode cX11_trace 22 = .ok (.iload_n 1, 1) := by decide +kernel
theorem dX11_trace_23 : decode cX11_trace 23 = .ok (.iaload, 1) := by decide +kernel
theorem dX11_trace_24 : decode cX11_trace 24 = .ok (.goto 4, 3) := by decide +kernel
theorem dX11_trace_27 : decode cX11_trace 27 = .ok (.iconst (-1), 1) := by decide +kernel
theorem dX11_trace_28 : decode cX11_trace 28 = .ok (.ireturn, 1) := by decide +kernel
theorem dX11_isShelf_0 : decode cX11_isShelf 0 = .ok (.iload_n 0, 1) := by decide +kernel
theorem dX11_isShelf_1 : decode cX11_isShelf 1 = .ok (.i2l, 1) := by decide +kernel
theorem dX11_isShelf_2 : decode cX11_isShelf 2 = .ok (.lconst 0, 1) := by decide +kernel
theorem dX11_isShelf_3 : decode cX11_isShelf 3 = .ok (.ldc2_w 171, 3) := by decide +kernel
theorem dX11_isShelf_6 : decode cX11_isShelf 6 = .ok (.invokestatic 127, 3) := by decide +kernel
theorem dX11_isShelf_9 : decode cX11_isShelf 9 = .ok (.ireturn, 1) := by decide +kernel
theorem dX11_keep_0 : decode cX11_keep 0 = .ok (.iload_n 1, 1) := by decide +kernel
theorem dX11_keep_1 : decode cX11_keep 1 = .ok (.invokestatic 145, 3) := by decide +kernel
theorem dX11_keep_4 : decode cX11_keep 4 = .ok (.ifCond .eq 16, 3) := by decide +kernel
theorem dX11_keep_7 : decode cX11_keep 7 = .ok (.iload_n 2, 1) := by decide +kernel
theorem dX11_keep_8 : decode cX11_keep 8 = .ok (.iconst (-1), 1) := by decide +kernel
theorem dX11_keep_9 : decode cX11_keep 9 = .ok (.if_icmp .eq 13, 3) := by decide +kernel
theorem dX11_keep_12 : decode cX11_keep 12 = .ok (.aload_n 0, 1) := by decide +kernel
theorem dX11_keep_13 : decode cX11_keep 13 = .ok (.iload_n 2, 1) := by decide +kernel
theorem dX11_keep_14 : decode cX11_keep 14 = .ok (.invokevirtual 397, 3) := by decide +kernel
theorem dX11_keep_17 : decode cX11_keep 17 = .ok (.ifCond .ne 5, 3) := by decide +kernel
theorem dX11_keep_20 : decode cX11_keep 20 = .ok (.iconst (-1), 1) := by decide +kernel
theorem dX11_keep_21 : decode cX11_keep 21 = .ok (.ireturn, 1) := by decide +kernel
theorem dX11_keep_22 : decode cX11_keep 22 = .ok (.aload_n 0, 1) := by decide +kernel
theorem dX11_keep_23 : decode cX11_keep 23 = .ok (.getfield 102, 3) := by decide +kernel
theorem dX11_keep_26 : decode cX11_keep 26 = .ok (.iload_n 1, 1) := by decide +kernel
theorem dX11_keep_27 : decode cX11_keep 27 = .ok (.iload_n 2, 1) := by decide +kernel
theorem dX11_keep_28 : decode cX11_keep 28 = .ok (.iastore, 1) := by decide +kernel
theorem dX11_keep_29 : decode cX11_keep 29 = .ok (.aload_n 0, 1) := by decide +kernel
theorem dX11_keep_30 : decode cX11_keep 30 = .ok (.getfield 105, 3) := by decide +kernel
theorem dX11_keep_33 : decode cX11_keep 33 = .ok (.iload_n 1, 1) := by decide +kernel
theorem dX11_keep_34 : decode cX11_keep 34 = .ok (.iconst 0, 1) := by decide +kernel
theorem dX11_keep_35 : decode cX11_keep 35 = .ok (.iastore, 1) := by decide +kernel
theorem dX11_keep_36 : decode cX11_keep 36 = .ok (.iconst 1, 1) := by decide +kernel
theorem dX11_keep_37 : decode cX11_keep 37 = .ok (.ireturn, 1) := by decide +kernel
theorem dX11_row_0 : decode cX11_row 0 = .ok (.iload_n 1, 1) := by decide +kernel
theorem dX11_row_1 : decode cX11_row 1 = .ok (.invokestatic 145, 3) := by decide +kernel
theorem dX11_row_4 : decode cX11_row 4 = .ok (.ifCond .eq 21, 3) := by decide +kernel
theorem dX11_row_7 : decode cX11_row 7 = .ok (.iload_n 2, 1) := by decide +kernel
theorem dX11_row_8 : decode cX11_row 8 = .ok (.i2l, 1) := by decide +kernel
theorem dX11_row_9 : decode cX11_row 9 = .ok (.lconst 0, 1) := by decide +kernel
theorem dX11_row_10 : decode cX11_row 10 = .ok (.ldc2_w 166, 3) := by decide +kernel
theorem dX11_row_13 : decode cX11_row 13 = .ok (.invokestatic 127, 3) := by decide +kernel
theorem dX11_row_16 : decode cX11_row 16 = .ok (.ifCond .eq 9, 3) := by decide +kernel
theorem dX11_row_19 : decode cX11_row 19 = .ok (.iload_n 3, 1) := by decide +kernel
theorem dX11_row_20 : decode cX11_row 20 = .ok (.bipush 60, 2) := by decide +kernel
theorem dX11_row_22 : decode cX11_row 22 = .ok (.if_icmp .le 5, 3) := by decide +kernel
theorem dX11_row_25 : decode cX11_row 25 = .ok (.iconst (-1), 1) := by decide +kernel
theorem dX11_row_26 : decode cX11_row 26 = .ok (.ireturn, 1) := by decide +kernel
theorem dX11_row_27 : decode cX11_row 27 = .ok (.iload_n 3, 1) := by decide +kernel
theorem dX11_row_28 : decode cX11_row 28 = .ok (.ifCond .ge 6, 3) := by decide +kernel
theorem dX11_row_31 : decode cX11_row 31 = .ok (.bipush (-14), 2) := by decide +kernel
theorem dX11_row_33 : decode cX11_row 33 = .ok (.ireturn, 1) := by decide +kernel
theorem dX11_row_34 : decode cX11_row 34 = .ok (.aload_n 0, 1) := by decide +kernel
theorem dX11_row_35 : decode cX11_row 35 = .ok (.getfield 102, 3) := by decide +kernel
theorem dX11_row_38 : decode cX11_row 38 = .ok (.iload_n 1, 1) := by decide +kernel
theorem dX11_row_39 : decode cX11_row 39 = .ok (.bipush 50, 2) := by decide +kernel
theorem dX11_row_41 : decode cX11_row 41 = .ok (.iload_n 2, 1) := by decide +kernel
theorem dX11_row_42 : decode cX11_row 42 = .ok (.iadd, 1) := by decide +kernel
theorem dX11_row_43 : decode cX11_row 43 = .ok (.iastore, 1) := by decide +kernel
theorem dX11_row_44 : decode cX11_row 44 = .ok (.aload_n 0, 1) := by decide +kernel
theorem dX11_row_45 : decode cX11_row 45 = .ok (.getfield 105, 3) := by decide +kernel
theorem dX11_row_48 : decode cX11_row 48 = .ok (.iload_n 1, 1) := by decide +kernel
theorem dX11_row_49 : decode cX11_row 49 = .ok (.iload_n 3, 1) := by decide +kernel
theorem dX11_row_50 : decode cX11_row 50 = .ok (.iastore, 1) := by decide +kernel
theorem dX11_row_51 : decode cX11_row 51 = .ok (.bipush 60, 2) := by decide +kernel
theorem dX11_row_53 : decode cX11_row 53 = .ok (.iload_n 1, 1) := by decide +kernel
theorem dX11_row_54 : decode cX11_row 54 = .ok (.imul, 1) := by decide +kernel
theorem dX11_row_55 : decode cX11_row 55 = .ok (.istore 4, 2) := by decide +kernel
theorem dX11_row_57 : decode cX11_row 57 = .ok (.iload 4, 2) := by decide +kernel
theorem dX11_row_59 : decode cX11_row 59 = .ok (.bipush 60, 2) := by decide +kernel
theorem dX11_row_61 : decode cX11_row 61 = .ok (.iload_n 1, 1) := by decide +kernel
theorem dX11_row_62 : decode cX11_row 62 = .ok (.imul, 1) := by decide +kernel
theorem dX11_row_63 : decode cX11_row 63 = .ok (.bipush 60, 2) := by decide +kernel
theorem dX11_row_65 : decode cX11_row 65 = .ok (.iadd, 1) := by decide +kernel
theorem dX11_row_66 : decode cX11_row 66 = .ok (.if_icmp .ge 17, 3) := by decide +kernel
theorem dX11_row_69 : decode cX11_row 69 = .ok (.aload_n 0, 1) := by decide +kernel
theorem dX11_row_70 : decode cX11_row 70 = .ok (.getfield 108, 3) := by decide +kernel
theorem dX11_row_73 : decode cX11_row 73 = .ok (.iload 4, 2) := by decide +kernel
theorem dX11_row_75 : decode cX11_row 75 = .ok (.lconst 0, 1) := by decide +kernel
theorem dX11_row_76 : decode cX11_row 76 = .ok (.lastore, 1) := by decide +kernel
theorem dX11_row_77 : decode cX11_row 77 = .ok (.iinc 4 1, 3) := by decide +kernel
theorem dX11_row_80 : decode cX11_row 80 = .ok (.goto (-23), 3) := by decide +kernel
theorem dX11_row_83 : decode cX11_row 83 = .ok (.iconst 1, 1) := by decide +kernel
theorem dX11_row_84 : decode cX11_row 84 = .ok (.ireturn, 1) := by decide +kernel
theorem dX11_refusal_0 : decode cX11_refusal 0 = .ok (.iload_n 1, 1) := by decide +kernel
theorem dX11_refusal_1 : decode cX11_refusal 1 = .ok (.invokestatic 145, 3) := by decide +kernel
theorem dX11_refusal_4 : decode cX11_refusal 4 = .ok (.ifCond .ne 5, 3) := by decide +kernel
theorem dX11_refusal_7 : decode cX11_refusal 7 = .ok (.iconst (-1), 1) := by decide +kernel
theorem dX11_refusal_8 : decode cX11_refusal 8 = .ok (.ireturn, 1) := by decide +kernel
theorem dX11_refusal_9 : decode cX11_refusal 9 = .ok (.aload_n 0, 1) := by decide +kernel
theorem dX11_refusal_10 : decode cX11_refusal 10 = .ok (.getfield 102, 3) := by decide +kernel
theorem dX11_refusal_13 : decode cX11_refusal 13 = .ok (.iload_n 1, 1) := by decide +kernel
theorem dX11_refusal_14 : decode cX11_refusal 14 = .ok (.iaload, 1) := by decide +kernel
theorem dX11_refusal_15 : decode cX11_refusal 15 = .ok (.ifCond .ge 6, 3) := by decide +kernel
theorem dX11_refusal_18 : decode cX11_refusal 18 = .ok (.bipush (-11), 2) := by decide +kernel
theorem dX11_refusal_20 : decode cX11_refusal 20 = .ok (.ireturn, 1) := by decide +kernel
theorem dX11_refusal_21 : decode cX11_refusal 21 = .ok (.aload_n 0, 1) := by decide +kernel
theorem dX11_refusal_22 : decode cX11_refusal 22 = .ok (.getfield 102, 3) := by decide +kernel
theorem dX11_refusal_25 : decode cX11_refusal 25 = .ok (.iload_n 1, 1) := by decide +kernel
theorem dX11_refusal_26 : decode cX11_refusal 26 = .ok (.iaload, 1) := by decide +kernel
theorem dX11_refusal_27 : decode cX11_refusal 27 = .ok (.bipush 50, 2) := by decide +kernel
theorem dX11_refusal_29 : decode cX11_refusal 29 = .ok (.if_icmp .ge 6, 3) := by decide +kernel
theorem dX11_refusal_32 : decode cX11_refusal 32 = .ok (.bipush (-12), 2) := by decide +kernel
theorem dX11_refusal_34 : decode cX11_refusal 34 = .ok (.ireturn, 1) := by decide +kernel
theorem dX11_refusal_35 : decode cX11_refusal 35 = .ok (.iload_n 2, 1) := by decide +kernel
theorem dX11_refusal_36 : decode cX11_refusal 36 = .ok (.ifCond .lt 17, 3) := by decide +kernel
theorem dX11_refusal_39 : decode cX11_refusal 39 = .ok (.iload_n 2, 1) := by decide +kernel
theorem dX11_refusal_40 : decode cX11_refusal 40 = .ok (.aload_n 0, 1) := by decide +kernel
theorem dX11_refusal_41 : decode cX11_refusal 41 = .ok (.getfield 105, 3) := by decide +kernel
theorem dX11_refusal_44 : decode cX11_refusal 44 = .ok (.iload_n 1, 1) := by decide +kernel
theorem dX11_refusal_45 : decode cX11_refusal 45 = .ok (.iaload, 1) := by decide +kernel
theorem dX11_refusal_46 : decode cX11_refusal 46 = .ok (.if_icmp .ge 7, 3) := by decide +kernel
theorem dX11_refusal_49 : decode cX11_refusal 49 = .ok (.iconst 0, 1) := by decide +kernel
theorem dX11_refusal_50 : decode cX11_refusal 50 = .ok (.goto 5, 3) := by decide +kernel
theorem dX11_refusal_53 : decode cX11_refusal 53 = .ok (.bipush (-13), 2) := by decide +kernel
theorem dX11_refusal_55 : decode cX11_refusal 55 = .ok (.ireturn, 1) := by decide +kernel
theorem dX11_asSort_0 : decode cX11_asSort 0 = .ok (.iload_n 0, 1) := by decide +kernel
theorem dX11_asSort_1 : decode cX11_asSort 1 = .ok (.ifCond .ne 10, 3) := by decide +kernel
theorem dX11_asSort_4 : decode cX11_asSort 4 = .ok (.lload_n 1, 1) := by decide +kernel
theorem dX11_asSort_5 : decode cX11_asSort 5 = .ok (.l2i, 1) := by decide +kernel
theorem dX11_asSort_6 : decode cX11_asSort 6 = .ok (.i2b, 1) := by decide +kernel
theorem dX11_asSort_7 : decode cX11_asSort 7 = .ok (.i2l, 1) := by decide +kernel
theorem dX11_asSort_8 : decode cX11_asSort 8 = .ok (.goto 46, 3) := by decide +kernel
theorem dX11_asSort_11 : decode cX11_asSort 11 = .ok (.iload_n 0, 1) := by decide +kernel
theorem dX11_asSort_12 : decode cX11_asSort 12 = .ok (.iconst 1, 1) := by decide +kernel
theorem dX11_asSort_13 : decode cX11_asSort 13 = .ok (.if_icmp .ne 10, 3) := by decide +kernel
theorem dX11_asSort_16 : decode cX11_asSort 16 = .ok (.lload_n 1, 1) := by decide +kernel
theorem dX11_asSort_17 : decode cX11_asSort 17 = .ok (.l2i, 1) := by decide +kernel
theorem dX11_asSort_18 : decode cX11_asSort 18 = .ok (.i2s, 1) := by decide +kernel
theorem dX11_asSort_19 : decode cX11_asSort 19 = .ok (.i2l, 1) := by decide +kernel
theorem dX11_asSort_20 : decode cX11_asSort 20 = .ok (.goto 34, 3) := by decide +kernel
theorem dX11_asSort_23 : decode cX11_asSort 23 = .ok (.iload_n 0, 1) := by decide +kernel
theorem dX11_asSort_24 : decode cX11_asSort 24 = .ok (.iconst 2, 1) := by decide +kernel
theorem dX11_asSort_25 : decode cX11_asSort 25 = .ok (.if_icmp .ne 9, 3) := by decide +kernel
theorem dX11_asSort_28 : decode cX11_asSort 28 = .ok (.lload_n 1, 1) := by decide +kernel
theorem dX11_asSort_29 : decode cX11_asSort 29 = .ok (.l2i, 1) := by decide +kernel
theorem dX11_asSort_30 : decode cX11_asSort 30 = .ok (.i2l, 1) := by decide +kernel
theorem dX11_asSort_31 : decode cX11_asSort 31 = .ok (.goto 23, 3) := by decide +kernel
theorem dX11_asSort_34 : decode cX11_asSort 34 = .ok (.iload_n 0, 1) := by decide +kernel
theorem dX11_asSort_35 : decode cX11_asSort 35 = .ok (.iconst 4, 1) := by decide +kernel
theorem dX11_asSort_36 : decode cX11_asSort 36 = .ok (.if_icmp .ne 17, 3) := by decide +kernel
theorem dX11_asSort_39 : decode cX11_asSort 39 = .ok (.lload_n 1, 1) := by decide +kernel
theorem dX11_asSort_40 : decode cX11_asSort 40 = .ok (.lconst 0, 1) := by decide +kernel
theorem dX11_asSort_41 : decode cX11_asSort 41 = .ok (.lcmp, 1) := by decide +kernel
theorem dX11_asSort_42 : decode cX11_asSort 42 = .ok (.ifCond .eq 7, 3) := by decide +kernel
theorem dX11_asSort_45 : decode cX11_asSort 45 = .ok (.lconst 1, 1) := by decide +kernel
theorem dX11_asSort_46 : decode cX11_asSort 46 = .ok (.goto 8, 3) := by decide +kernel
theorem dX11_asSort_49 : decode cX11_asSort 49 = .ok (.lconst 0, 1) := by decide +kernel
theorem dX11_asSort_50 : decode cX11_asSort 50 = .ok (.goto 4, 3) := by decide +kernel
theorem dX11_asSort_53 : decode cX11_asSort 53 = .ok (.lload_n 1, 1) := by decide +kernel
theorem dX11_asSort_54 : decode cX11_asSort 54 = .ok (.lreturn, 1) := by decide +kernel
theorem dX11_put_0 : decode cX11_put 0 = .ok (.aload_n 0, 1) := by decide +kernel
theorem dX11_put_1 : decode cX11_put 1 = .ok (.iload_n 1, 1) := by decide +kernel
theorem dX11_put_2 : decode cX11_put 2 = .ok (.iload_n 2, 1) := by decide +kernel
theorem dX11_put_3 : decode cX11_put 3 = .ok (.invokevirtual 400, 3) := by decide +kernel
theorem dX11_put_6 : decode cX11_put 6 = .ok (.istore 5, 2) := by decide +kernel
theorem dX11_put_8 : decode cX11_put 8 = .ok (.iload 5, 2) := by decide +kernel
theorem dX11_put_10 : decode cX11_put 10 = .ok (.ifCond .ne 27, 3) := by decide +kernel
theorem dX11_put_13 : decode cX11_put 13 = .ok (.aload_n 0, 1) := by decide +kernel
theorem dX11_put_14 : decode cX11_put 14 = .ok (.getfield 108, 3) := by decide +kernel
theorem dX11_put_17 : decode cX11_put 17 = .ok (.bipush 60, 2) := by decide +kernel
theorem dX11_put_19 : decode cX11_put 19 = .ok (.iload_n 1, 1) := by decide +kernel
theorem dX11_put_20 : decode cX11_put 20 = .ok (.imul, 1) := by decide +kernel
theorem dX11_put_21 : decode cX11_put 21 = .ok (.iload_n 2, 1) := by decide +kernel
theorem dX11_put_22 : decode cX11_put 22 = .ok (.iadd, 1) := by decide +kernel
theorem dX11_put_23 : decode cX11_put 23 = .ok (.aload_n 0, 1) := by decide +kernel
theorem dX11_put_24 : decode cX11_put 24 = .ok (.getfield 102, 3) := by decide +kernel
theorem dX11_put_27 : decode cX11_put 27 = .ok (.iload_n 1, 1) := by decide +kernel
theorem dX11_put_28 : decode cX11_put 28 = .ok (.iaload, 1) := by decide +kernel
theorem dX11_put_29 : decode cX11_put 29 = .ok (.bipush 50, 2) := by decide +kernel
theorem dX11_put_31 : decode cX11_put 31 = .ok (.isub, 1) := by decide +kernel
theorem dX11_put_32 : decode cX11_put 32 = .ok (.lload_n 3, 1) := by decide +kernel
theorem dX11_put_33 : decode cX11_put 33 = .ok (.invokestatic 403, 3) := by decide +kernel
theorem dX11_put_36 : decode cX11_put 36 = .ok (.lastore, 1) := by decide +kernel
theorem dX11_put_37 : decode cX11_put 37 = .ok (.iload 5, 2) := by decide +kernel
theorem dX11_put_39 : decode cX11_put 39 = .ok (.ifCond .ne 7, 3) := by decide +kernel
theorem dX11_put_42 : decode cX11_put 42 = .ok (.iconst 1, 1) := by decide +kernel
theorem dX11_put_43 : decode cX11_put 43 = .ok (.goto 5, 3) := by decide +kernel
theorem dX11_put_46 : decode cX11_put 46 = .ok (.iload 5, 2) := by decide +kernel
theorem dX11_put_48 : decode cX11_put 48 = .ok (.ireturn, 1) := by decide +kernel
theorem dX11_element_0 : decode cX11_element 0 = .ok (.aload_n 0, 1) := by decide +kernel
theorem dX11_element_1 : decode cX11_element 1 = .ok (.iload_n 1, 1) := by decide +kernel
theorem dX11_element_2 : decode cX11_element 2 = .ok (.iload_n 2, 1) := by decide +kernel
theorem dX11_element_3 : decode cX11_element 3 = .ok (.invokevirtual 400, 3) := by decide +kernel
theorem dX11_element_6 : decode cX11_element 6 = .ok (.ifCond .eq 9, 3) := by decide +kernel
theorem dX11_element_9 : decode cX11_element 9 = .ok (.ldc2_w 293, 3) := by decide +kernel
theorem dX11_element_12 : decode cX11_element 12 = .ok (.goto 14, 3) := by decide +kernel
theorem dX11_element_15 : decode cX11_element 15 = .ok (.aload_n 0, 1) := by decide +kernel
theorem dX11_element_16 : decode cX11_element 16 = .ok (.getfield 108, 3) := by decide +kernel
theorem dX11_element_19 : decode cX11_element 19 = .ok (.bipush 60, 2) := by decide +kernel
theorem dX11_element_21 : decode cX11_element 21 = .ok (.iload_n 1, 1) := by decide +kernel
theorem dX11_element_22 : decode cX11_element 22 = .ok (.imul, 1) := by decide +kernel
theorem dX11_element_23 : decode cX11_element 23 = .ok (.iload_n 2, 1) := by decide +kernel
theorem dX11_element_24 : decode cX11_element 24 = .ok (.iadd, 1) := by decide +kernel
theorem dX11_element_25 : decode cX11_element 25 = .ok (.laload, 1) := by decide +kernel
theorem dX11_element_26 : decode cX11_element 26 = .ok (.lreturn, 1) := by decide +kernel
theorem dX11_shift_0 : decode cX11_shift 0 = .ok (.iload_n 1, 1) := by decide +kernel
theorem dX11_shift_1 : decode cX11_shift 1 = .ok (.invokestatic 145, 3) := by decide +kernel
theorem dX11_shift_4 : decode cX11_shift 4 = .ok (.ifCond .eq 10, 3) := by decide +kernel
theorem dX11_shift_7 : decode cX11_shift 7 = .ok (.iload_n 3, 1) := by decide +kernel
theorem dX11_shift_8 : decode cX11_shift 8 = .ok (.invokestatic 145, 3) := by decide +kernel
theorem dX11_shift_11 : decode cX11_shift 11 = .ok (.ifCond .ne 5, 3) := by decide +kernel
theorem dX11_shift_14 : decode cX11_shift 14 = .ok (.iconst (-1), 1) := by decide +kernel
theorem dX11_shift_15 : decode cX11_shift 15 = .ok (.ireturn, 1) := by decide +kernel
theorem dX11_shift_16 : decode cX11_shift 16 = .ok (.aload_n 0, 1) := by decide +kernel
theorem dX11_shift_17 : decode cX11_shift 17 = .ok (.getfield 102, 3) := by decide +kernel
theorem dX11_shift_20 : decode cX11_shift 20 = .ok (.iload_n 1, 1) := by decide +kernel
theorem dX11_shift_21 : decode cX11_shift 21 = .ok (.iaload, 1) := by decide +kernel
theorem dX11_shift_22 : decode cX11_shift 22 = .ok (.ifCond .lt 12, 3) := by decide +kernel
theorem dX11_shift_25 : decode cX11_shift 25 = .ok (.aload_n 0, 1) := by decide +kernel
theorem dX11_shift_26 : decode cX11_shift 26 = .ok (.getfield 102, 3) := by decide +kernel
theorem dX11_shift_29 : decode cX11_shift 29 = .ok (.iload_n 3, 1) := by decide +kernel
theorem dX11_shift_30 : decode cX11_shift 30 = .ok (.iaload, 1) := by decide +kernel
theorem dX11_shift_31 : decode cX11_shift 31 = .ok (.ifCond .ge 6, 3) := by decide +kernel
theorem dX11_shift_34 : decode cX11_shift 34 = .ok (.bipush (-11), 2) := by decide +kernel
theorem dX11_shift_36 : decode cX11_shift 36 = .ok (.ireturn, 1) := by decide +kernel
theorem dX11_shift_37 : decode cX11_shift 37 = .ok (.aload_n 0, 1) := by decide +kernel
theorem dX11_shift_38 : decode cX11_shift 38 = .ok (.getfield 102, 3) := by decide +kernel
theorem dX11_shift_41 : decode cX11_shift 41 = .ok (.iload_n 1, 1) := by decide +kernel
theorem dX11_shift_42 : decode cX11_shift 42 = .ok (.iaload, 1) := by decide +kernel
theorem dX11_shift_43 : decode cX11_shift 43 = .ok (.bipush 50, 2) := by decide +kernel
theorem dX11_shift_45 : decode cX11_shift 45 = .ok (.if_icmp .lt 18, 3) := by decide +kernel
theorem dX11_shift_48 : decode cX11_shift 48 = .ok (.aload_n 0, 1) := by decide +kernel
theorem dX11_shift_49 : decode cX11_shift 49 = .ok (.getfield 102, 3) := by decide +kernel
theorem dX11_shift_52 : decode cX11_shift 52 = .ok (.iload_n 1, 1) := by decide +kernel
theorem dX11_shift_53 : decode cX11_shift 53 = .ok (.iaload, 1) := by decide +kernel
theorem dX11_shift_54 : decode cX11_shift 54 = .ok (.aload_n 0, 1) := by decide +kernel
theorem dX11_shift_55 : decode cX11_shift 55 = .ok (.getfield 102, 3) := by decide +kernel
theorem dX11_shift_58 : decode cX11_shift 58 = .ok (.iload_n 3, 1) := by decide +kernel
theorem dX11_shift_59 : decode cX11_shift 59 = .ok (.iaload, 1) := by decide +kernel
theorem dX11_shift_60 : decode cX11_shift 60 = .ok (.if_icmp .eq 6, 3) := by decide +kernel
theorem dX11_shift_63 : decode cX11_shift 63 = .ok (.bipush (-12), 2) := by decide +kernel
theorem dX11_shift_65 : decode cX11_shift 65 = .ok (.ireturn, 1) := by decide +kernel
theorem dX11_shift_66 : decode cX11_shift 66 = .ok (.iload 5, 2) := by decide +kernel
theorem dX11_shift_68 : decode cX11_shift 68 = .ok (.ifCond .lt 39, 3) := by decide +kernel
theorem dX11_shift_71 : decode cX11_shift 71 = .ok (.iload_n 2, 1) := by decide +kernel
theorem dX11_shift_72 : decode cX11_shift 72 = .ok (.ifCond .lt 35, 3) := by decide +kernel
theorem dX11_shift_75 : decode cX11_shift 75 = .ok (.iload 4, 2) := by decide +kernel
theorem dX11_shift_77 : decode cX11_shift 77 = .ok (.ifCond .lt 30, 3) := by decide +kernel
theorem dX11_shift_80 : decode cX11_shift 80 = .ok (.iload_n 2, 1) := by decide +kernel
theorem dX11_shift_81 : decode cX11_shift 81 = .ok (.aload_n 0, 1) := by decide +kernel
theorem dX11_shift_82 : decode cX11_shift 82 = .ok (.getfield 105, 3) := by decide +kernel
theorem dX11_shift_85 : decode cX11_shift 85 = .ok (.iload_n 1, 1) := by decide +kernel
theorem dX11_shift_86 : decode cX11_shift 86 = .ok (.iaload, 1) := by decide +kernel
theorem dX11_shift_87 : decode cX11_shift 87 = .ok (.iload 5, 2) := by decide +kernel
theorem dX11_shift_89 : decode cX11_shift 89 = .ok (.isub, 1) := by decide +kernel
theorem dX11_shift_90 : decode cX11_shift 90 = .ok (.if_icmp .gt 17, 3) := by decide +kernel
theorem dX11_shift_93 : decode cX11_shift 93 = .ok (.iload 4, 2) := by decide +kernel
theorem dX11_shift_95 : decode cX11_shift 95 = .ok (.aload_n 0, 1) := by decide +kernel
theorem dX11_shift_96 : decode cX11_shift 96 = .ok (.getfield 105, 3) := by decide +kernel
theorem dX11_shift_99 : decode cX11_shift 99 = .ok (.iload_n 3, 1) := by decide +kernel
theorem dX11_shift_100 : decode cX11_shift 100 = .ok (.iaload, 1) := by decide +kernel
theorem dX11_shift_101 : decode cX11_shift 101 = .ok (.iload 5, 2) := by decide +kernel
theorem dX11_shift_103 : decode cX11_shift 103 = .ok (.isub, 1) := by decide +kernel
theorem dX11_shift_104 : decode cX11_shift 104 = .ok (.if_icmp .le 6, 3) := by decide +kernel
theorem dX11_shift_107 : decode cX11_shift 107 = .ok (.bipush (-13), 2) := by decide +kernel
theorem dX11_shift_109 : decode cX11_shift 109 = .ok (.ireturn, 1) := by decide +kernel
theorem dX11_shift_110 : decode cX11_shift 110 = .ok (.iconst 0, 1) := by decide +kernel
theorem dX11_shift_111 : decode cX11_shift 111 = .ok (.istore 6, 2) := by decide +kernel
theorem dX11_shift_113 : decode cX11_shift 113 = .ok (.iload 6, 2) := by decide +kernel
theorem dX11_shift_115 : decode cX11_shift 115 = .ok (.iload 5, 2) := by decide +kernel
theorem dX11_shift_117 : decode cX11_shift 117 = .ok (.if_icmp .ge 30, 3) := by decide +kernel
theorem dX11_shift_120 : decode cX11_shift 120 = .ok (.aload_n 0, 1) := by decide +kernel
theorem dX11_shift_121 : decode cX11_shift 121 = .ok (.getfield 111, 3) := by decide +kernel
theorem dX11_shift_124 : decode cX11_shift 124 = .ok (.iload 6, 2) := by decide +kernel
theorem dX11_shift_126 : decode cX11_shift 126 = .ok (.aload_n 0, 1) := by decide +kernel
theorem dX11_shift_127 : decode cX11_shift 127 = .ok (.getfield 108, 3) := by decide +kernel
theorem dX11_shift_130 : decode cX11_shift 130 = .ok (.bipush 60, 2) := by decide +kernel
theorem dX11_shift_132 : decode cX11_shift 132 = .ok (.iload_n 1, 1) := by decide +kernel
theorem dX11_shift_133 : decode cX11_shift 133 = .ok (.imul, 1) := by decide +kernel
theorem dX11_shift_134 : decode cX11_shift 134 = .ok (.iload_n 2, 1) := by decide +kernel
theorem dX11_shift_135 : decode cX11_shift 135 = .ok (.iadd, 1) := by decide +kernel
theorem dX11_shift_136 : decode cX11_shift 136 = .ok (.iload 6, 2) := by decide +kernel
theorem dX11_shift_138 : decode cX11_shift 138 = .ok (.iadd, 1) := by decide +kernel
theorem dX11_shift_139 : decode cX11_shift 139 = .ok (.laload, 1) := by decide +kernel
theorem dX11_shift_140 : decode cX11_shift 140 = .ok (.lastore, 1) := by decide +kernel
theorem dX11_shift_141 : decode cX11_shift 141 = .ok (.iinc 6 1, 3) := by decide +kernel
theorem dX11_shift_144 : decode cX11_shift 144 = .ok (.goto (-31), 3) := by decide +kernel
theorem dX11_shift_147 : decode cX11_shift 147 = .ok (.iconst 0, 1) := by decide +kernel
theorem dX11_shift_148 : decode cX11_shift 148 = .ok (.istore 6, 2) := by decide +kernel
theorem dX11_shift_150 : decode cX11_shift 150 = .ok (.iload 6, 2) := by decide +kernel
theorem dX11_shift_152 : decode cX11_shift 152 = .ok (.iload 5, 2) := by decide +kernel
theorem dX11_shift_154 : decode cX11_shift 154 = .ok (.if_icmp .ge 31, 3) := by decide +kernel
theorem dX11_shift_157 : decode cX11_shift 157 = .ok (.aload_n 0, 1) := by decide +kernel
theorem dX11_shift_158 : decode cX11_shift 158 = .ok (.getfield 108, 3) := by decide +kernel
theorem dX11_shift_161 : decode cX11_shift 161 = .ok (.bipush 60, 2) := by decide +kernel
theorem dX11_shift_163 : decode cX11_shift 163 = .ok (.iload_n 3, 1) := by decide +kernel
theorem dX11_shift_164 : decode cX11_shift 164 = .ok (.imul, 1) := by decide +kernel
theorem dX11_shift_165 : decode cX11_shift 165 = .ok (.iload 4, 2) := by decide +kernel
theorem dX11_shift_167 : decode cX11_shift 167 = .ok (.iadd, 1) := by decide +kernel
theorem dX11_shift_168 : decode cX11_shift 168 = .ok (.iload 6, 2) := by decide +kernel
theorem dX11_shift_170 : decode cX11_shift 170 = .ok (.iadd, 1) := by decide +kernel
theorem dX11_shift_171 : decode cX11_shift 171 = .ok (.aload_n 0, 1) := by decide +kernel
theorem dX11_shift_172 : decode cX11_shift 172 = .ok (.getfield 111, 3) := by decide +kernel
theorem dX11_shift_175 : decode cX11_shift 175 = .ok (.iload 6, 2) := by decide +kernel
theorem dX11_shift_177 : decode cX11_shift 177 = .ok (.laload, 1) := by decide +kernel
theorem dX11_shift_178 : decode cX11_shift 178 = .ok (.lastore, 1) := by decide +kernel
theorem dX11_shift_179 : decode cX11_shift 179 = .ok (.iinc 6 1, 3) := by decide +kernel
theorem dX11_shift_182 : decode cX11_shift 182 = .ok (.goto (-32), 3) := by decide +kernel
theorem dX11_shift_185 : decode cX11_shift 185 = .ok (.iload 5, 2) := by decide +kernel
theorem dX11_shift_187 : decode cX11_shift 187 = .ok (.ireturn, 1) := by decide +kernel
theorem dX11_taken_0 : decode cX11_taken 0 = .ok (.iload_n 1, 1) := by decide +kernel
theorem dX11_taken_1 : decode cX11_taken 1 = .ok (.invokestatic 145, 3) := by decide +kernel
theorem dX11_taken_4 : decode cX11_taken 4 = .ok (.ifCond .eq 15, 3) := by decide +kernel
theorem dX11_taken_7 : decode cX11_taken 7 = .ok (.iload_n 2, 1) := by decide +kernel
theorem dX11_taken_8 : decode cX11_taken 8 = .ok (.i2l, 1) := by decide +kernel
theorem dX11_taken_9 : decode cX11_taken 9 = .ok (.lconst 0, 1) := by decide +kernel
theorem dX11_taken_10 : decode cX11_taken 10 = .ok (.ldc2_w 371, 3) := by decide +kernel
theorem dX11_taken_13 : decode cX11_taken 13 = .ok (.invokestatic 127, 3) := by decide +kernel
theorem dX11_taken_16 : decode cX11_taken 16 = .ok (.ifCond .ne 5, 3) := by decide +kernel
theorem dX11_taken_19 : decode cX11_taken 19 = .ok (.iconst (-1), 1) := by decide +kernel
theorem dX11_taken_20 : decode cX11_taken 20 = .ok (.ireturn, 1) := by decide +kernel
theorem dX11_taken_21 : decode cX11_taken 21 = .ok (.aload_n 0, 1) := by decide +kernel
theorem dX11_taken_22 : decode cX11_taken 22 = .ok (.getfield 102, 3) := by decide +kernel
theorem dX11_taken_25 : decode cX11_taken 25 = .ok (.iload_n 1, 1) := by decide +kernel
theorem dX11_taken_26 : decode cX11_taken 26 = .ok (.iaload, 1) := by decide +kernel
theorem dX11_taken_27 : decode cX11_taken 27 = .ok (.ifCond .ge 6, 3) := by decide +kernel
theorem dX11_taken_30 : decode cX11_taken 30 = .ok (.bipush (-11), 2) := by decide +kernel
theorem dX11_taken_32 : decode cX11_taken 32 = .ok (.ireturn, 1) := by decide +kernel
theorem dX11_taken_33 : decode cX11_taken 33 = .ok (.aload_n 0, 1) := by decide +kernel
theorem dX11_taken_34 : decode cX11_taken 34 = .ok (.getfield 102, 3) := by decide +kernel
theorem dX11_taken_37 : decode cX11_taken 37 = .ok (.iload_n 1, 1) := by decide +kernel
theorem dX11_taken_38 : decode cX11_taken 38 = .ok (.iaload, 1) := by decide +kernel
theorem dX11_taken_39 : decode cX11_taken 39 = .ok (.bipush 50, 2) := by decide +kernel
theorem dX11_taken_41 : decode cX11_taken 41 = .ok (.if_icmp .lt 6, 3) := by decide +kernel
theorem dX11_taken_44 : decode cX11_taken 44 = .ok (.bipush (-12), 2) := by decide +kernel
theorem dX11_taken_46 : decode cX11_taken 46 = .ok (.ireturn, 1) := by decide +kernel
theorem dX11_taken_47 : decode cX11_taken 47 = .ok (.aload_n 0, 1) := by decide +kernel
theorem dX11_taken_48 : decode cX11_taken 48 = .ok (.aload_n 0, 1) := by decide +kernel
theorem dX11_taken_49 : decode cX11_taken 49 = .ok (.getfield 102, 3) := by decide +kernel
theorem dX11_taken_52 : decode cX11_taken 52 = .ok (.iload_n 1, 1) := by decide +kernel
theorem dX11_taken_53 : decode cX11_taken 53 = .ok (.iaload, 1) := by decide +kernel
theorem dX11_taken_54 : decode cX11_taken 54 = .ok (.invokevirtual 407, 3) := by decide +kernel
theorem dX11_taken_57 : decode cX11_taken 57 = .ok (.istore_n 3, 1) := by decide +kernel
theorem dX11_taken_58 : decode cX11_taken 58 = .ok (.iload_n 3, 1) := by decide +kernel
theorem dX11_taken_59 : decode cX11_taken 59 = .ok (.iload_n 2, 1) := by decide +kernel
theorem dX11_taken_60 : decode cX11_taken 60 = .ok (.if_icmp .eq 15, 3) := by decide +kernel
theorem dX11_taken_63 : decode cX11_taken 63 = .ok (.iload_n 3, 1) := by decide +kernel
theorem dX11_taken_64 : decode cX11_taken 64 = .ok (.ifCond .le 11, 3) := by decide +kernel
theorem dX11_taken_67 : decode cX11_taken 67 = .ok (.iload_n 3, 1) := by decide +kernel
theorem dX11_taken_68 : decode cX11_taken 68 = .ok (.invokestatic 410, 3) := by decide +kernel
theorem dX11_taken_71 : decode cX11_taken 71 = .ok (.istore_n 3, 1) := by decide +kernel
theorem dX11_taken_72 : decode cX11_taken 72 = .ok (.goto (-14), 3) := by decide +kernel
theorem dX11_taken_75 : decode cX11_taken 75 = .ok (.iload_n 3, 1) := by decide +kernel
theorem dX11_taken_76 : decode cX11_taken 76 = .ok (.iload_n 2, 1) := by decide +kernel
theorem dX11_taken_77 : decode cX11_taken 77 = .ok (.if_icmp .ne 16, 3) := by decide +kernel
theorem dX11_taken_80 : decode cX11_taken 80 = .ok (.aload_n 0, 1) := by decide +kernel
theorem dX11_taken_81 : decode cX11_taken 81 = .ok (.aload_n 0, 1) := by decide +kernel
theorem dX11_taken_82 : decode cX11_taken 82 = .ok (.getfield 102, 3) := by decide +kernel
theorem dX11_taken_85 : decode cX11_taken 85 = .ok (.iload_n 1, 1) := by decide +kernel
theorem dX11_taken_86 : decode cX11_taken 86 = .ok (.iaload, 1) := by decide +kernel
theorem dX11_taken_87 : decode cX11_taken 87 = .ok (.invokevirtual 407, 3) := by decide +kernel
theorem dX11_taken_90 : decode cX11_taken 90 = .ok (.goto 5, 3) := by decide +kernel
theorem dX11_taken_93 : decode cX11_taken 93 = .ok (.bipush (-12), 2) := by decide +kernel
theorem dX11_taken_95 : decode cX11_taken 95 = .ok (.ireturn, 1) := by decide +kernel
theorem dX11_count_0 : decode cX11_count 0 = .ok (.iload_n 1, 1) := by decide +kernel
theorem dX11_count_1 : decode cX11_count 1 = .ok (.tableswitch 87 0 7 #[47, 52, 57, 62, 67, 72, 77, 82], 47) := by decide +kernel
theorem dX11_count_48 : decode cX11_count 48 = .ok (.aload_n 0, 1) := by decide +kernel
theorem dX11_count_49 : decode cX11_count 49 = .ok (.getfield 124, 3) := by decide +kernel
theorem dX11_count_52 : decode cX11_count 52 = .ok (.ireturn, 1) := by decide +kernel
theorem dX11_count_53 : decode cX11_count 53 = .ok (.aload_n 0, 1) := by decide +kernel
theorem dX11_count_54 : decode cX11_count 54 = .ok (.getfield 131, 3) := by decide +kernel
theorem dX11_count_57 : decode cX11_count 57 = .ok (.ireturn, 1) := by decide +kernel
theorem dX11_count_58 : decode cX11_count 58 = .ok (.aload_n 0, 1) := by decide +kernel
theorem dX11_count_59 : decode cX11_count 59 = .ok (.getfield 341, 3) := by decide +kernel
theorem dX11_count_62 : decode cX11_count 62 = .ok (.ireturn, 1) := by decide +kernel
theorem dX11_count_63 : decode cX11_count 63 = .ok (.aload_n 0, 1) := by decide +kernel
theorem dX11_count_64 : decode cX11_count 64 = .ok (.getfield 338, 3) := by decide +kernel
theorem dX11_count_67 : decode cX11_count 67 = .ok (.ireturn, 1) := by decide +kernel
theorem dX11_count_68 : decode cX11_count 68 = .ok (.aload_n 0, 1) := by decide +kernel
theorem dX11_count_69 : decode cX11_count 69 = .ok (.getfield 190, 3) := by decide +kernel
theorem dX11_count_72 : decode cX11_count 72 = .ok (.ireturn, 1) := by decide +kernel
theorem dX11_count_73 : decode cX11_count 73 = .ok (.aload_n 0, 1) := by decide +kernel
theorem dX11_count_74 : decode cX11_count 74 = .ok (.getfield 118, 3) := by decide +kernel
theorem dX11_count_77 : decode cX11_count 77 = .ok (.ireturn, 1) := by decide +kernel
theorem dX11_count_78 : decode cX11_count 78 = .ok (.aload_n 0, 1) := by decide +kernel
theorem dX11_count_79 : decode cX11_count 79 = .ok (.getfield 368, 3) := by decide +kernel
theorem dX11_count_82 : decode cX11_count 82 = .ok (.ireturn, 1) := by decide +kernel
theorem dX11_count_83 : decode cX11_count 83 = .ok (.aload_n 0, 1) := by decide +kernel
theorem dX11_count_84 : decode cX11_count 84 = .ok (.getfield 373, 3) := by decide +kernel
theorem dX11_count_87 : decode cX11_count 87 = .ok (.ireturn, 1) := by decide +kernel
theorem dX11_count_88 : decode cX11_count 88 = .ok (.iconst (-1), 1) := by decide +kernel
theorem dX11_count_89 : decode cX11_count 89 = .ok (.ireturn, 1) := by decide +kernel
theorem dJ9_abs_067f4_0 : decode cJ9_abs_067f4 0 = .ok (.lload_n 0, 1) := by decide +kernel
theorem dJ9_abs_067f4_1 : decode cJ9_abs_067f4 1 = .ok (.lconst 0, 1) := by decide +kernel
theorem dJ9_abs_067f4_2 : decode cJ9_abs_067f4 2 = .ok (.lcmp, 1) := by decide +kernel
theorem dJ9_abs_067f4_3 : decode cJ9_abs_067f4 3 = .ok (.ifCond .ge 8, 3) := by decide +kernel
theorem dJ9_abs_067f4_6 : decode cJ9_abs_067f4 6 = .ok (.lload_n 0, 1) := by decide +kernel
theorem dJ9_abs_067f4_7 : decode cJ9_abs_067f4 7 = .ok (.lneg, 1) := by decide +kernel
theorem dJ9_abs_067f4_8 : decode cJ9_abs_067f4 8 = .ok (.goto 4, 3) := by decide +kernel
theorem dJ9_abs_067f4_11 : decode cJ9_abs_067f4 11 = .ok (.lload_n 0, 1) := by decide +kernel
theorem dJ9_abs_067f4_12 : decode cJ9_abs_067f4 12 = .ok (.lreturn, 1) := by decide +kernel
theorem dJ9_max_7cf53_0 : decode cJ9_max_7cf53 0 = .ok (.iload_n 0, 1) := by decide +kernel
theorem dJ9_max_7cf53_1 : decode cJ9_max_7cf53 1 = .ok (.iload_n 1, 1) := by decide +kernel
theorem dJ9_max_7cf53_2 : decode cJ9_max_7cf53 2 = .ok (.if_icmp .lt 7, 3) := by decide +kernel
theorem dJ9_max_7cf53_5 : decode cJ9_max_7cf53 5 = .ok (.iload_n 0, 1) := by decide +kernel
theorem dJ9_max_7cf53_6 : decode cJ9_max_7cf53 6 = .ok (.goto 4, 3) := by decide +kernel
theorem dJ9_max_7cf53_9 : decode cJ9_max_7cf53 9 = .ok (.iload_n 1, 1) := by decide +kernel
theorem dJ9_max_7cf53_10 : decode cJ9_max_7cf53 10 = .ok (.ireturn, 1) := by decide +kernel
theorem dJ9_min_7cf53_0 : decode cJ9_min_7cf53 0 = .ok (.iload_n 0, 1) := by decide +kernel
theorem dJ9_min_7cf53_1 : decode cJ9_min_7cf53 1 = .ok (.iload_n 1, 1) := by decide +kernel
theorem dJ9_min_7cf53_2 : decode cJ9_min_7cf53 2 = .ok (.if_icmp .gt 7, 3) := by decide +kernel
theorem dJ9_min_7cf53_5 : decode cJ9_min_7cf53 5 = .ok (.iload_n 0, 1) := by decide +kernel
theorem dJ9_min_7cf53_6 : decode cJ9_min_7cf53 6 = .ok (.goto 4, 3) := by decide +kernel
theorem dJ9_min_7cf53_9 : decode cJ9_min_7cf53 9 = .ok (.iload_n 1, 1) := by decide +kernel
theorem dJ9_min_7cf53_10 : decode cJ9_min_7cf53 10 = .ok (.ireturn, 1) := by decide +kernel
theorem dJ7_fill_d0a16_0 : decode cJ7_fill_d0a16 0 = .ok (.iconst 0, 1) := by decide +kernel
theorem dJ7_fill_d0a16_1 : decode cJ7_fill_d0a16 1 = .ok (.istore_n 3, 1) := by decide +kernel
theorem dJ7_fill_d0a16_2 : decode cJ7_fill_d0a16 2 = .ok (.aload_n 0, 1) := by decide +kernel
theorem dJ7_fill_d0a16_3 : decode cJ7_fill_d0a16 3 = .ok (.arraylength, 1) := by decide +kernel
theorem dJ7_fill_d0a16_4 : decode cJ7_fill_d0a16 4 = .ok (.istore 4, 2) := by decide +kernel
theorem dJ7_fill_d0a16_6 : decode cJ7_fill_d0a16 6 = .ok (.iload_n 3, 1) := by decide +kernel
theorem dJ7_fill_d0a16_7 : decode cJ7_fill_d0a16 7 = .ok (.iload 4, 2) := by decide +kernel
theorem dJ7_fill_d0a16_9 : decode cJ7_fill_d0a16 9 = .ok (.if_icmp .ge 13, 3) := by decide +kernel
theorem dJ7_fill_d0a16_12 : decode cJ7_fill_d0a16 12 = .ok (.aload_n 0, 1) := by decide +kernel
theorem dJ7_fill_d0a16_13 : decode cJ7_fill_d0a16 13 = .ok (.iload_n 3, 1) := by decide +kernel
theorem dJ7_fill_d0a16_14 : decode cJ7_fill_d0a16 14 = .ok (.lload_n 1, 1) := by decide +kernel
theorem dJ7_fill_d0a16_15 : decode cJ7_fill_d0a16 15 = .ok (.lastore, 1) := by decide +kernel
theorem dJ7_fill_d0a16_16 : decode cJ7_fill_d0a16 16 = .ok (.iinc 3 1, 3) := by decide +kernel
theorem dJ7_fill_d0a16_19 : decode cJ7_fill_d0a16 19 = .ok (.goto (-13), 3) := by decide +kernel
theorem dJ7_fill_d0a16_22 : decode cJ7_fill_d0a16 22 = .ok (.return_, 1) := by decide +kernel
theorem dJ7_fill_031fb_0 : decode cJ7_fill_031fb 0 = .ok (.iconst 0, 1) := by decide +kernel
theorem dJ7_fill_031fb_1 : decode cJ7_fill_031fb 1 = .ok (.istore_n 2, 1) := by decide +kernel
theorem dJ7_fill_031fb_2 : decode cJ7_fill_031fb 2 = .ok (.aload_n 0, 1) := by decide +kernel
theorem dJ7_fill_031fb_3 : decode cJ7_fill_031fb 3 = .ok (.arraylength, 1) := by decide +kernel
theorem dJ7_fill_031fb_4 : decode cJ7_fill_031fb 4 = .ok (.istore_n 3, 1) := by decide +kernel
theorem dJ7_fill_031fb_5 : decode cJ7_fill_031fb 5 = .ok (.iload_n 2, 1) := by decide +kernel
theorem dJ7_fill_031fb_6 : decode cJ7_fill_031fb 6 = .ok (.iload_n 3, 1) := by decide +kernel
theorem dJ7_fill_031fb_7 : decode cJ7_fill_031fb 7 = .ok (.if_icmp .ge 13, 3) := by decide +kernel
theorem dJ7_fill_031fb_10 : decode cJ7_fill_031fb 10 = .ok (.aload_n 0, 1) := by decide +kernel
theorem dJ7_fill_031fb_11 : decode cJ7_fill_031fb 11 = .ok (.iload_n 2, 1) := by decide +kernel
theorem dJ7_fill_031fb_12 : decode cJ7_fill_031fb 12 = .ok (.iload_n 1, 1) := by decide +kernel
theorem dJ7_fill_031fb_13 : decode cJ7_fill_031fb 13 = .ok (.bastore, 1) := by decide +kernel
theorem dJ7_fill_031fb_14 : decode cJ7_fill_031fb 14 = .ok (.iinc 2 1, 3) := by decide +kernel
theorem dJ7_fill_031fb_17 : decode cJ7_fill_031fb 17 = .ok (.goto (-12), 3) := by decide +kernel
theorem dJ7_fill_031fb_20 : decode cJ7_fill_031fb 20 = .ok (.return_, 1) := by decide +kernel
theorem dL_law_0 : decode cL_law 0 = .ok (.new 7, 3) := by decide +kernel
theorem dL_law_3 : decode cL_law 3 = .ok (.dup, 1) := by decide +kernel
theorem dL_law_4 : decode cL_law 4 = .ok (.invokespecial 9, 3) := by decide +kernel
theorem dL_law_7 : decode cL_law 7 = .ok (.astore_n 1, 1) := by decide +kernel
theorem dL_law_8 : decode cL_law 8 = .ok (.new 10, 3) := by decide +kernel
theorem dL_law_11 : decode cL_law 11 = .ok (.dup, 1) := by decide +kernel
theorem dL_law_12 : decode cL_law 12 = .ok (.invokespecial 12, 3) := by decide +kernel
theorem dL_law_15 : decode cL_law 15 = .ok (.astore_n 2, 1) := by decide +kernel
theorem dL_law_16 : decode cL_law 16 = .ok (.iconst 0, 1) := by decide +kernel
theorem dL_law_17 : decode cL_law 17 = .ok (.istore_n 3, 1) := by decide +kernel
theorem dL_law_18 : decode cL_law 18 = .ok (.iload_n 3, 1) := by decide +kernel
theorem dL_law_19 : decode cL_law 19 = .ok (.aload_n 0, 1) := by decide +kernel
theorem dL_law_20 : decode cL_law 20 = .ok (.arraylength, 1) := by decide +kernel
theorem dL_law_21 : decode cL_law 21 = .ok (.bipush 6, 2) := by decide +kernel
theorem dL_law_23 : decode cL_law 23 = .ok (.isub, 1) := by decide +kernel
theorem dL_law_24 : decode cL_law 24 = .ok (.if_icmp .gt 1330, 3) := by decide +kernel
theorem dL_law_27 : decode cL_law 27 = .ok (.aload_n 0, 1) := by decide +kernel
theorem dL_law_28 : decode cL_law 28 = .ok (.iload_n 3, 1) := by decide +kernel
theorem dL_law_29 : decode cL_law 29 = .ok (.iaload, 1) := by decide +kernel
theorem dL_law_30 : decode cL_law 30 = .ok (.bipush 63, 2) := by decide +kernel
theorem dL_law_32 : decode cL_law 32 = .ok (.iand, 1) := by decide +kernel
theorem dL_law_33 : decode cL_law 33 = .ok (.tableswitch 1315 0 34 #[155, 188, 221, 264, 297, 340, 373, 396, 409, 432, 465, 488, 521, 554, 577, 621, 654, 708, 752, 786, 829, 872, 885, 898, 911, 924, 947, 990, 1013, 1046, 1089, 1162, 1196, 1259, 1292], 155) := by decide +kernel
theorem dL_law_188 : decode cL_law 188 = .ok (.aload_n 1, 1) := by decide +kernel
theorem dL_law_189 : decode cL_law 189 = .ok (.aload_n 0, 1) := by decide +kernel
theorem dL_law_190 : decode cL_law 190 = .ok (.iload_n 3, 1) := by decide +kernel
theorem dL_law_191 : decode cL_law 191 = .ok (.iconst 1, 1) := by decide +kernel
theorem dL_law_192 : decode cL_law 192 = .ok (.iadd, 1) := by decide +kernel
theorem dL_law_193 : decode cL_law 193 = .ok (.iaload, 1) := by decide +kernel
theorem dL_law_194 : decode cL_law 194 = .ok (.aload_n 0, 1) := by decide +kernel
theorem dL_law_195 : decode cL_law 195 = .ok (.iload_n 3, 1) := by decide +kernel
theorem dL_law_196 : decode cL_law 196 = .ok (.iconst 2, 1) := by decide +kernel
theorem dL_law_197 : decode cL_law 197 = .ok (.iadd, 1) := by decide +kernel
theorem dL_law_198 : decode cL_law 198 = .ok (.iaload, 1) := by decide +kernel
theorem dL_law_199 : decode cL_law 199 = .ok (.invokevirtual 13, 3) := by decide +kernel
theorem dL_law_202 : decode cL_law 202 = .ok (.aload_n 2, 1) := by decide +kernel
theorem dL_law_203 : decode cL_law 203 = .ok (.aload_n 0, 1) := by decide +kernel
theorem dL_law_204 : decode cL_law 204 = .ok (.iload_n 3, 1) := by decide +kernel
theorem dL_law_205 : decode cL_law 205 = .ok (.iconst 1, 1) := by decide +kernel
theorem dL_law_206 : decode cL_law 206 = .ok (.iadd, 1) := by decide +kernel
theorem dL_law_207 : decode cL_law 207 = .ok (.iaload, 1) := by decide +kernel
theorem dL_law_208 : decode cL_law 208 = .ok (.aload_n 0, 1) := by decide +kernel
theorem dL_law_209 : decode cL_law 209 = .ok (.iload_n 3, 1) := by decide +kernel
theorem dL_law_210 : decode cL_law 210 = .ok (.iconst 2, 1) := by decide +kernel
theorem dL_law_211 : decode cL_law 211 = .ok (.iadd, 1) := by decide +kernel
theorem dL_law_212 : decode cL_law 212 = .ok (.iaload, 1) := by decide +kernel
theorem dL_law_213 : decode cL_law 213 = .ok (.invokevirtual 17, 3) := by decide +kernel
theorem dL_law_216 : decode cL_law 216 = .ok (.if_icmp .eq 1132, 3) := by decide +kernel
theorem dL_law_219 : decode cL_law 219 = .ok (.iconst 0, 1) := by decide +kernel
theorem dL_law_220 : decode cL_law 220 = .ok (.ireturn, 1) := by decide +kernel
theorem dL_law_221 : decode cL_law 221 = .ok (.aload_n 1, 1) := by decide +kernel
theorem dL_law_222 : decode cL_law 222 = .ok (.aload_n 0, 1) := by decide +kernel
theorem dL_law_223 : decode cL_law 223 = .ok (.iload_n 3, 1) := by decide +kernel
theorem dL_law_224 : decode cL_law 224 = .ok (.iconst 1, 1) := by decide +kernel
theorem dL_law_225 : decode cL_law 225 = .ok (.iadd, 1) := by decide +kernel
theorem dL_law_226 : decode cL_law 226 = .ok (.iaload, 1) := by decide +kernel
theorem dL_law_227 : decode cL_law 227 = .ok (.aload_n 0, 1) := by decide +kernel
theorem dL_law_228 : decode cL_law 228 = .ok (.iload_n 3, 1) := by decide +kernel
theorem dL_law_229 : decode cL_law 229 = .ok (.iconst 2, 1) := by decide +kernel
theorem dL_law_230 : decode cL_law 230 = .ok (.iadd, 1) := by decide +kernel
theorem dL_law_231 : decode cL_law 231 = .ok (.iaload, 1) := by decide +kernel
theorem dL_law_232 : decode cL_law 232 = .ok (.invokevirtual 18, 3) := by decide +kernel
theorem dL_law_235 : decode cL_law 235 = .ok (.aload_n 2, 1) := by decide +kernel
theorem dL_law_236 : decode cL_law 236 = .ok (.aload_n 0, 1) := by decide +kernel
theorem dL_law_237 : decode cL_law 237 = .ok (.iload_n 3, 1) := by decide +kernel
theorem dL_law_238 : decode cL_law 238 = .ok (.iconst 1, 1) := by decide +kernel
theorem dL_law_239 : decode cL_law 239 = .ok (.iadd, 1) := by decide +kernel
theorem dL_law_240 : decode cL_law 240 = .ok (.iaload, 1) := by decide +kernel
theorem dL_law_241 : decode cL_law 241 = .ok (.aload_n 0, 1) := by decide +kernel
theorem dL_law_242 : decode cL_law 242 = .ok (.iload_n 3, 1) := by decide +kernel
theorem dL_law_243 : decode cL_law 243 = .ok (.iconst 2, 1) := by decide +kernel
theorem dL_law_244 : decode cL_law 244 = .ok (.iadd, 1) := by decide +kernel
theorem dL_law_245 : decode cL_law 245 = .ok (.iaload, 1) := by decide +kernel
theorem dL_law_246 : decode cL_law 246 = .ok (.invokevirtual 21, 3) := by decide +kernel
theorem dL_law_249 : decode cL_law 249 = .ok (.if_icmp .eq 1099, 3) := by decide +kernel
theorem dL_law_252 : decode cL_law 252 = .ok (.iconst 0, 1) := by decide +kernel
theorem dL_law_253 : decode cL_law 253 = .ok (.ireturn, 1) := by decide +kernel
theorem dL_law_254 : decode cL_law 254 = .ok (.aload_n 1, 1) := by decide +kernel
theorem dL_law_255 : decode cL_law 255 = .ok (.aload_n 0, 1) := by decide +kernel
theorem dL_law_256 : decode cL_law 256 = .ok (.iload_n 3, 1) := by decide +kernel
theorem dL_law_257 : decode cL_law 257 = .ok (.iconst 1, 1) := by decide +kernel
theorem dL_law_258 : decode cL_law 258 = .ok (.iadd, 1) := by decide +kernel
theorem dL_law_259 : decode cL_law 259 = .ok (.iaload, 1) := by decide +kernel
theorem dL_law_260 : decode cL_law 260 = .ok (.aload_n 0, 1) := by decide +kernel
theorem dL_law_261 : decode cL_law 261 = .ok (.iload_n 3, 1) := by decide +kernel
theorem dL_law_262 : decode cL_law 262 = .ok (.iconst 2, 1) := by decide +kernel
theorem dL_law_263 : decode cL_law 263 = .ok (.iadd, 1) := by decide +kernel
theorem dL_law_264 : decode cL_law 264 = .ok (.iaload, 1) := by decide +kernel
theorem dL_law_265 : decode cL_law 265 = .ok (.aload_n 0, 1) := by decide +kernel
theorem dL_law_266 : decode cL_law 266 = .ok (.iload_n 3, 1) := by decide +kernel
theorem dL_law_267 : decode cL_law 267 = .ok (.iconst 3, 1) := by decide +kernel
theorem dL_law_268 : decode cL_law 268 = .ok (.iadd, 1) := by decide +kernel
theorem dL_law_269 : decode cL_law 269 = .ok (.iaload, 1) := by decide +kernel
theorem dL_law_270 : decode cL_law 270 = .ok (.invokevirtual 22, 3) := by decide +kernel
theorem dL_law_273 : decode cL_law 273 = .ok (.aload_n 2, 1) := by decide +kernel
theorem dL_law_274 : decode cL_law 274 = .ok (.aload_n 0, 1) := by decide +kernel
theorem dL_law_275 : decode cL_law 275 = .ok (.iload_n 3, 1) := by decide +kernel
theorem dL_law_276 : decode cL_law 276 = .ok (.iconst 1, 1) := by decide +kernel
theorem dL_law_277 : decode cL_law 277 = .ok (.iadd, 1) := by decide +kernel
theorem dL_law_278 : decode cL_law 278 = .ok (.iaload, 1) := by decide +kernel
theorem dL_law_279 : decode cL_law 279 = .ok (.aload_n 0, 1) := by decide +kernel
theorem dL_law_280 : decode cL_law 280 = .ok (.iload_n 3, 1) := by decide +kernel
theorem dL_law_281 : decode cL_law 281 = .ok (.iconst 2, 1) := by decide +kernel
theorem dL_law_282 : decode cL_law 282 = .ok (.iadd, 1) := by decide +kernel
theorem dL_law_283 : decode cL_law 283 = .ok (.iaload, 1) := by decide +kernel
theorem dL_law_284 : decode cL_law 284 = .ok (.aload_n 0, 1) := by decide +kernel
theorem dL_law_285 : decode cL_law 285 = .ok (.iload_n 3, 1) := by decide +kernel
theorem dL_law_286 : decode cL_law 286 = .ok (.iconst 3, 1) := by decide +kernel
theorem dL_law_287 : decode cL_law 287 = .ok (.iadd, 1) := by decide +kernel
theorem dL_law_288 : decode cL_law 288 = .ok (.iaload, 1) := by decide +kernel
theorem dL_law_289 : decode cL_law 289 = .ok (.invokevirtual 26, 3) := by decide +kernel
theorem dL_law_292 : decode cL_law 292 = .ok (.if_icmp .eq 1056, 3) := by decide +kernel
theorem dL_law_295 : decode cL_law 295 = .ok (.iconst 0, 1) := by decide +kernel
theorem dL_law_296 : decode cL_law 296 = .ok (.ireturn, 1) := by decide +kernel
theorem dL_law_297 : decode cL_law 297 = .ok (.aload_n 1, 1) := by decide +kernel
theorem dL_law_298 : decode cL_law 298 = .ok (.aload_n 0, 1) := by decide +kernel
theorem dL_law_299 : decode cL_law 299 = .ok (.iload_n 3, 1) := by decide +kernel
theorem dL_law_300 : decode cL_law 300 = .ok (.iconst 1, 1) := by decide +kernel
theorem dL_law_301 : decode cL_law 301 = .ok (.iadd, 1) := by decide +kernel
theorem dL_law_302 : decode cL_law 302 = .ok (.iaload, 1) := by decide +kernel
theorem dL_law_303 : decode cL_law 303 = .ok (.aload_n 0, 1) := by decide +kernel
theorem dL_law_304 : decode cL_law 304 = .ok (.iload_n 3, 1) := by decide +kernel
theorem dL_law_305 : decode cL_law 305 = .ok (.iconst 2, 1) := by decide +kernel
theorem dL_law_306 : decode cL_law 306 = .ok (.iadd, 1) := by decide +kernel
theorem dL_law_307 : decode cL_law 307 = .ok (.iaload, 1) := by decide +kernel
theorem dL_law_308 : decode cL_law 308 = .ok (.invokevirtual 27, 3) := by decide +kernel
theorem dL_law_311 : decode cL_law 311 = .ok (.aload_n 2, 1) := by decide +kernel
theorem dL_law_312 : decode cL_law 312 = .ok (.aload_n 0, 1) := by decide +kernel
theorem dL_law_313 : decode cL_law 313 = .ok (.iload_n 3, 1) := by decide +kernel
theorem dL_law_314 : decode cL_law 314 = .ok (.iconst 1, 1) := by decide +kernel
theorem dL_law_315 : decode cL_law 315 = .ok (.iadd, 1) := by decide +kernel
theorem dL_law_316 : decode cL_law 316 = .ok (.iaload, 1) := by decide +kernel
theorem dL_law_317 : decode cL_law 317 = .ok (.aload_n 0, 1) := by decide +kernel
theorem dL_law_318 : decode cL_law 318 = .ok (.iload_n 3, 1) := by decide +kernel
theorem dL_law_319 : decode cL_law 319 = .ok (.iconst 2, 1) := by decide +kernel
theorem dL_law_320 : decode cL_law 320 = .ok (.iadd, 1) := by decide +kernel
theorem dL_law_321 : decode cL_law 321 = .ok (.iaload, 1) := by decide +kernel
theorem dL_law_322 : decode cL_law 322 = .ok (.invokevirtual 30, 3) := by decide +kernel
theorem dL_law_325 : decode cL_law 325 = .ok (.if_icmp .eq 1023, 3) := by decide +kernel
theorem dL_law_328 : decode cL_law 328 = .ok (.iconst 0, 1) := by decide +kernel
theorem dL_law_329 : decode cL_law 329 = .ok (.ireturn, 1) := by decide +kernel
theorem dL_law_330 : decode cL_law 330 = .ok (.aload_n 1, 1) := by decide +kernel
theorem dL_law_331 : decode cL_law 331 = .ok (.aload_n 0, 1) := by decide +kernel
theorem dL_law_332 : decode cL_law 332 = .ok (.iload_n 3, 1) := by decide +kernel
theorem dL_law_333 : decode cL_law 333 = .ok (.iconst 1, 1) := by decide +kernel
theorem dL_law_334 : decode cL_law 334 = .ok (.iadd, 1) := by decide +kernel
theorem dL_law_335 : decode cL_law 335 = .ok (.iaload, 1) := by decide +kernel
theorem dL_law_336 : decode cL_law 336 = .ok (.aload_n 0, 1) := by decide +kernel
theorem dL_law_337 : decode cL_law 337 = .ok (.iload_n 3, 1) := by decide +kernel
theorem dL_law_338 : decode cL_law 338 = .ok (.iconst 2, 1) := by decide +kernel
theorem dL_law_339 : decode cL_law 339 = .ok (.iadd, 1) := by decide +kernel
theorem dL_law_340 : decode cL_law 340 = .ok (.iaload, 1) := by decide +kernel
theorem dL_law_341 : decode cL_law 341 = .ok (.aload_n 0, 1) := by decide +kernel
theorem dL_law_342 : decode cL_law 342 = .ok (.iload_n 3, 1) := by decide +kernel
theorem dL_law_343 : decode cL_law 343 = .ok (.iconst 3, 1) := by decide +kernel
theorem dL_law_344 : decode cL_law 344 = .ok (.iadd, 1) := by decide +kernel
theorem dL_law_345 : decode cL_law 345 = .ok (.iaload, 1) := by decide +kernel
theorem dL_law_346 : decode cL_law 346 = .ok (.invokevirtual 31, 3) := by decide +kernel
theorem dL_law_349 : decode cL_law 349 = .ok (.aload_n 2, 1) := by decide +kernel
theorem dL_law_350 : decode cL_law 350 = .ok (.aload_n 0, 1) := by decide +kernel
theorem dL_law_351 : decode cL_law 351 = .ok (.iload_n 3, 1) := by decide +kernel
theorem dL_law_352 : decode cL_law 352 = .ok (.iconst 1, 1) := by decide +kernel
theorem dL_law_353 : decode cL_law 353 = .ok (.iadd, 1) := by decide +kernel
theorem dL_law_354 : decode cL_law 354 = .ok (.iaload, 1) := by decide +kernel
theorem dL_law_355 : decode cL_law 355 = .ok (.aload_n 0, 1) := by decide +kernel
theorem dL_law_356 : decode cL_law 356 = .ok (.iload_n 3, 1) := by decide +kernel
theorem dL_law_357 : decode cL_law 357 = .ok (.iconst 2, 1) := by decide +kernel
theorem dL_law_358 : decode cL_law 358 = .ok (.iadd, 1) := by decide +kernel
theorem dL_law_359 : decode cL_law 359 = .ok (.iaload, 1) := by decide +kernel
theorem dL_law_360 : decode cL_law 360 = .ok (.aload_n 0, 1) := by decide +kernel
theorem dL_law_361 : decode cL_law 361 = .ok (.iload_n 3, 1) := by decide +kernel
theorem dL_law_362 : decode cL_law 362 = .ok (.iconst 3, 1) := by decide +kernel
theorem dL_law_363 : decode cL_law 363 = .ok (.iadd, 1) := by decide +kernel
theorem dL_law_364 : decode cL_law 364 = .ok (.iaload, 1) := by decide +kernel
theorem dL_law_365 : decode cL_law 365 = .ok (.invokevirtual 34, 3) := by decide +kernel
theorem dL_law_368 : decode cL_law 368 = .ok (.if_icmp .eq 980, 3) := by decide +kernel
theorem dL_law_371 : decode cL_law 371 = .ok (.iconst 0, 1) := by decide +kernel
theorem dL_law_372 : decode cL_law 372 = .ok (.ireturn, 1) := by decide +kernel
theorem dL_law_373 : decode cL_law 373 = .ok (.aload_n 1, 1) := by decide +kernel
theorem dL_law_374 : decode cL_law 374 = .ok (.aload_n 0, 1) := by decide +kernel
theorem dL_law_375 : decode cL_law 375 = .ok (.iload_n 3, 1) := by decide +kernel
theorem dL_law_376 : decode cL_law 376 = .ok (.iconst 1, 1) := by decide +kernel
theorem dL_law_377 : decode cL_law 377 = .ok (.iadd, 1) := by decide +kernel
theorem dL_law_378 : decode cL_law 378 = .ok (.iaload, 1) := by decide +kernel
theorem dL_law_379 : decode cL_law 379 = .ok (.aload_n 0, 1) := by decide +kernel
theorem dL_law_380 : decode cL_law 380 = .ok (.iload_n 3, 1) := by decide +kernel
theorem dL_law_381 : decode cL_law 381 = .ok (.iconst 2, 1) := by decide +kernel
theorem dL_law_382 : decode cL_law 382 = .ok (.iadd, 1) := by decide +kernel
theorem dL_law_383 : decode cL_law 383 = .ok (.iaload, 1) := by decide +kernel
theorem dL_law_384 : decode cL_law 384 = .ok (.invokevirtual 35, 3) := by decide +kernel
theorem dL_law_387 : decode cL_law 387 = .ok (.aload_n 2, 1) := by decide +kernel
theorem dL_law_388 : decode cL_law 388 = .ok (.aload_n 0, 1) := by decide +kernel
theorem dL_law_389 : decode cL_law 389 = .ok (.iload_n 3, 1) := by decide +kernel
theorem dL_law_390 : decode cL_law 390 = .ok (.iconst 1, 1) := by decide +kernel
theorem dL_law_391 : decode cL_law 391 = .ok (.iadd, 1) := by decide +kernel
theorem dL_law_392 : decode cL_law 392 = .ok (.iaload, 1) := by decide +kernel
theorem dL_law_393 : decode cL_law 393 = .ok (.aload_n 0, 1) := by decide +kernel
theorem dL_law_394 : decode cL_law 394 = .ok (.iload_n 3, 1) := by decide +kernel
theorem dL_law_395 : decode cL_law 395 = .ok (.iconst 2, 1) := by decide +kernel
theorem dL_law_396 : decode cL_law 396 = .ok (.iadd, 1) := by decide +kernel
theorem dL_law_397 : decode cL_law 397 = .ok (.iaload, 1) := by decide +kernel
theorem dL_law_398 : decode cL_law 398 = .ok (.invokevirtual 38, 3) := by decide +kernel
theorem dL_law_401 : decode cL_law 401 = .ok (.if_icmp .eq 947, 3) := by decide +kernel
theorem dL_law_404 : decode cL_law 404 = .ok (.iconst 0, 1) := by decide +kernel
theorem dL_law_405 : decode cL_law 405 = .ok (.ireturn, 1) := by decide +kernel
theorem dL_law_406 : decode cL_law 406 = .ok (.aload_n 1, 1) := by decide +kernel
theorem dL_law_407 : decode cL_law 407 = .ok (.aload_n 0, 1) := by decide +kernel
theorem dL_law_408 : decode cL_law 408 = .ok (.iload_n 3, 1) := by decide +kernel
theorem dL_law_409 : decode cL_law 409 = .ok (.iconst 1, 1) := by decide +kernel
theorem dL_law_410 : decode cL_law 410 = .ok (.iadd, 1) := by decide +kernel
theorem dL_law_411 : decode cL_law 411 = .ok (.iaload, 1) := by decide +kernel
theorem dL_law_412 : decode cL_law 412 = .ok (.invokevirtual 39, 3) := by decide +kernel
theorem dL_law_415 : decode cL_law 415 = .ok (.aload_n 2, 1) := by decide +kernel
theorem dL_law_416 : decode cL_law 416 = .ok (.aload_n 0, 1) := by decide +kernel
theorem dL_law_417 : decode cL_law 417 = .ok (.iload_n 3, 1) := by decide +kernel
theorem dL_law_418 : decode cL_law 418 = .ok (.iconst 1, 1) := by decide +kernel
theorem dL_law_419 : decode cL_law 419 = .ok (.iadd, 1) := by decide +kernel
theorem dL_law_420 : decode cL_law 420 = .ok (.iaload, 1) := by decide +kernel
theorem dL_law_421 : decode cL_law 421 = .ok (.invokevirtual 43, 3) := by decide +kernel
theorem dL_law_424 : decode cL_law 424 = .ok (.if_icmp .eq 924, 3) := by decide +kernel
theorem dL_law_427 : decode cL_law 427 = .ok (.iconst 0, 1) := by decide +kernel
theorem dL_law_428 : decode cL_law 428 = .ok (.ireturn, 1) := by decide +kernel
theorem dL_law_429 : decode cL_law 429 = .ok (.aload_n 1, 1) := by decide +kernel
theorem dL_law_430 : decode cL_law 430 = .ok (.invokevirtual 44, 3) := by decide +kernel
theorem dL_law_433 : decode cL_law 433 = .ok (.aload_n 2, 1) := by decide +kernel
theorem dL_law_434 : decode cL_law 434 = .ok (.invokevirtual 48, 3) := by decide +kernel
theorem dL_law_437 : decode cL_law 437 = .ok (.if_icmp .eq 911, 3) := by decide +kernel
theorem dL_law_440 : decode cL_law 440 = .ok (.iconst 0, 1) := by decide +kernel
theorem dL_law_441 : decode cL_law 441 = .ok (.ireturn, 1) := by decide +kernel
theorem dL_law_442 : decode cL_law 442 = .ok (.aload_n 1, 1) := by decide +kernel
theorem dL_law_443 : decode cL_law 443 = .ok (.aload_n 0, 1) := by decide +kernel
theorem dL_law_444 : decode cL_law 444 = .ok (.iload_n 3, 1) := by decide +kernel
theorem dL_law_445 : decode cL_law 445 = .ok (.iconst 1, 1) := by decide +kernel
theorem dL_law_446 : decode cL_law 446 = .ok (.iadd, 1) := by decide +kernel
theorem dL_law_447 : decode cL_law 447 = .ok (.iaload, 1) := by decide +kernel
theorem dL_law_448 : decode cL_law 448 = .ok (.invokevirtual 49, 3) := by decide +kernel
theorem dL_law_451 : decode cL_law 451 = .ok (.aload_n 2, 1) := by decide +kernel
theorem dL_law_452 : decode cL_law 452 = .ok (.aload_n 0, 1) := by decide +kernel
theorem dL_law_453 : decode cL_law 453 = .ok (.iload_n 3, 1) := by decide +kernel
theorem dL_law_454 : decode cL_law 454 = .ok (.iconst 1, 1) := by decide +kernel
theorem dL_law_455 : decode cL_law 455 = .ok (.iadd, 1) := by decide +kernel
theorem dL_law_456 : decode cL_law 456 = .ok (.iaload, 1) := by decide +kernel
theorem dL_law_457 : decode cL_law 457 = .ok (.invokevirtual 52, 3) := by decide +kernel
theorem dL_law_460 : decode cL_law 460 = .ok (.if_icmp .eq 888, 3) := by decide +kernel
theorem dL_law_463 : decode cL_law 463 = .ok (.iconst 0, 1) := by decide +kernel
theorem dL_law_464 : decode cL_law 464 = .ok (.ireturn, 1) := by decide +kernel
theorem dL_law_465 : decode cL_law 465 = .ok (.aload_n 1, 1) := by decide +kernel
theorem dL_law_466 : decode cL_law 466 = .ok (.aload_n 0, 1) := by decide +kernel
theorem dL_law_467 : decode cL_law 467 = .ok (.iload_n 3, 1) := by decide +kernel
theorem dL_law_468 : decode cL_law 468 = .ok (.iconst 1, 1) := by decide +kernel
theorem dL_law_469 : decode cL_law 469 = .ok (.iadd, 1) := by decide +kernel
theorem dL_law_470 : decode cL_law 470 = .ok (.iaload, 1) := by decide +kernel
theorem dL_law_471 : decode cL_law 471 = .ok (.aload_n 0, 1) := by decide +kernel
theorem dL_law_472 : decode cL_law 472 = .ok (.iload_n 3, 1) := by decide +kernel
theorem dL_law_473 : decode cL_law 473 = .ok (.iconst 2, 1) := by decide +kernel
theorem dL_law_474 : decode cL_law 474 = .ok (.iadd, 1) := by decide +kernel
theorem dL_law_475 : decode cL_law 475 = .ok (.iaload, 1) := by decide +kernel
theorem dL_law_476 : decode cL_law 476 = .ok (.invokevirtual 53, 3) := by decide +kernel
theorem dL_law_479 : decode cL_law 479 = .ok (.aload_n 2, 1) := by decide +kernel
theorem dL_law_480 : decode cL_law 480 = .ok (.aload_n 0, 1) := by decide +kernel
theorem dL_law_481 : decode cL_law 481 = .ok (.iload_n 3, 1) := by decide +kernel
theorem dL_law_482 : decode cL_law 482 = .ok (.iconst 1, 1) := by decide +kernel
theorem dL_law_483 : decode cL_law 483 = .ok (.iadd, 1) := by decide +kernel
theorem dL_law_484 : decode cL_law 484 = .ok (.iaload, 1) := by decide +kernel
theorem dL_law_485 : decode cL_law 485 = .ok (.aload_n 0, 1) := by decide +kernel
theorem dL_law_486 : decode cL_law 486 = .ok (.iload_n 3, 1) := by decide +kernel
theorem dL_law_487 : decode cL_law 487 = .ok (.iconst 2, 1) := by decide +kernel
theorem dL_law_488 : decode cL_law 488 = .ok (.iadd, 1) := by decide +kernel
theorem dL_law_489 : decode cL_law 489 = .ok (.iaload, 1) := by decide +kernel
theorem dL_law_490 : decode cL_law 490 = .ok (.invokevirtual 56, 3) := by decide +kernel
theorem dL_law_493 : decode cL_law 493 = .ok (.if_icmp .eq 855, 3) := by decide +kernel
theorem dL_law_496 : decode cL_law 496 = .ok (.iconst 0, 1) := by decide +kernel
theorem dL_law_497 : decode cL_law 497 = .ok (.ireturn, 1) := by decide +kernel
theorem dL_law_498 : decode cL_law 498 = .ok (.aload_n 1, 1) := by decide +kernel
theorem dL_law_499 : decode cL_law 499 = .ok (.aload_n 0, 1) := by decide +kernel
theorem dL_law_500 : decode cL_law 500 = .ok (.iload_n 3, 1) := by decide +kernel
theorem dL_law_501 : decode cL_law 501 = .ok (.iconst 1, 1) := by decide +kernel
theorem dL_law_502 : decode cL_law 502 = .ok (.iadd, 1) := by decide +kernel
theorem dL_law_503 : decode cL_law 503 = .ok (.iaload, 1) := by decide +kernel
theorem dL_law_504 : decode cL_law 504 = .ok (.invokevirtual 57, 3) := by decide +kernel
theorem dL_law_507 : decode cL_law 507 = .ok (.aload_n 2, 1) := by decide +kernel
theorem dL_law_508 : decode cL_law 508 = .ok (.aload_n 0, 1) := by decide +kernel
theorem dL_law_509 : decode cL_law 509 = .ok (.iload_n 3, 1) := by decide +kernel
theorem dL_law_510 : decode cL_law 510 = .ok (.iconst 1, 1) := by decide +kernel
theorem dL_law_511 : decode cL_law 511 = .ok (.iadd, 1) := by decide +kernel
theorem dL_law_512 : decode cL_law 512 = .ok (.iaload, 1) := by decide +kernel
theorem dL_law_513 : decode cL_law 513 = .ok (.invokevirtual 60, 3) := by decide +kernel
theorem dL_law_516 : decode cL_law 516 = .ok (.if_icmp .eq 832, 3) := by decide +kernel
theorem dL_law_519 : decode cL_law 519 = .ok (.iconst 0, 1) := by decide +kernel
theorem dL_law_520 : decode cL_law 520 = .ok (.ireturn, 1) := by decide +kernel
theorem dL_law_521 : decode cL_law 521 = .ok (.aload_n 1, 1) := by decide +kernel
theorem dL_law_522 : decode cL_law 522 = .ok (.aload_n 0, 1) := by decide +kernel
theorem dL_law_523 : decode cL_law 523 = .ok (.iload_n 3, 1) := by decide +kernel
theorem dL_law_524 : decode cL_law 524 = .ok (.iconst 1, 1) := by decide +kernel
theorem dL_law_525 : decode cL_law 525 = .ok (.iadd, 1) := by decide +kernel
theorem dL_law_526 : decode cL_law 526 = .ok (.iaload, 1) := by decide +kernel
theorem dL_law_527 : decode cL_law 527 = .ok (.aload_n 0, 1) := by decide +kernel
theorem dL_law_528 : decode cL_law 528 = .ok (.iload_n 3, 1) := by decide +kernel
theorem dL_law_529 : decode cL_law 529 = .ok (.iconst 2, 1) := by decide +kernel
theorem dL_law_530 : decode cL_law 530 = .ok (.iadd, 1) := by decide +kernel
theorem dL_law_531 : decode cL_law 531 = .ok (.iaload, 1) := by decide +kernel
theorem dL_law_532 : decode cL_law 532 = .ok (.invokevirtual 61, 3) := by decide +kernel
theorem dL_law_535 : decode cL_law 535 = .ok (.aload_n 2, 1) := by decide +kernel
theorem dL_law_536 : decode cL_law 536 = .ok (.aload_n 0, 1) := by decide +kernel
theorem dL_law_537 : decode cL_law 537 = .ok (.iload_n 3, 1) := by decide +kernel
theorem dL_law_538 : decode cL_law 538 = .ok (.iconst 1, 1) := by decide +kernel
theorem dL_law_539 : decode cL_law 539 = .ok (.iadd, 1) := by decide +kernel
theorem dL_law_540 : decode cL_law 540 = .ok (.iaload, 1) := by decide +kernel
theorem dL_law_541 : decode cL_law 541 = .ok (.aload_n 0, 1) := by decide +kernel
theorem dL_law_542 : decode cL_law 542 = .ok (.iload_n 3, 1) := by decide +kernel
theorem dL_law_543 : decode cL_law 543 = .ok (.iconst 2, 1) := by decide +kernel
theorem dL_law_544 : decode cL_law 544 = .ok (.iadd, 1) := by decide +kernel
theorem dL_law_545 : decode cL_law 545 = .ok (.iaload, 1) := by decide +kernel
theorem dL_law_546 : decode cL_law 546 = .ok (.invokevirtual 64, 3) := by decide +kernel
theorem dL_law_549 : decode cL_law 549 = .ok (.if_icmp .eq 799, 3) := by decide +kernel
theorem dL_law_552 : decode cL_law 552 = .ok (.iconst 0, 1) := by decide +kernel
theorem dL_law_553 : decode cL_law 553 = .ok (.ireturn, 1) := by decide +kernel
theorem dL_law_554 : decode cL_law 554 = .ok (.aload_n 1, 1) := by decide +kernel
theorem dL_law_555 : decode cL_law 555 = .ok (.aload_n 0, 1) := by decide +kernel
theorem dL_law_556 : decode cL_law 556 = .ok (.iload_n 3, 1) := by decide +kernel
theorem dL_law_557 : decode cL_law 557 = .ok (.iconst 1, 1) := by decide +kernel
theorem dL_law_558 : decode cL_law 558 = .ok (.iadd, 1) := by decide +kernel
theorem dL_law_559 : decode cL_law 559 = .ok (.iaload, 1) := by decide +kernel
theorem dL_law_560 : decode cL_law 560 = .ok (.aload_n 0, 1) := by decide +kernel
theorem dL_law_561 : decode cL_law 561 = .ok (.iload_n 3, 1) := by decide +kernel
theorem dL_law_562 : decode cL_law 562 = .ok (.iconst 2, 1) := by decide +kernel
theorem dL_law_563 : decode cL_law 563 = .ok (.iadd, 1) := by decide +kernel
theorem dL_law_564 : decode cL_law 564 = .ok (.iaload, 1) := by decide +kernel
theorem dL_law_565 : decode cL_law 565 = .ok (.invokevirtual 65, 3) := by decide +kernel
theorem dL_law_568 : decode cL_law 568 = .ok (.aload_n 2, 1) := by decide +kernel
theorem dL_law_569 : decode cL_law 569 = .ok (.aload_n 0, 1) := by decide +kernel
theorem dL_law_570 : decode cL_law 570 = .ok (.iload_n 3, 1) := by decide +kernel
theorem dL_law_571 : decode cL_law 571 = .ok (.iconst 1, 1) := by decide +kernel
theorem dL_law_572 : decode cL_law 572 = .ok (.iadd, 1) := by decide +kernel
theorem dL_law_573 : decode cL_law 573 = .ok (.iaload, 1) := by decide +kernel
theorem dL_law_574 : decode cL_law 574 = .ok (.aload_n 0, 1) := by decide +kernel
theorem dL_law_575 : decode cL_law 575 = .ok (.iload_n 3, 1) := by decide +kernel
theorem dL_law_576 : decode cL_law 576 = .ok (.iconst 2, 1) := by decide +kernel
theorem dL_law_577 : decode cL_law 577 = .ok (.iadd, 1) := by decide +kernel
theorem dL_law_578 : decode cL_law 578 = .ok (.iaload, 1) := by decide +kernel
theorem dL_law_579 : decode cL_law 579 = .ok (.invokevirtual 68, 3) := by decide +kernel
theorem dL_law_582 : decode cL_law 582 = .ok (.if_icmp .eq 766, 3) := by decide +kernel
theorem dL_law_585 : decode cL_law 585 = .ok (.iconst 0, 1) := by decide +kernel
theorem dL_law_586 : decode cL_law 586 = .ok (.ireturn, 1) := by decide +kernel
theorem dL_law_587 : decode cL_law 587 = .ok (.aload_n 1, 1) := by decide +kernel
theorem dL_law_588 : decode cL_law 588 = .ok (.aload_n 0, 1) := by decide +kernel
theorem dL_law_589 : decode cL_law 589 = .ok (.iload_n 3, 1) := by decide +kernel
theorem dL_law_590 : decode cL_law 590 = .ok (.iconst 1, 1) := by decide +kernel
theorem dL_law_591 : decode cL_law 591 = .ok (.iadd, 1) := by decide +kernel
theorem dL_law_592 : decode cL_law 592 = .ok (.iaload, 1) := by decide +kernel
theorem dL_law_593 : decode cL_law 593 = .ok (.invokevirtual 69, 3) := by decide +kernel
theorem dL_law_596 : decode cL_law 596 = .ok (.aload_n 2, 1) := by decide +kernel
theorem dL_law_597 : decode cL_law 597 = .ok (.aload_n 0, 1) := by decide +kernel
theorem dL_law_598 : decode cL_law 598 = .ok (.iload_n 3, 1) := by decide +kernel
theorem dL_law_599 : decode cL_law 599 = .ok (.iconst 1, 1) := by decide +kernel
theorem dL_law_600 : decode cL_law 600 = .ok (.iadd, 1) := by decide +kernel
theorem dL_law_601 : decode cL_law 601 = .ok (.iaload, 1) := by decide +kernel
theorem dL_law_602 : decode cL_law 602 = .ok (.invokevirtual 72, 3) := by decide +kernel
theorem dL_law_605 : decode cL_law 605 = .ok (.if_icmp .eq 743, 3) := by decide +kernel
theorem dL_law_608 : decode cL_law 608 = .ok (.iconst 0, 1) := by decide +kernel
theorem dL_law_609 : decode cL_law 609 = .ok (.ireturn, 1) := by decide +kernel
theorem dL_law_610 : decode cL_law 610 = .ok (.aload_n 1, 1) := by decide +kernel
theorem dL_law_611 : decode cL_law 611 = .ok (.aload_n 0, 1) := by decide +kernel
theorem dL_law_612 : decode cL_law 612 = .ok (.iload_n 3, 1) := by decide +kernel
theorem dL_law_613 : decode cL_law 613 = .ok (.iconst 1, 1) := by decide +kernel
theorem dL_law_614 : decode cL_law 614 = .ok (.iadd, 1) := by decide +kernel
theorem dL_law_615 : decode cL_law 615 = .ok (.iaload, 1) := by decide +kernel
theorem dL_law_616 : decode cL_law 616 = .ok (.aload_n 0, 1) := by decide +kernel
theorem dL_law_617 : decode cL_law 617 = .ok (.iload_n 3, 1) := by decide +kernel
theorem dL_law_618 : decode cL_law 618 = .ok (.iconst 2, 1) := by decide +kernel
theorem dL_law_619 : decode cL_law 619 = .ok (.iadd, 1) := by decide +kernel
theorem dL_law_620 : decode cL_law 620 = .ok (.iaload, 1) := by decide +kernel
theorem dL_law_621 : decode cL_law 621 = .ok (.aload_n 0, 1) := by decide +kernel
theorem dL_law_622 : decode cL_law 622 = .ok (.iload_n 3, 1) := by decide +kernel
theorem dL_law_623 : decode cL_law 623 = .ok (.iconst 3, 1) := by decide +kernel
theorem dL_law_624 : decode cL_law 624 = .ok (.iadd, 1) := by decide +kernel
theorem dL_law_625 : decode cL_law 625 = .ok (.iaload, 1) := by decide +kernel
theorem dL_law_626 : decode cL_law 626 = .ok (.invokevirtual 73, 3) := by decide +kernel
theorem dL_law_629 : decode cL_law 629 = .ok (.aload_n 2, 1) := by decide +kernel
theorem dL_law_630 : decode cL_law 630 = .ok (.aload_n 0, 1) := by decide +kernel
theorem dL_law_631 : decode cL_law 631 = .ok (.iload_n 3, 1) := by decide +kernel
theorem dL_law_632 : decode cL_law 632 = .ok (.iconst 1, 1) := by decide +kernel
theorem dL_law_633 : decode cL_law 633 = .ok (.iadd, 1) := by decide +kernel
theorem dL_law_634 : decode cL_law 634 = .ok (.iaload, 1) := by decide +kernel
theorem dL_law_635 : decode cL_law 635 = .ok (.aload_n 0, 1) := by decide +kernel
theorem dL_law_636 : decode cL_law 636 = .ok (.iload_n 3, 1) := by decide +kernel
theorem dL_law_637 : decode cL_law 637 = .ok (.iconst 2, 1) := by decide +kernel
theorem dL_law_638 : decode cL_law 638 = .ok (.iadd, 1) := by decide +kernel
theorem dL_law_639 : decode cL_law 639 = .ok (.iaload, 1) := by decide +kernel
theorem dL_law_640 : decode cL_law 640 = .ok (.aload_n 0, 1) := by decide +kernel
theorem dL_law_641 : decode cL_law 641 = .ok (.iload_n 3, 1) := by decide +kernel
theorem dL_law_642 : decode cL_law 642 = .ok (.iconst 3, 1) := by decide +kernel
theorem dL_law_643 : decode cL_law 643 = .ok (.iadd, 1) := by decide +kernel
theorem dL_law_644 : decode cL_law 644 = .ok (.iaload, 1) := by decide +kernel
theorem dL_law_645 : decode cL_law 645 = .ok (.invokevirtual 77, 3) := by decide +kernel
theorem dL_law_648 : decode cL_law 648 = .ok (.lcmp, 1) := by decide +kernel
theorem dL_law_649 : decode cL_law 649 = .ok (.ifCond .eq 699, 3) := by decide +kernel
theorem dL_law_652 : decode cL_law 652 = .ok (.iconst 0, 1) := by decide +kernel
theorem dL_law_653 : decode cL_law 653 = .ok (.ireturn, 1) := by decide +kernel
theorem dL_law_654 : decode cL_law 654 = .ok (.aload_n 1, 1) := by decide +kernel
theorem dL_law_655 : decode cL_law 655 = .ok (.aload_n 0, 1) := by decide +kernel
theorem dL_law_656 : decode cL_law 656 = .ok (.iload_n 3, 1) := by decide +kernel
theorem dL_law_657 : decode cL_law 657 = .ok (.iconst 1, 1) := by decide +kernel
theorem dL_law_658 : decode cL_law 658 = .ok (.iadd, 1) := by decide +kernel
theorem dL_law_659 : decode cL_law 659 = .ok (.iaload, 1) := by decide +kernel
theorem dL_law_660 : decode cL_law 660 = .ok (.aload_n 0, 1) := by decide +kernel
theorem dL_law_661 : decode cL_law 661 = .ok (.iload_n 3, 1) := by decide +kernel
theorem dL_law_662 : decode cL_law 662 = .ok (.iconst 2, 1) := by decide +kernel
theorem dL_law_663 : decode cL_law 663 = .ok (.iadd, 1) := by decide +kernel
theorem dL_law_664 : decode cL_law 664 = .ok (.iaload, 1) := by decide +kernel
theorem dL_law_665 : decode cL_law 665 = .ok (.invokevirtual 78, 3) := by decide +kernel
theorem dL_law_668 : decode cL_law 668 = .ok (.aload_n 2, 1) := by decide +kernel
theorem dL_law_669 : decode cL_law 669 = .ok (.aload_n 0, 1) := by decide +kernel
theorem dL_law_670 : decode cL_law 670 = .ok (.iload_n 3, 1) := by decide +kernel
theorem dL_law_671 : decode cL_law 671 = .ok (.iconst 1, 1) := by decide +kernel
theorem dL_law_672 : decode cL_law 672 = .ok (.iadd, 1) := by decide +kernel
theorem dL_law_673 : decode cL_law 673 = .ok (.iaload, 1) := by decide +kernel
theorem dL_law_674 : decode cL_law 674 = .ok (.aload_n 0, 1) := by decide +kernel
theorem dL_law_675 : decode cL_law 675 = .ok (.iload_n 3, 1) := by decide +kernel
theorem dL_law_676 : decode cL_law 676 = .ok (.iconst 2, 1) := by decide +kernel
theorem dL_law_677 : decode cL_law 677 = .ok (.iadd, 1) := by decide +kernel
theorem dL_law_678 : decode cL_law 678 = .ok (.iaload, 1) := by decide +kernel
theorem dL_law_679 : decode cL_law 679 = .ok (.invokevirtual 81, 3) := by decide +kernel
theorem dL_law_682 : decode cL_law 682 = .ok (.if_icmp .eq 666, 3) := by decide +kernel
theorem dL_law_685 : decode cL_law 685 = .ok (.iconst 0, 1) := by decide +kernel
theorem dL_law_686 : decode cL_law 686 = .ok (.ireturn, 1) := by decide +kernel
theorem dL_law_687 : decode cL_law 687 = .ok (.aload_n 1, 1) := by decide +kernel
theorem dL_law_688 : decode cL_law 688 = .ok (.aload_n 0, 1) := by decide +kernel
theorem dL_law_689 : decode cL_law 689 = .ok (.iload_n 3, 1) := by decide +kernel
theorem dL_law_690 : decode cL_law 690 = .ok (.iconst 1, 1) := by decide +kernel
theorem dL_law_691 : decode cL_law 691 = .ok (.iadd, 1) := by decide +kernel
theorem dL_law_692 : decode cL_law 692 = .ok (.iaload, 1) := by decide +kernel
theorem dL_law_693 : decode cL_law 693 = .ok (.aload_n 0, 1) := by decide +kernel
theorem dL_law_694 : decode cL_law 694 = .ok (.iload_n 3, 1) := by decide +kernel
theorem dL_law_695 : decode cL_law 695 = .ok (.iconst 2, 1) := by decide +kernel
theorem dL_law_696 : decode cL_law 696 = .ok (.iadd, 1) := by decide +kernel
theorem dL_law_697 : decode cL_law 697 = .ok (.iaload, 1) := by decide +kernel
theorem dL_law_698 : decode cL_law 698 = .ok (.aload_n 0, 1) := by decide +kernel
theorem dL_law_699 : decode cL_law 699 = .ok (.iload_n 3, 1) := by decide +kernel
theorem dL_law_700 : decode cL_law 700 = .ok (.iconst 3, 1) := by decide +kernel
theorem dL_law_701 : decode cL_law 701 = .ok (.iadd, 1) := by decide +kernel
theorem dL_law_702 : decode cL_law 702 = .ok (.iaload, 1) := by decide +kernel
theorem dL_law_703 : decode cL_law 703 = .ok (.aload_n 0, 1) := by decide +kernel
theorem dL_law_704 : decode cL_law 704 = .ok (.iload_n 3, 1) := by decide +kernel
theorem dL_law_705 : decode cL_law 705 = .ok (.iconst 4, 1) := by decide +kernel
theorem dL_law_706 : decode cL_law 706 = .ok (.iadd, 1) := by decide +kernel
theorem dL_law_707 : decode cL_law 707 = .ok (.iaload, 1) := by decide +kernel
theorem dL_law_708 : decode cL_law 708 = .ok (.invokevirtual 82, 3) := by decide +kernel
theorem dL_law_711 : decode cL_law 711 = .ok (.aload_n 2, 1) := by decide +kernel
theorem dL_law_712 : decode cL_law 712 = .ok (.aload_n 0, 1) := by decide +kernel
theorem dL_law_713 : decode cL_law 713 = .ok (.iload_n 3, 1) := by decide +kernel
theorem dL_law_714 : decode cL_law 714 = .ok (.iconst 1, 1) := by decide +kernel
theorem dL_law_715 : decode cL_law 715 = .ok (.iadd, 1) := by decide +kernel
theorem dL_law_716 : decode cL_law 716 = .ok (.iaload, 1) := by decide +kernel
theorem dL_law_717 : decode cL_law 717 = .ok (.aload_n 0, 1) := by decide +kernel
theorem dL_law_718 : decode cL_law 718 = .ok (.iload_n 3, 1) := by decide +kernel
theorem dL_law_719 : decode cL_law 719 = .ok (.iconst 2, 1) := by decide +kernel
theorem dL_law_720 : decode cL_law 720 = .ok (.iadd, 1) := by decide +kernel
theorem dL_law_721 : decode cL_law 721 = .ok (.iaload, 1) := by decide +kernel
theorem dL_law_722 : decode cL_law 722 = .ok (.aload_n 0, 1) := by decide +kernel
theorem dL_law_723 : decode cL_law 723 = .ok (.iload_n 3, 1) := by decide +kernel
theorem dL_law_724 : decode cL_law 724 = .ok (.iconst 3, 1) := by decide +kernel
theorem dL_law_725 : decode cL_law 725 = .ok (.iadd, 1) := by decide +kernel
theorem dL_law_726 : decode cL_law 726 = .ok (.iaload, 1) := by decide +kernel
theorem dL_law_727 : decode cL_law 727 = .ok (.aload_n 0, 1) := by decide +kernel
theorem dL_law_728 : decode cL_law 728 = .ok (.iload_n 3, 1) := by decide +kernel
theorem dL_law_729 : decode cL_law 729 = .ok (.iconst 4, 1) := by decide +kernel
theorem dL_law_730 : decode cL_law 730 = .ok (.iadd, 1) := by decide +kernel
theorem dL_law_731 : decode cL_law 731 = .ok (.iaload, 1) := by decide +kernel
theorem dL_law_732 : decode cL_law 732 = .ok (.invokevirtual 86, 3) := by decide +kernel
theorem dL_law_735 : decode cL_law 735 = .ok (.lcmp, 1) := by decide +kernel
theorem dL_law_736 : decode cL_law 736 = .ok (.ifCond .eq 612, 3) := by decide +kernel
theorem dL_law_739 : decode cL_law 739 = .ok (.iconst 0, 1) := by decide +kernel
theorem dL_law_740 : decode cL_law 740 = .ok (.ireturn, 1) := by decide +kernel
theorem dL_law_741 : decode cL_law 741 = .ok (.aload_n 1, 1) := by decide +kernel
theorem dL_law_742 : decode cL_law 742 = .ok (.aload_n 0, 1) := by decide +kernel
theorem dL_law_743 : decode cL_law 743 = .ok (.iload_n 3, 1) := by decide +kernel
theorem dL_law_744 : decode cL_law 744 = .ok (.iconst 1, 1) := by decide +kernel
theorem dL_law_745 : decode cL_law 745 = .ok (.iadd, 1) := by decide +kernel
theorem dL_law_746 : decode cL_law 746 = .ok (.iaload, 1) := by decide +kernel
theorem dL_law_747 : decode cL_law 747 = .ok (.aload_n 0, 1) := by decide +kernel
theorem dL_law_748 : decode cL_law 748 = .ok (.iload_n 3, 1) := by decide +kernel
theorem dL_law_749 : decode cL_law 749 = .ok (.iconst 2, 1) := by decide +kernel
theorem dL_law_750 : decode cL_law 750 = .ok (.iadd, 1) := by decide +kernel
theorem dL_law_751 : decode cL_law 751 = .ok (.iaload, 1) := by decide +kernel
theorem dL_law_752 : decode cL_law 752 = .ok (.aload_n 0, 1) := by decide +kernel
theorem dL_law_753 : decode cL_law 753 = .ok (.iload_n 3, 1) := by decide +kernel
theorem dL_law_754 : decode cL_law 754 = .ok (.iconst 3, 1) := by decide +kernel
theorem dL_law_755 : decode cL_law 755 = .ok (.iadd, 1) := by decide +kernel
theorem dL_law_756 : decode cL_law 756 = .ok (.iaload, 1) := by decide +kernel
theorem dL_law_757 : decode cL_law 757 = .ok (.invokevirtual 87, 3) := by decide +kernel
theorem dL_law_760 : decode cL_law 760 = .ok (.aload_n 2, 1) := by decide +kernel
theorem dL_law_761 : decode cL_law 761 = .ok (.aload_n 0, 1) := by decide +kernel
theorem dL_law_762 : decode cL_law 762 = .ok (.iload_n 3, 1) := by decide +kernel
theorem dL_law_763 : decode cL_law 763 = .ok (.iconst 1, 1) := by decide +kernel
theorem dL_law_764 : decode cL_law 764 = .ok (.iadd, 1) := by decide +kernel
theorem dL_law_765 : decode cL_law 765 = .ok (.iaload, 1) := by decide +kernel
theorem dL_law_766 : decode cL_law 766 = .ok (.aload_n 0, 1) := by decide +kernel
theorem dL_law_767 : decode cL_law 767 = .ok (.iload_n 3, 1) := by decide +kernel
theorem dL_law_768 : decode cL_law 768 = .ok (.iconst 2, 1) := by decide +kernel
theorem dL_law_769 : decode cL_law 769 = .ok (.iadd, 1) := by decide +kernel
theorem dL_law_770 : decode cL_law 770 = .ok (.iaload, 1) := by decide +kernel
theorem dL_law_771 : decode cL_law 771 = .ok (.aload_n 0, 1) := by decide +kernel
theorem dL_law_772 : decode cL_law 772 = .ok (.iload_n 3, 1) := by decide +kernel
theorem dL_law_773 : decode cL_law 773 = .ok (.iconst 3, 1) := by decide +kernel
theorem dL_law_774 : decode cL_law 774 = .ok (.iadd, 1) := by decide +kernel
theorem dL_law_775 : decode cL_law 775 = .ok (.iaload, 1) := by decide +kernel
theorem dL_law_776 : decode cL_law 776 = .ok (.invokevirtual 90, 3) := by decide +kernel
theorem dL_law_779 : decode cL_law 779 = .ok (.lcmp, 1) := by decide +kernel
theorem dL_law_780 : decode cL_law 780 = .ok (.ifCond .eq 568, 3) := by decide +kernel
theorem dL_law_783 : decode cL_law 783 = .ok (.iconst 0, 1) := by decide +kernel
theorem dL_law_784 : decode cL_law 784 = .ok (.ireturn, 1) := by decide +kernel
theorem dL_law_785 : decode cL_law 785 = .ok (.aload_n 1, 1) := by decide +kernel
theorem dL_law_786 : decode cL_law 786 = .ok (.aload_n 0, 1) := by decide +kernel
theorem dL_law_787 : decode cL_law 787 = .ok (.iload_n 3, 1) := by decide +kernel
theorem dL_law_788 : decode cL_law 788 = .ok (.iconst 1, 1) := by decide +kernel
theorem dL_law_789 : decode cL_law 789 = .ok (.iadd, 1) := by decide +kernel
theorem dL_law_790 : decode cL_law 790 = .ok (.iaload, 1) := by decide +kernel
theorem dL_law_791 : decode cL_law 791 = .ok (.aload_n 0, 1) := by decide +kernel
theorem dL_law_792 : decode cL_law 792 = .ok (.iload_n 3, 1) := by decide +kernel
theorem dL_law_793 : decode cL_law 793 = .ok (.iconst 2, 1) := by decide +kernel
theorem dL_law_794 : decode cL_law 794 = .ok (.iadd, 1) := by decide +kernel
theorem dL_law_795 : decode cL_law 795 = .ok (.iaload, 1) := by decide +kernel
theorem dL_law_796 : decode cL_law 796 = .ok (.invokevirtual 91, 3) := by decide +kernel
theorem dL_law_799 : decode cL_law 799 = .ok (.aload_n 2, 1) := by decide +kernel
theorem dL_law_800 : decode cL_law 800 = .ok (.aload_n 0, 1) := by decide +kernel
theorem dL_law_801 : decode cL_law 801 = .ok (.iload_n 3, 1) := by decide +kernel
theorem dL_law_802 : decode cL_law 802 = .ok (.iconst 1, 1) := by decide +kernel
theorem dL_law_803 : decode cL_law 803 = .ok (.iadd, 1) := by decide +kernel
theorem dL_law_804 : decode cL_law 804 = .ok (.iaload, 1) := by decide +kernel
theorem dL_law_805 : decode cL_law 805 = .ok (.aload_n 0, 1) := by decide +kernel
theorem dL_law_806 : decode cL_law 806 = .ok (.iload_n 3, 1) := by decide +kernel
theorem dL_law_807 : decode cL_law 807 = .ok (.iconst 2, 1) := by decide +kernel
theorem dL_law_808 : decode cL_law 808 = .ok (.iadd, 1) := by decide +kernel
theorem dL_law_809 : decode cL_law 809 = .ok (.iaload, 1) := by decide +kernel
theorem dL_law_810 : decode cL_law 810 = .ok (.invokevirtual 95, 3) := by decide +kernel
theorem dL_law_813 : decode cL_law 813 = .ok (.lcmp, 1) := by decide +kernel
theorem dL_law_814 : decode cL_law 814 = .ok (.ifCond .eq 534, 3) := by decide +kernel
theorem dL_law_817 : decode cL_law 817 = .ok (.iconst 0, 1) := by decide +kernel
theorem dL_law_818 : decode cL_law 818 = .ok (.ireturn, 1) := by decide +kernel
theorem dL_law_819 : decode cL_law 819 = .ok (.aload_n 1, 1) := by decide +kernel
theorem dL_law_820 : decode cL_law 820 = .ok (.aload_n 0, 1) := by decide +kernel
theorem dL_law_821 : decode cL_law 821 = .ok (.iload_n 3, 1) := by decide +kernel
theorem dL_law_822 : decode cL_law 822 = .ok (.iconst 1, 1) := by decide +kernel
theorem dL_law_823 : decode cL_law 823 = .ok (.iadd, 1) := by decide +kernel
theorem dL_law_824 : decode cL_law 824 = .ok (.iaload, 1) := by decide +kernel
theorem dL_law_825 : decode cL_law 825 = .ok (.aload_n 0, 1) := by decide +kernel
theorem dL_law_826 : decode cL_law 826 = .ok (.iload_n 3, 1) := by decide +kernel
theorem dL_law_827 : decode cL_law 827 = .ok (.iconst 2, 1) := by decide +kernel
theorem dL_law_828 : decode cL_law 828 = .ok (.iadd, 1) := by decide +kernel
theorem dL_law_829 : decode cL_law 829 = .ok (.iaload, 1) := by decide +kernel
theorem dL_law_830 : decode cL_law 830 = .ok (.aload_n 0, 1) := by decide +kernel
theorem dL_law_831 : decode cL_law 831 = .ok (.iload_n 3, 1) := by decide +kernel
theorem dL_law_832 : decode cL_law 832 = .ok (.iconst 3, 1) := by decide +kernel
theorem dL_law_833 : decode cL_law 833 = .ok (.iadd, 1) := by decide +kernel
theorem dL_law_834 : decode cL_law 834 = .ok (.iaload, 1) := by decide +kernel
theorem dL_law_835 : decode cL_law 835 = .ok (.invokevirtual 96, 3) := by decide +kernel
theorem dL_law_838 : decode cL_law 838 = .ok (.aload_n 2, 1) := by decide +kernel
theorem dL_law_839 : decode cL_law 839 = .ok (.aload_n 0, 1) := by decide +kernel
theorem dL_law_840 : decode cL_law 840 = .ok (.iload_n 3, 1) := by decide +kernel
theorem dL_law_841 : decode cL_law 841 = .ok (.iconst 1, 1) := by decide +kernel
theorem dL_law_842 : decode cL_law 842 = .ok (.iadd, 1) := by decide +kernel
theorem dL_law_843 : decode cL_law 843 = .ok (.iaload, 1) := by decide +kernel
theorem dL_law_844 : decode cL_law 844 = .ok (.aload_n 0, 1) := by decide +kernel
theorem dL_law_845 : decode cL_law 845 = .ok (.iload_n 3, 1) := by decide +kernel
theorem dL_law_846 : decode cL_law 846 = .ok (.iconst 2, 1) := by decide +kernel
theorem dL_law_847 : decode cL_law 847 = .ok (.iadd, 1) := by decide +kernel
theorem dL_law_848 : decode cL_law 848 = .ok (.iaload, 1) := by decide +kernel
theorem dL_law_849 : decode cL_law 849 = .ok (.aload_n 0, 1) := by decide +kernel
theorem dL_law_850 : decode cL_law 850 = .ok (.iload_n 3, 1) := by decide +kernel
theorem dL_law_851 : decode cL_law 851 = .ok (.iconst 3, 1) := by decide +kernel
theorem dL_law_852 : decode cL_law 852 = .ok (.iadd, 1) := by decide +kernel
theorem dL_law_853 : decode cL_law 853 = .ok (.iaload, 1) := by decide +kernel
theorem dL_law_854 : decode cL_law 854 = .ok (.invokevirtual 99, 3) := by decide +kernel
theorem dL_law_857 : decode cL_law 857 = .ok (.if_icmp .eq 491, 3) := by decide +kernel
theorem dL_law_860 : decode cL_law 860 = .ok (.iconst 0, 1) := by decide +kernel
theorem dL_law_861 : decode cL_law 861 = .ok (.ireturn, 1) := by decide +kernel
theorem dL_law_862 : decode cL_law 862 = .ok (.aload_n 1, 1) := by decide +kernel
theorem dL_law_863 : decode cL_law 863 = .ok (.aload_n 0, 1) := by decide +kernel
theorem dL_law_864 : decode cL_law 864 = .ok (.iload_n 3, 1) := by decide +kernel
theorem dL_law_865 : decode cL_law 865 = .ok (.iconst 1, 1) := by decide +kernel
theorem dL_law_866 : decode cL_law 866 = .ok (.iadd, 1) := by decide +kernel
theorem dL_law_867 : decode cL_law 867 = .ok (.iaload, 1) := by decide +kernel
theorem dL_law_868 : decode cL_law 868 = .ok (.aload_n 0, 1) := by decide +kernel
theorem dL_law_869 : decode cL_law 869 = .ok (.iload_n 3, 1) := by decide +kernel
theorem dL_law_870 : decode cL_law 870 = .ok (.iconst 2, 1) := by decide +kernel
theorem dL_law_871 : decode cL_law 871 = .ok (.iadd, 1) := by decide +kernel
theorem dL_law_872 : decode cL_law 872 = .ok (.iaload, 1) := by decide +kernel
theorem dL_law_873 : decode cL_law 873 = .ok (.aload_n 0, 1) := by decide +kernel
theorem dL_law_874 : decode cL_law 874 = .ok (.iload_n 3, 1) := by decide +kernel
theorem dL_law_875 : decode cL_law 875 = .ok (.iconst 3, 1) := by decide +kernel
theorem dL_law_876 : decode cL_law 876 = .ok (.iadd, 1) := by decide +kernel
theorem dL_law_877 : decode cL_law 877 = .ok (.iaload, 1) := by decide +kernel
theorem dL_law_878 : decode cL_law 878 = .ok (.invokevirtual 100, 3) := by decide +kernel
theorem dL_law_881 : decode cL_law 881 = .ok (.aload_n 2, 1) := by decide +kernel
theorem dL_law_882 : decode cL_law 882 = .ok (.aload_n 0, 1) := by decide +kernel
theorem dL_law_883 : decode cL_law 883 = .ok (.iload_n 3, 1) := by decide +kernel
theorem dL_law_884 : decode cL_law 884 = .ok (.iconst 1, 1) := by decide +kernel
theorem dL_law_885 : decode cL_law 885 = .ok (.iadd, 1) := by decide +kernel
theorem dL_law_886 : decode cL_law 886 = .ok (.iaload, 1) := by decide +kernel
theorem dL_law_887 : decode cL_law 887 = .ok (.aload_n 0, 1) := by decide +kernel
theorem dL_law_888 : decode cL_law 888 = .ok (.iload_n 3, 1) := by decide +kernel
theorem dL_law_889 : decode cL_law 889 = .ok (.iconst 2, 1) := by decide +kernel
theorem dL_law_890 : decode cL_law 890 = .ok (.iadd, 1) := by decide +kernel
theorem dL_law_891 : decode cL_law 891 = .ok (.iaload, 1) := by decide +kernel
theorem dL_law_892 : decode cL_law 892 = .ok (.aload_n 0, 1) := by decide +kernel
theorem dL_law_893 : decode cL_law 893 = .ok (.iload_n 3, 1) := by decide +kernel
theorem dL_law_894 : decode cL_law 894 = .ok (.iconst 3, 1) := by decide +kernel
theorem dL_law_895 : decode cL_law 895 = .ok (.iadd, 1) := by decide +kernel
theorem dL_law_896 : decode cL_law 896 = .ok (.iaload, 1) := by decide +kernel
theorem dL_law_897 : decode cL_law 897 = .ok (.invokevirtual 103, 3) := by decide +kernel
theorem dL_law_900 : decode cL_law 900 = .ok (.if_icmp .eq 448, 3) := by decide +kernel
theorem dL_law_903 : decode cL_law 903 = .ok (.iconst 0, 1) := by decide +kernel
theorem dL_law_904 : decode cL_law 904 = .ok (.ireturn, 1) := by decide +kernel
theorem dL_law_905 : decode cL_law 905 = .ok (.aload_n 1, 1) := by decide +kernel
theorem dL_law_906 : decode cL_law 906 = .ok (.invokevirtual 104, 3) := by decide +kernel
theorem dL_law_909 : decode cL_law 909 = .ok (.aload_n 2, 1) := by decide +kernel
theorem dL_law_910 : decode cL_law 910 = .ok (.invokevirtual 107, 3) := by decide +kernel
theorem dL_law_913 : decode cL_law 913 = .ok (.if_icmp .eq 435, 3) := by decide +kernel
theorem dL_law_916 : decode cL_law 916 = .ok (.iconst 0, 1) := by decide +kernel
theorem dL_law_917 : decode cL_law 917 = .ok (.ireturn, 1) := by decide +kernel
theorem dL_law_918 : decode cL_law 918 = .ok (.aload_n 1, 1) := by decide +kernel
theorem dL_law_919 : decode cL_law 919 = .ok (.invokevirtual 108, 3) := by decide +kernel
theorem dL_law_922 : decode cL_law 922 = .ok (.aload_n 2, 1) := by decide +kernel
theorem dL_law_923 : decode cL_law 923 = .ok (.invokevirtual 111, 3) := by decide +kernel
theorem dL_law_926 : decode cL_law 926 = .ok (.if_icmp .eq 422, 3) := by decide +kernel
theorem dL_law_929 : decode cL_law 929 = .ok (.iconst 0, 1) := by decide +kernel
theorem dL_law_930 : decode cL_law 930 = .ok (.ireturn, 1) := by decide +kernel
theorem dL_law_931 : decode cL_law 931 = .ok (.aload_n 1, 1) := by decide +kernel
theorem dL_law_932 : decode cL_law 932 = .ok (.invokevirtual 112, 3) := by decide +kernel
theorem dL_law_935 : decode cL_law 935 = .ok (.aload_n 2, 1) := by decide +kernel
theorem dL_law_936 : decode cL_law 936 = .ok (.invokevirtual 115, 3) := by decide +kernel
theorem dL_law_939 : decode cL_law 939 = .ok (.if_icmp .eq 409, 3) := by decide +kernel
theorem dL_law_942 : decode cL_law 942 = .ok (.iconst 0, 1) := by decide +kernel
theorem dL_law_943 : decode cL_law 943 = .ok (.ireturn, 1) := by decide +kernel
theorem dL_law_944 : decode cL_law 944 = .ok (.aload_n 1, 1) := by decide +kernel
theorem dL_law_945 : decode cL_law 945 = .ok (.invokevirtual 116, 3) := by decide +kernel
theorem dL_law_948 : decode cL_law 948 = .ok (.aload_n 2, 1) := by decide +kernel
theorem dL_law_949 : decode cL_law 949 = .ok (.invokevirtual 119, 3) := by decide +kernel
theorem dL_law_952 : decode cL_law 952 = .ok (.if_icmp .eq 396, 3) := by decide +kernel
theorem dL_law_955 : decode cL_law 955 = .ok (.iconst 0, 1) := by decide +kernel
theorem dL_law_956 : decode cL_law 956 = .ok (.ireturn, 1) := by decide +kernel
theorem dL_law_957 : decode cL_law 957 = .ok (.aload_n 1, 1) := by decide +kernel
theorem dL_law_958 : decode cL_law 958 = .ok (.aload_n 0, 1) := by decide +kernel
theorem dL_law_959 : decode cL_law 959 = .ok (.iload_n 3, 1) := by decide +kernel
theorem dL_law_960 : decode cL_law 960 = .ok (.iconst 1, 1) := by decide +kernel
theorem dL_law_961 : decode cL_law 961 = .ok (.iadd, 1) := by decide +kernel
theorem dL_law_962 : decode cL_law 962 = .ok (.iaload, 1) := by decide +kernel
theorem dL_law_963 : decode cL_law 963 = .ok (.invokevirtual 120, 3) := by decide +kernel
theorem dL_law_966 : decode cL_law 966 = .ok (.aload_n 2, 1) := by decide +kernel
theorem dL_law_967 : decode cL_law 967 = .ok (.aload_n 0, 1) := by decide +kernel
theorem dL_law_968 : decode cL_law 968 = .ok (.iload_n 3, 1) := by decide +kernel
theorem dL_law_969 : decode cL_law 969 = .ok (.iconst 1, 1) := by decide +kernel
theorem dL_law_970 : decode cL_law 970 = .ok (.iadd, 1) := by decide +kernel
theorem dL_law_971 : decode cL_law 971 = .ok (.iaload, 1) := by decide +kernel
theorem dL_law_972 : decode cL_law 972 = .ok (.invokevirtual 123, 3) := by decide +kernel
theorem dL_law_975 : decode cL_law 975 = .ok (.if_icmp .eq 373, 3) := by decide +kernel
theorem dL_law_978 : decode cL_law 978 = .ok (.iconst 0, 1) := by decide +kernel
theorem dL_law_979 : decode cL_law 979 = .ok (.ireturn, 1) := by decide +kernel
theorem dL_law_980 : decode cL_law 980 = .ok (.aload_n 1, 1) := by decide +kernel
theorem dL_law_981 : decode cL_law 981 = .ok (.aload_n 0, 1) := by decide +kernel
theorem dL_law_982 : decode cL_law 982 = .ok (.iload_n 3, 1) := by decide +kernel
theorem dL_law_983 : decode cL_law 983 = .ok (.iconst 1, 1) := by decide +kernel
theorem dL_law_984 : decode cL_law 984 = .ok (.iadd, 1) := by decide +kernel
theorem dL_law_985 : decode cL_law 985 = .ok (.iaload, 1) := by decide +kernel
theorem dL_law_986 : decode cL_law 986 = .ok (.aload_n 0, 1) := by decide +kernel
theorem dL_law_987 : decode cL_law 987 = .ok (.iload_n 3, 1) := by decide +kernel
theorem dL_law_988 : decode cL_law 988 = .ok (.iconst 2, 1) := by decide +kernel
theorem dL_law_989 : decode cL_law 989 = .ok (.iadd, 1) := by decide +kernel
theorem dL_law_990 : decode cL_law 990 = .ok (.iaload, 1) := by decide +kernel
theorem dL_law_991 : decode cL_law 991 = .ok (.aload_n 0, 1) := by decide +kernel
theorem dL_law_992 : decode cL_law 992 = .ok (.iload_n 3, 1) := by decide +kernel
theorem dL_law_993 : decode cL_law 993 = .ok (.iconst 3, 1) := by decide +kernel
theorem dL_law_994 : decode cL_law 994 = .ok (.iadd, 1) := by decide +kernel
theorem dL_law_995 : decode cL_law 995 = .ok (.iaload, 1) := by decide +kernel
theorem dL_law_996 : decode cL_law 996 = .ok (.invokevirtual 124, 3) := by decide +kernel
theorem dL_law_999 : decode cL_law 999 = .ok (.aload_n 2, 1) := by decide +kernel
theorem dL_law_1000 : decode cL_law 1000 = .ok (.aload_n 0, 1) := by decide +kernel
theorem dL_law_1001 : decode cL_law 1001 = .ok (.iload_n 3, 1) := by decide +kernel
theorem dL_law_1002 : decode cL_law 1002 = .ok (.iconst 1, 1) := by decide +kernel
theorem dL_law_1003 : decode cL_law 1003 = .ok (.iadd, 1) := by decide +kernel
theorem dL_law_1004 : decode cL_law 1004 = .ok (.iaload, 1) := by decide +kernel
theorem dL_law_1005 : decode cL_law 1005 = .ok (.aload_n 0, 1) := by decide +kernel
theorem dL_law_1006 : decode cL_law 1006 = .ok (.iload_n 3, 1) := by decide +kernel
theorem dL_law_1007 : decode cL_law 1007 = .ok (.iconst 2, 1) := by decide +kernel
theorem dL_law_1008 : decode cL_law 1008 = .ok (.iadd, 1) := by decide +kernel
theorem dL_law_1009 : decode cL_law 1009 = .ok (.iaload, 1) := by decide +kernel
theorem dL_law_1010 : decode cL_law 1010 = .ok (.aload_n 0, 1) := by decide +kernel
theorem dL_law_1011 : decode cL_law 1011 = .ok (.iload_n 3, 1) := by decide +kernel
theorem dL_law_1012 : decode cL_law 1012 = .ok (.iconst 3, 1) := by decide +kernel
theorem dL_law_1013 : decode cL_law 1013 = .ok (.iadd, 1) := by decide +kernel
theorem dL_law_1014 : decode cL_law 1014 = .ok (.iaload, 1) := by decide +kernel
theorem dL_law_1015 : decode cL_law 1015 = .ok (.invokevirtual 127, 3) := by decide +kernel
theorem dL_law_1018 : decode cL_law 1018 = .ok (.if_icmp .eq 330, 3) := by decide +kernel
theorem dL_law_1021 : decode cL_law 1021 = .ok (.iconst 0, 1) := by decide +kernel
theorem dL_law_1022 : decode cL_law 1022 = .ok (.ireturn, 1) := by decide +kernel
theorem dL_law_1023 : decode cL_law 1023 = .ok (.aload_n 1, 1) := by decide +kernel
theorem dL_law_1024 : decode cL_law 1024 = .ok (.aload_n 0, 1) := by decide +kernel
theorem dL_law_1025 : decode cL_law 1025 = .ok (.iload_n 3, 1) := by decide +kernel
theorem dL_law_1026 : decode cL_law 1026 = .ok (.iconst 1, 1) := by decide +kernel
theorem dL_law_1027 : decode cL_law 1027 = .ok (.iadd, 1) := by decide +kernel
theorem dL_law_1028 : decode cL_law 1028 = .ok (.iaload, 1) := by decide +kernel
theorem dL_law_1029 : decode cL_law 1029 = .ok (.invokevirtual 128, 3) := by decide +kernel
theorem dL_law_1032 : decode cL_law 1032 = .ok (.aload_n 2, 1) := by decide +kernel
theorem dL_law_1033 : decode cL_law 1033 = .ok (.aload_n 0, 1) := by decide +kernel
theorem dL_law_1034 : decode cL_law 1034 = .ok (.iload_n 3, 1) := by decide +kernel
theorem dL_law_1035 : decode cL_law 1035 = .ok (.iconst 1, 1) := by decide +kernel
theorem dL_law_1036 : decode cL_law 1036 = .ok (.iadd, 1) := by decide +kernel
theorem dL_law_1037 : decode cL_law 1037 = .ok (.iaload, 1) := by decide +kernel
theorem dL_law_1038 : decode cL_law 1038 = .ok (.invokevirtual 131, 3) := by decide +kernel
theorem dL_law_1041 : decode cL_law 1041 = .ok (.if_icmp .eq 307, 3) := by decide +kernel
theorem dL_law_1044 : decode cL_law 1044 = .ok (.iconst 0, 1) := by decide +kernel
theorem dL_law_1045 : decode cL_law 1045 = .ok (.ireturn, 1) := by decide +kernel
theorem dL_law_1046 : decode cL_law 1046 = .ok (.aload_n 1, 1) := by decide +kernel
theorem dL_law_1047 : decode cL_law 1047 = .ok (.aload_n 0, 1) := by decide +kernel
theorem dL_law_1048 : decode cL_law 1048 = .ok (.iload_n 3, 1) := by decide +kernel
theorem dL_law_1049 : decode cL_law 1049 = .ok (.iconst 1, 1) := by decide +kernel
theorem dL_law_1050 : decode cL_law 1050 = .ok (.iadd, 1) := by decide +kernel
theorem dL_law_1051 : decode cL_law 1051 = .ok (.iaload, 1) := by decide +kernel
theorem dL_law_1052 : decode cL_law 1052 = .ok (.aload_n 0, 1) := by decide +kernel
theorem dL_law_1053 : decode cL_law 1053 = .ok (.iload_n 3, 1) := by decide +kernel
theorem dL_law_1054 : decode cL_law 1054 = .ok (.iconst 2, 1) := by decide +kernel
theorem dL_law_1055 : decode cL_law 1055 = .ok (.iadd, 1) := by decide +kernel
theorem dL_law_1056 : decode cL_law 1056 = .ok (.iaload, 1) := by decide +kernel
theorem dL_law_1057 : decode cL_law 1057 = .ok (.invokevirtual 132, 3) := by decide +kernel
theorem dL_law_1060 : decode cL_law 1060 = .ok (.aload_n 2, 1) := by decide +kernel
theorem dL_law_1061 : decode cL_law 1061 = .ok (.aload_n 0, 1) := by decide +kernel
theorem dL_law_1062 : decode cL_law 1062 = .ok (.iload_n 3, 1) := by decide +kernel
theorem dL_law_1063 : decode cL_law 1063 = .ok (.iconst 1, 1) := by decide +kernel
theorem dL_law_1064 : decode cL_law 1064 = .ok (.iadd, 1) := by decide +kernel
theorem dL_law_1065 : decode cL_law 1065 = .ok (.iaload, 1) := by decide +kernel
theorem dL_law_1066 : decode cL_law 1066 = .ok (.aload_n 0, 1) := by decide +kernel
theorem dL_law_1067 : decode cL_law 1067 = .ok (.iload_n 3, 1) := by decide +kernel
theorem dL_law_1068 : decode cL_law 1068 = .ok (.iconst 2, 1) := by decide +kernel
theorem dL_law_1069 : decode cL_law 1069 = .ok (.iadd, 1) := by decide +kernel
theorem dL_law_1070 : decode cL_law 1070 = .ok (.iaload, 1) := by decide +kernel
theorem dL_law_1071 : decode cL_law 1071 = .ok (.invokevirtual 135, 3) := by decide +kernel
theorem dL_law_1074 : decode cL_law 1074 = .ok (.if_icmp .eq 274, 3) := by decide +kernel
theorem dL_law_1077 : decode cL_law 1077 = .ok (.iconst 0, 1) := by decide +kernel
theorem dL_law_1078 : decode cL_law 1078 = .ok (.ireturn, 1) := by decide +kernel
theorem dL_law_1079 : decode cL_law 1079 = .ok (.aload_n 1, 1) := by decide +kernel
theorem dL_law_1080 : decode cL_law 1080 = .ok (.aload_n 0, 1) := by decide +kernel
theorem dL_law_1081 : decode cL_law 1081 = .ok (.iload_n 3, 1) := by decide +kernel
theorem dL_law_1082 : decode cL_law 1082 = .ok (.iconst 1, 1) := by decide +kernel
theorem dL_law_1083 : decode cL_law 1083 = .ok (.iadd, 1) := by decide +kernel
theorem dL_law_1084 : decode cL_law 1084 = .ok (.iaload, 1) := by decide +kernel
theorem dL_law_1085 : decode cL_law 1085 = .ok (.aload_n 0, 1) := by decide +kernel
theorem dL_law_1086 : decode cL_law 1086 = .ok (.iload_n 3, 1) := by decide +kernel
theorem dL_law_1087 : decode cL_law 1087 = .ok (.iconst 2, 1) := by decide +kernel
theorem dL_law_1088 : decode cL_law 1088 = .ok (.iadd, 1) := by decide +kernel
theorem dL_law_1089 : decode cL_law 1089 = .ok (.iaload, 1) := by decide +kernel
theorem dL_law_1090 : decode cL_law 1090 = .ok (.aload_n 0, 1) := by decide +kernel
theorem dL_law_1091 : decode cL_law 1091 = .ok (.iload_n 3, 1) := by decide +kernel
theorem dL_law_1092 : decode cL_law 1092 = .ok (.iconst 3, 1) := by decide +kernel
theorem dL_law_1093 : decode cL_law 1093 = .ok (.iadd, 1) := by decide +kernel
theorem dL_law_1094 : decode cL_law 1094 = .ok (.iaload, 1) := by decide +kernel
theorem dL_law_1095 : decode cL_law 1095 = .ok (.invokevirtual 136, 3) := by decide +kernel
theorem dL_law_1098 : decode cL_law 1098 = .ok (.aload_n 2, 1) := by decide +kernel
theorem dL_law_1099 : decode cL_law 1099 = .ok (.aload_n 0, 1) := by decide +kernel
theorem dL_law_1100 : decode cL_law 1100 = .ok (.iload_n 3, 1) := by decide +kernel
theorem dL_law_1101 : decode cL_law 1101 = .ok (.iconst 1, 1) := by decide +kernel
theorem dL_law_1102 : decode cL_law 1102 = .ok (.iadd, 1) := by decide +kernel
theorem dL_law_1103 : decode cL_law 1103 = .ok (.iaload, 1) := by decide +kernel
theorem dL_law_1104 : decode cL_law 1104 = .ok (.aload_n 0, 1) := by decide +kernel
theorem dL_law_1105 : decode cL_law 1105 = .ok (.iload_n 3, 1) := by decide +kernel
theorem dL_law_1106 : decode cL_law 1106 = .ok (.iconst 2, 1) := by decide +kernel
theorem dL_law_1107 : decode cL_law 1107 = .ok (.iadd, 1) := by decide +kernel
theorem dL_law_1108 : decode cL_law 1108 = .ok (.iaload, 1) := by decide +kernel
theorem dL_law_1109 : decode cL_law 1109 = .ok (.aload_n 0, 1) := by decide +kernel
theorem dL_law_1110 : decode cL_law 1110 = .ok (.iload_n 3, 1) := by decide +kernel
theorem dL_law_1111 : decode cL_law 1111 = .ok (.iconst 3, 1) := by decide +kernel
theorem dL_law_1112 : decode cL_law 1112 = .ok (.iadd, 1) := by decide +kernel
theorem dL_law_1113 : decode cL_law 1113 = .ok (.iaload, 1) := by decide +kernel
theorem dL_law_1114 : decode cL_law 1114 = .ok (.invokevirtual 139, 3) := by decide +kernel
theorem dL_law_1117 : decode cL_law 1117 = .ok (.if_icmp .eq 231, 3) := by decide +kernel
theorem dL_law_1120 : decode cL_law 1120 = .ok (.iconst 0, 1) := by decide +kernel
theorem dL_law_1121 : decode cL_law 1121 = .ok (.ireturn, 1) := by decide +kernel
theorem dL_law_1122 : decode cL_law 1122 = .ok (.aload_n 1, 1) := by decide +kernel
theorem dL_law_1123 : decode cL_law 1123 = .ok (.aload_n 0, 1) := by decide +kernel
theorem dL_law_1124 : decode cL_law 1124 = .ok (.iload_n 3, 1) := by decide +kernel
theorem dL_law_1125 : decode cL_law 1125 = .ok (.iconst 1, 1) := by decide +kernel
theorem dL_law_1126 : decode cL_law 1126 = .ok (.iadd, 1) := by decide +kernel
theorem dL_law_1127 : decode cL_law 1127 = .ok (.iaload, 1) := by decide +kernel
theorem dL_law_1128 : decode cL_law 1128 = .ok (.aload_n 0, 1) := by decide +kernel
theorem dL_law_1129 : decode cL_law 1129 = .ok (.iload_n 3, 1) := by decide +kernel
theorem dL_law_1130 : decode cL_law 1130 = .ok (.iconst 2, 1) := by decide +kernel
theorem dL_law_1131 : decode cL_law 1131 = .ok (.iadd, 1) := by decide +kernel
theorem dL_law_1132 : decode cL_law 1132 = .ok (.iaload, 1) := by decide +kernel
theorem dL_law_1133 : decode cL_law 1133 = .ok (.aload_n 0, 1) := by decide +kernel
theorem dL_law_1134 : decode cL_law 1134 = .ok (.iload_n 3, 1) := by decide +kernel
theorem dL_law_1135 : decode cL_law 1135 = .ok (.iconst 3, 1) := by decide +kernel
theorem dL_law_1136 : decode cL_law 1136 = .ok (.iadd, 1) := by decide +kernel
theorem dL_law_1137 : decode cL_law 1137 = .ok (.iaload, 1) := by decide +kernel
theorem dL_law_1138 : decode cL_law 1138 = .ok (.i2l, 1) := by decide +kernel
theorem dL_law_1139 : decode cL_law 1139 = .ok (.bipush 32, 2) := by decide +kernel
theorem dL_law_1141 : decode cL_law 1141 = .ok (.lshl, 1) := by decide +kernel
theorem dL_law_1142 : decode cL_law 1142 = .ok (.aload_n 0, 1) := by decide +kernel
theorem dL_law_1143 : decode cL_law 1143 = .ok (.iload_n 3, 1) := by decide +kernel
theorem dL_law_1144 : decode cL_law 1144 = .ok (.iconst 4, 1) := by decide +kernel
theorem dL_law_1145 : decode cL_law 1145 = .ok (.iadd, 1) := by decide +kernel
theorem dL_law_1146 : decode cL_law 1146 = .ok (.iaload, 1) := by decide +kernel
theorem dL_law_1147 : decode cL_law 1147 = .ok (.i2l, 1) := by decide +kernel
theorem dL_law_1148 : decode cL_law 1148 = .ok (.ldc2_w 140, 3) := by decide +kernel
theorem dL_law_1151 : decode cL_law 1151 = .ok (.land, 1) := by decide +kernel
theorem dL_law_1152 : decode cL_law 1152 = .ok (.lor, 1) := by decide +kernel
theorem dL_law_1153 : decode cL_law 1153 = .ok (.invokevirtual 142, 3) := by decide +kernel
theorem dL_law_1156 : decode cL_law 1156 = .ok (.aload_n 2, 1) := by decide +kernel
theorem dL_law_1157 : decode cL_law 1157 = .ok (.aload_n 0, 1) := by decide +kernel
theorem dL_law_1158 : decode cL_law 1158 = .ok (.iload_n 3, 1) := by decide +kernel
theorem dL_law_1159 : decode cL_law 1159 = .ok (.iconst 1, 1) := by decide +kernel
theorem dL_law_1160 : decode cL_law 1160 = .ok (.iadd, 1) := by decide +kernel
theorem dL_law_1161 : decode cL_law 1161 = .ok (.iaload, 1) := by decide +kernel
theorem dL_law_1162 : decode cL_law 1162 = .ok (.aload_n 0, 1) := by decide +kernel
theorem dL_law_1163 : decode cL_law 1163 = .ok (.iload_n 3, 1) := by decide +kernel
theorem dL_law_1164 : decode cL_law 1164 = .ok (.iconst 2, 1) := by decide +kernel
theorem dL_law_1165 : decode cL_law 1165 = .ok (.iadd, 1) := by decide +kernel
theorem dL_law_1166 : decode cL_law 1166 = .ok (.iaload, 1) := by decide +kernel
theorem dL_law_1167 : decode cL_law 1167 = .ok (.aload_n 0, 1) := by decide +kernel
theorem dL_law_1168 : decode cL_law 1168 = .ok (.iload_n 3, 1) := by decide +kernel
theorem dL_law_1169 : decode cL_law 1169 = .ok (.iconst 3, 1) := by decide +kernel
theorem dL_law_1170 : decode cL_law 1170 = .ok (.iadd, 1) := by decide +kernel
theorem dL_law_1171 : decode cL_law 1171 = .ok (.iaload, 1) := by decide +kernel
theorem dL_law_1172 : decode cL_law 1172 = .ok (.i2l, 1) := by decide +kernel
theorem dL_law_1173 : decode cL_law 1173 = .ok (.bipush 32, 2) := by decide +kernel
theorem dL_law_1175 : decode cL_law 1175 = .ok (.lshl, 1) := by decide +kernel
theorem dL_law_1176 : decode cL_law 1176 = .ok (.aload_n 0, 1) := by decide +kernel
theorem dL_law_1177 : decode cL_law 1177 = .ok (.iload_n 3, 1) := by decide +kernel
theorem dL_law_1178 : decode cL_law 1178 = .ok (.iconst 4, 1) := by decide +kernel
theorem dL_law_1179 : decode cL_law 1179 = .ok (.iadd, 1) := by decide +kernel
theorem dL_law_1180 : decode cL_law 1180 = .ok (.iaload, 1) := by decide +kernel
theorem dL_law_1181 : decode cL_law 1181 = .ok (.i2l, 1) := by decide +kernel
theorem dL_law_1182 : decode cL_law 1182 = .ok (.ldc2_w 140, 3) := by decide +kernel
theorem dL_law_1185 : decode cL_law 1185 = .ok (.land, 1) := by decide +kernel
theorem dL_law_1186 : decode cL_law 1186 = .ok (.lor, 1) := by decide +kernel
theorem dL_law_1187 : decode cL_law 1187 = .ok (.invokevirtual 146, 3) := by decide +kernel
theorem dL_law_1190 : decode cL_law 1190 = .ok (.if_icmp .eq 158, 3) := by decide +kernel
theorem dL_law_1193 : decode cL_law 1193 = .ok (.iconst 0, 1) := by decide +kernel
theorem dL_law_1194 : decode cL_law 1194 = .ok (.ireturn, 1) := by decide +kernel
theorem dL_law_1195 : decode cL_law 1195 = .ok (.aload_n 1, 1) := by decide +kernel
theorem dL_law_1196 : decode cL_law 1196 = .ok (.aload_n 0, 1) := by decide +kernel
theorem dL_law_1197 : decode cL_law 1197 = .ok (.iload_n 3, 1) := by decide +kernel
theorem dL_law_1198 : decode cL_law 1198 = .ok (.iconst 1, 1) := by decide +kernel
theorem dL_law_1199 : decode cL_law 1199 = .ok (.iadd, 1) := by decide +kernel
theorem dL_law_1200 : decode cL_law 1200 = .ok (.iaload, 1) := by decide +kernel
theorem dL_law_1201 : decode cL_law 1201 = .ok (.aload_n 0, 1) := by decide +kernel
theorem dL_law_1202 : decode cL_law 1202 = .ok (.iload_n 3, 1) := by decide +kernel
theorem dL_law_1203 : decode cL_law 1203 = .ok (.iconst 2, 1) := by decide +kernel
theorem dL_law_1204 : decode cL_law 1204 = .ok (.iadd, 1) := by decide +kernel
theorem dL_law_1205 : decode cL_law 1205 = .ok (.iaload, 1) := by decide +kernel
theorem dL_law_1206 : decode cL_law 1206 = .ok (.invokevirtual 147, 3) := by decide +kernel
theorem dL_law_1209 : decode cL_law 1209 = .ok (.aload_n 2, 1) := by decide +kernel
theorem dL_law_1210 : decode cL_law 1210 = .ok (.aload_n 0, 1) := by decide +kernel
theorem dL_law_1211 : decode cL_law 1211 = .ok (.iload_n 3, 1) := by decide +kernel
theorem dL_law_1212 : decode cL_law 1212 = .ok (.iconst 1, 1) := by decide +kernel
theorem dL_law_1213 : decode cL_law 1213 = .ok (.iadd, 1) := by decide +kernel
theorem dL_law_1214 : decode cL_law 1214 = .ok (.iaload, 1) := by decide +kernel
theorem dL_law_1215 : decode cL_law 1215 = .ok (.aload_n 0, 1) := by decide +kernel
theorem dL_law_1216 : decode cL_law 1216 = .ok (.iload_n 3, 1) := by decide +kernel
theorem dL_law_1217 : decode cL_law 1217 = .ok (.iconst 2, 1) := by decide +kernel
theorem dL_law_1218 : decode cL_law 1218 = .ok (.iadd, 1) := by decide +kernel
theorem dL_law_1219 : decode cL_law 1219 = .ok (.iaload, 1) := by decide +kernel
theorem dL_law_1220 : decode cL_law 1220 = .ok (.invokevirtual 150, 3) := by decide +kernel
theorem dL_law_1223 : decode cL_law 1223 = .ok (.lcmp, 1) := by decide +kernel
theorem dL_law_1224 : decode cL_law 1224 = .ok (.ifCond .eq 124, 3) := by decide +kernel
theorem dL_law_1227 : decode cL_law 1227 = .ok (.iconst 0, 1) := by decide +kernel
theorem dL_law_1228 : decode cL_law 1228 = .ok (.ireturn, 1) := by decide +kernel
theorem dL_law_1229 : decode cL_law 1229 = .ok (.aload_n 1, 1) := by decide +kernel
theorem dL_law_1230 : decode cL_law 1230 = .ok (.aload_n 0, 1) := by decide +kernel
theorem dL_law_1231 : decode cL_law 1231 = .ok (.iload_n 3, 1) := by decide +kernel
theorem dL_law_1232 : decode cL_law 1232 = .ok (.iconst 1, 1) := by decide +kernel
theorem dL_law_1233 : decode cL_law 1233 = .ok (.iadd, 1) := by decide +kernel
theorem dL_law_1234 : decode cL_law 1234 = .ok (.iaload, 1) := by decide +kernel
theorem dL_law_1235 : decode cL_law 1235 = .ok (.aload_n 0, 1) := by decide +kernel
theorem dL_law_1236 : decode cL_law 1236 = .ok (.iload_n 3, 1) := by decide +kernel
theorem dL_law_1237 : decode cL_law 1237 = .ok (.iconst 2, 1) := by decide +kernel
theorem dL_law_1238 : decode cL_law 1238 = .ok (.iadd, 1) := by decide +kernel
theorem dL_law_1239 : decode cL_law 1239 = .ok (.iaload, 1) := by decide +kernel
theorem dL_law_1240 : decode cL_law 1240 = .ok (.aload_n 0, 1) := by decide +kernel
theorem dL_law_1241 : decode cL_law 1241 = .ok (.iload_n 3, 1) := by decide +kernel
theorem dL_law_1242 : decode cL_law 1242 = .ok (.iconst 3, 1) := by decide +kernel
theorem dL_law_1243 : decode cL_law 1243 = .ok (.iadd, 1) := by decide +kernel
theorem dL_law_1244 : decode cL_law 1244 = .ok (.iaload, 1) := by decide +kernel
theorem dL_law_1245 : decode cL_law 1245 = .ok (.aload_n 0, 1) := by decide +kernel
theorem dL_law_1246 : decode cL_law 1246 = .ok (.iload_n 3, 1) := by decide +kernel
theorem dL_law_1247 : decode cL_law 1247 = .ok (.iconst 4, 1) := by decide +kernel
theorem dL_law_1248 : decode cL_law 1248 = .ok (.iadd, 1) := by decide +kernel
theorem dL_law_1249 : decode cL_law 1249 = .ok (.iaload, 1) := by decide +kernel
theorem dL_law_1250 : decode cL_law 1250 = .ok (.aload_n 0, 1) := by decide +kernel
theorem dL_law_1251 : decode cL_law 1251 = .ok (.iload_n 3, 1) := by decide +kernel
theorem dL_law_1252 : decode cL_law 1252 = .ok (.iconst 5, 1) := by decide +kernel
theorem dL_law_1253 : decode cL_law 1253 = .ok (.iadd, 1) := by decide +kernel
theorem dL_law_1254 : decode cL_law 1254 = .ok (.iaload, 1) := by decide +kernel
theorem dL_law_1255 : decode cL_law 1255 = .ok (.invokevirtual 151, 3) := by decide +kernel
theorem dL_law_1258 : decode cL_law 1258 = .ok (.aload_n 2, 1) := by decide +kernel
theorem dL_law_1259 : decode cL_law 1259 = .ok (.aload_n 0, 1) := by decide +kernel
theorem dL_law_1260 : decode cL_law 1260 = .ok (.iload_n 3, 1) := by decide +kernel
theorem dL_law_1261 : decode cL_law 1261 = .ok (.iconst 1, 1) := by decide +kernel
theorem dL_law_1262 : decode cL_law 1262 = .ok (.iadd, 1) := by decide +kernel
theorem dL_law_1263 : decode cL_law 1263 = .ok (.iaload, 1) := by decide +kernel
theorem dL_law_1264 : decode cL_law 1264 = .ok (.aload_n 0, 1) := by decide +kernel
theorem dL_law_1265 : decode cL_law 1265 = .ok (.iload_n 3, 1) := by decide +kernel
theorem dL_law_1266 : decode cL_law 1266 = .ok (.iconst 2, 1) := by decide +kernel
theorem dL_law_1267 : decode cL_law 1267 = .ok (.iadd, 1) := by decide +kernel
theorem dL_law_1268 : decode cL_law 1268 = .ok (.iaload, 1) := by decide +kernel
theorem dL_law_1269 : decode cL_law 1269 = .ok (.aload_n 0, 1) := by decide +kernel
theorem dL_law_1270 : decode cL_law 1270 = .ok (.iload_n 3, 1) := by decide +kernel
theorem dL_law_1271 : decode cL_law 1271 = .ok (.iconst 3, 1) := by decide +kernel
theorem dL_law_1272 : decode cL_law 1272 = .ok (.iadd, 1) := by decide +kernel
theorem dL_law_1273 : decode cL_law 1273 = .ok (.iaload, 1) := by decide +kernel
theorem dL_law_1274 : decode cL_law 1274 = .ok (.aload_n 0, 1) := by decide +kernel
theorem dL_law_1275 : decode cL_law 1275 = .ok (.iload_n 3, 1) := by decide +kernel
theorem dL_law_1276 : decode cL_law 1276 = .ok (.iconst 4, 1) := by decide +kernel
theorem dL_law_1277 : decode cL_law 1277 = .ok (.iadd, 1) := by decide +kernel
theorem dL_law_1278 : decode cL_law 1278 = .ok (.iaload, 1) := by decide +kernel
theorem dL_law_1279 : decode cL_law 1279 = .ok (.aload_n 0, 1) := by decide +kernel
theorem dL_law_1280 : decode cL_law 1280 = .ok (.iload_n 3, 1) := by decide +kernel
theorem dL_law_1281 : decode cL_law 1281 = .ok (.iconst 5, 1) := by decide +kernel
theorem dL_law_1282 : decode cL_law 1282 = .ok (.iadd, 1) := by decide +kernel
theorem dL_law_1283 : decode cL_law 1283 = .ok (.iaload, 1) := by decide +kernel
theorem dL_law_1284 : decode cL_law 1284 = .ok (.invokevirtual 155, 3) := by decide +kernel
theorem dL_law_1287 : decode cL_law 1287 = .ok (.if_icmp .eq 61, 3) := by decide +kernel
theorem dL_law_1290 : decode cL_law 1290 = .ok (.iconst 0, 1) := by decide +kernel
theorem dL_law_1291 : decode cL_law 1291 = .ok (.ireturn, 1) := by decide +kernel
theorem dL_law_1292 : decode cL_law 1292 = .ok (.aload_n 1, 1) := by decide +kernel
theorem dL_law_1293 : decode cL_law 1293 = .ok (.aload_n 0, 1) := by decide +kernel
theorem dL_law_1294 : decode cL_law 1294 = .ok (.iload_n 3, 1) := by decide +kernel
theorem dL_law_1295 : decode cL_law 1295 = .ok (.iconst 1, 1) := by decide +kernel
theorem dL_law_1296 : decode cL_law 1296 = .ok (.iadd, 1) := by decide +kernel
theorem dL_law_1297 : decode cL_law 1297 = .ok (.iaload, 1) := by decide +kernel
theorem dL_law_1298 : decode cL_law 1298 = .ok (.aload_n 0, 1) := by decide +kernel
theorem dL_law_1299 : decode cL_law 1299 = .ok (.iload_n 3, 1) := by decide +kernel
theorem dL_law_1300 : decode cL_law 1300 = .ok (.iconst 2, 1) := by decide +kernel
theorem dL_law_1301 : decode cL_law 1301 = .ok (.iadd, 1) := by decide +kernel
theorem dL_law_1302 : decode cL_law 1302 = .ok (.iaload, 1) := by decide +kernel
theorem dL_law_1303 : decode cL_law 1303 = .ok (.invokevirtual 156, 3) := by decide +kernel
theorem dL_law_1306 : decode cL_law 1306 = .ok (.aload_n 2, 1) := by decide +kernel
theorem dL_law_1307 : decode cL_law 1307 = .ok (.aload_n 0, 1) := by decide +kernel
theorem dL_law_1308 : decode cL_law 1308 = .ok (.iload_n 3, 1) := by decide +kernel
theorem dL_law_1309 : decode cL_law 1309 = .ok (.iconst 1, 1) := by decide +kernel
theorem dL_law_1310 : decode cL_law 1310 = .ok (.iadd, 1) := by decide +kernel
theorem dL_law_1311 : decode cL_law 1311 = .ok (.iaload, 1) := by decide +kernel
theorem dL_law_1312 : decode cL_law 1312 = .ok (.aload_n 0, 1) := by decide +kernel
theorem dL_law_1313 : decode cL_law 1313 = .ok (.iload_n 3, 1) := by decide +kernel
theorem dL_law_1314 : decode cL_law 1314 = .ok (.iconst 2, 1) := by decide +kernel
theorem dL_law_1315 : decode cL_law 1315 = .ok (.iadd, 1) := by decide +kernel
theorem dL_law_1316 : decode cL_law 1316 = .ok (.iaload, 1) := by decide +kernel
theorem dL_law_1317 : decode cL_law 1317 = .ok (.invokevirtual 159, 3) := by decide +kernel
theorem dL_law_1320 : decode cL_law 1320 = .ok (.if_icmp .eq 28, 3) := by decide +kernel
theorem dL_law_1323 : decode cL_law 1323 = .ok (.iconst 0, 1) := by decide +kernel
theorem dL_law_1324 : decode cL_law 1324 = .ok (.ireturn, 1) := by decide +kernel
theorem dL_law_1325 : decode cL_law 1325 = .ok (.aload_n 1, 1) := by decide +kernel
theorem dL_law_1326 : decode cL_law 1326 = .ok (.aload_n 0, 1) := by decide +kernel
theorem dL_law_1327 : decode cL_law 1327 = .ok (.iload_n 3, 1) := by decide +kernel
theorem dL_law_1328 : decode cL_law 1328 = .ok (.iconst 1, 1) := by decide +kernel
theorem dL_law_1329 : decode cL_law 1329 = .ok (.iadd, 1) := by decide +kernel
theorem dL_law_1330 : decode cL_law 1330 = .ok (.iaload, 1) := by decide +kernel
theorem dL_law_1331 : decode cL_law 1331 = .ok (.invokevirtual 160, 3) := by decide +kernel
theorem dL_law_1334 : decode cL_law 1334 = .ok (.aload_n 2, 1) := by decide +kernel
theorem dL_law_1335 : decode cL_law 1335 = .ok (.aload_n 0, 1) := by decide +kernel
theorem dL_law_1336 : decode cL_law 1336 = .ok (.iload_n 3, 1) := by decide +kernel
theorem dL_law_1337 : decode cL_law 1337 = .ok (.iconst 1, 1) := by decide +kernel
theorem dL_law_1338 : decode cL_law 1338 = .ok (.iadd, 1) := by decide +kernel
theorem dL_law_1339 : decode cL_law 1339 = .ok (.iaload, 1) := by decide +kernel
theorem dL_law_1340 : decode cL_law 1340 = .ok (.invokevirtual 163, 3) := by decide +kernel
theorem dL_law_1343 : decode cL_law 1343 = .ok (.if_icmp .eq 5, 3) := by decide +kernel
theorem dL_law_1346 : decode cL_law 1346 = .ok (.iconst 0, 1) := by decide +kernel
theorem dL_law_1347 : decode cL_law 1347 = .ok (.ireturn, 1) := by decide +kernel
theorem dL_law_1348 : decode cL_law 1348 = .ok (.iinc 3 6, 3) := by decide +kernel
theorem dL_law_1351 : decode cL_law 1351 = .ok (.goto (-1333), 3) := by decide +kernel
theorem dL_law_1354 : decode cL_law 1354 = .ok (.iconst 1, 1) := by decide +kernel
theorem dL_law_1355 : decode cL_law 1355 = .ok (.ireturn, 1) := by decide +kernel
