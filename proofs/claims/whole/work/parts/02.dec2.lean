theorem dX11_things_13 : decode cX11_things 13 = .ok (.invokestatic 127, 3) := by decide +kernel
theorem dX11_things_16 : decode cX11_things 16 = .ok (.ifCond .ne 5, 3) := by decide +kernel
theorem dX11_things_19 : decode cX11_things 19 = .ok (.iconst (-1), 1) := by decide +kernel
theorem dX11_things_20 : decode cX11_things 20 = .ok (.ireturn, 1) := by decide +kernel
theorem dX11_things_21 : decode cX11_things 21 = .ok (.aload_n 0, 1) := by decide +kernel
theorem dX11_things_22 : decode cX11_things 22 = .ok (.getfield 102, 3) := by decide +kernel
theorem dX11_things_25 : decode cX11_things 25 = .ok (.iload_n 1, 1) := by decide +kernel
theorem dX11_things_26 : decode cX11_things 26 = .ok (.iaload, 1) := by decide +kernel
theorem dX11_things_27 : decode cX11_things 27 = .ok (.ifCond .lt 17, 3) := by decide +kernel
theorem dX11_things_30 : decode cX11_things 30 = .ok (.aload_n 0, 1) := by decide +kernel
theorem dX11_things_31 : decode cX11_things 31 = .ok (.getfield 102, 3) := by decide +kernel
theorem dX11_things_34 : decode cX11_things 34 = .ok (.iload_n 1, 1) := by decide +kernel
theorem dX11_things_35 : decode cX11_things 35 = .ok (.iaload, 1) := by decide +kernel
theorem dX11_things_36 : decode cX11_things 36 = .ok (.bipush 50, 2) := by decide +kernel
theorem dX11_things_38 : decode cX11_things 38 = .ok (.if_icmp .eq 6, 3) := by decide +kernel
theorem dX11_things_41 : decode cX11_things 41 = .ok (.bipush (-12), 2) := by decide +kernel
theorem dX11_things_43 : decode cX11_things 43 = .ok (.ireturn, 1) := by decide +kernel
theorem dX11_things_44 : decode cX11_things 44 = .ok (.iconst 0, 1) := by decide +kernel
theorem dX11_things_45 : decode cX11_things 45 = .ok (.istore 4, 2) := by decide +kernel
theorem dX11_things_47 : decode cX11_things 47 = .ok (.aload_n 0, 1) := by decide +kernel
theorem dX11_things_48 : decode cX11_things 48 = .ok (.getfield 102, 3) := by decide +kernel
theorem dX11_things_51 : decode cX11_things 51 = .ok (.iload_n 1, 1) := by decide +kernel
theorem dX11_things_52 : decode cX11_things 52 = .ok (.iaload, 1) := by decide +kernel
theorem dX11_things_53 : decode cX11_things 53 = .ok (.bipush 50, 2) := by decide +kernel
theorem dX11_things_55 : decode cX11_things 55 = .ok (.if_icmp .ne 11, 3) := by decide +kernel
theorem dX11_things_58 : decode cX11_things 58 = .ok (.iload_n 2, 1) := by decide +kernel
theorem dX11_things_59 : decode cX11_things 59 = .ok (.ifCond .lt 7, 3) := by decide +kernel
theorem dX11_things_62 : decode cX11_things 62 = .ok (.iconst 1, 1) := by decide +kernel
theorem dX11_things_63 : decode cX11_things 63 = .ok (.goto 4, 3) := by decide +kernel
theorem dX11_things_66 : decode cX11_things 66 = .ok (.iconst 0, 1) := by decide +kernel
theorem dX11_things_67 : decode cX11_things 67 = .ok (.istore 5, 2) := by decide +kernel
theorem dX11_things_69 : decode cX11_things 69 = .ok (.iload 5, 2) := by decide +kernel
theorem dX11_things_71 : decode cX11_things 71 = .ok (.ifCond .eq 142, 3) := by decide +kernel
theorem dX11_things_74 : decode cX11_things 74 = .ok (.iload 4, 2) := by decide +kernel
theorem dX11_things_76 : decode cX11_things 76 = .ok (.iload_n 3, 1) := by decide +kernel
theorem dX11_things_77 : decode cX11_things 77 = .ok (.if_icmp .ge 136, 3) := by decide +kernel
theorem dX11_things_80 : decode cX11_things 80 = .ok (.iload_n 2, 1) := by decide +kernel
theorem dX11_things_81 : decode cX11_things 81 = .ok (.aload_n 0, 1) := by decide +kernel
theorem dX11_things_82 : decode cX11_things 82 = .ok (.getfield 105, 3) := by decide +kernel
theorem dX11_things_85 : decode cX11_things 85 = .ok (.iload_n 1, 1) := by decide +kernel
theorem dX11_things_86 : decode cX11_things 86 = .ok (.iaload, 1) := by decide +kernel
theorem dX11_things_87 : decode cX11_things 87 = .ok (.iconst 3, 1) := by decide +kernel
theorem dX11_things_88 : decode cX11_things 88 = .ok (.isub, 1) := by decide +kernel
theorem dX11_things_89 : decode cX11_things 89 = .ok (.iconst 3, 1) := by decide +kernel
theorem dX11_things_90 : decode cX11_things 90 = .ok (.iload 4, 2) := by decide +kernel
theorem dX11_things_92 : decode cX11_things 92 = .ok (.imul, 1) := by decide +kernel
theorem dX11_things_93 : decode cX11_things 93 = .ok (.isub, 1) := by decide +kernel
theorem dX11_things_94 : decode cX11_things 94 = .ok (.if_icmp .gt 16, 3) := by decide +kernel
theorem dX11_things_97 : decode cX11_things 97 = .ok (.aload_n 0, 1) := by decide +kernel
theorem dX11_things_98 : decode cX11_things 98 = .ok (.getfield 131, 3) := by decide +kernel
theorem dX11_things_101 : decode cX11_things 101 = .ok (.bipush 6, 2) := by decide +kernel
theorem dX11_things_103 : decode cX11_things 103 = .ok (.if_icmp .ge 7, 3) := by decide +kernel
theorem dX11_things_106 : decode cX11_things 106 = .ok (.iconst 1, 1) := by decide +kernel
theorem dX11_things_107 : decode cX11_things 107 = .ok (.goto 4, 3) := by decide +kernel
theorem dX11_things_110 : decode cX11_things 110 = .ok (.iconst 0, 1) := by decide +kernel
theorem dX11_things_111 : decode cX11_things 111 = .ok (.istore 5, 2) := by decide +kernel
theorem dX11_things_113 : decode cX11_things 113 = .ok (.bipush 60, 2) := by decide +kernel
theorem dX11_things_115 : decode cX11_things 115 = .ok (.iload_n 1, 1) := by decide +kernel
theorem dX11_things_116 : decode cX11_things 116 = .ok (.imul, 1) := by decide +kernel
theorem dX11_things_117 : decode cX11_things 117 = .ok (.iload_n 2, 1) := by decide +kernel
theorem dX11_things_118 : decode cX11_things 118 = .ok (.iadd, 1) := by decide +kernel
theorem dX11_things_119 : decode cX11_things 119 = .ok (.iconst 3, 1) := by decide +kernel
theorem dX11_things_120 : decode cX11_things 120 = .ok (.iload 4, 2) := by decide +kernel
theorem dX11_things_122 : decode cX11_things 122 = .ok (.imul, 1) := by decide +kernel
theorem dX11_things_123 : decode cX11_things 123 = .ok (.iadd, 1) := by decide +kernel
theorem dX11_things_124 : decode cX11_things 124 = .ok (.istore 6, 2) := by decide +kernel
theorem dX11_things_126 : decode cX11_things 126 = .ok (.iload 5, 2) := by decide +kernel
theorem dX11_things_128 : decode cX11_things 128 = .ok (.ifCond .eq 39, 3) := by decide +kernel
theorem dX11_things_131 : decode cX11_things 131 = .ok (.aload_n 0, 1) := by decide +kernel
theorem dX11_things_132 : decode cX11_things 132 = .ok (.aload_n 0, 1) := by decide +kernel
theorem dX11_things_133 : decode cX11_things 133 = .ok (.getfield 108, 3) := by decide +kernel
theorem dX11_things_136 : decode cX11_things 136 = .ok (.iload 6, 2) := by decide +kernel
theorem dX11_things_138 : decode cX11_things 138 = .ok (.laload, 1) := by decide +kernel
theorem dX11_things_139 : decode cX11_things 139 = .ok (.aload_n 0, 1) := by decide +kernel
theorem dX11_things_140 : decode cX11_things 140 = .ok (.getfield 108, 3) := by decide +kernel
theorem dX11_things_143 : decode cX11_things 143 = .ok (.iload 6, 2) := by decide +kernel
theorem dX11_things_145 : decode cX11_things 145 = .ok (.iconst 1, 1) := by decide +kernel
theorem dX11_things_146 : decode cX11_things 146 = .ok (.iadd, 1) := by decide +kernel
theorem dX11_things_147 : decode cX11_things 147 = .ok (.laload, 1) := by decide +kernel
theorem dX11_things_148 : decode cX11_things 148 = .ok (.aload_n 0, 1) := by decide +kernel
theorem dX11_things_149 : decode cX11_things 149 = .ok (.getfield 108, 3) := by decide +kernel
theorem dX11_things_152 : decode cX11_things 152 = .ok (.iload 6, 2) := by decide +kernel
theorem dX11_things_154 : decode cX11_things 154 = .ok (.iconst 2, 1) := by decide +kernel
theorem dX11_things_155 : decode cX11_things 155 = .ok (.iadd, 1) := by decide +kernel
theorem dX11_things_156 : decode cX11_things 156 = .ok (.laload, 1) := by decide +kernel
theorem dX11_things_157 : decode cX11_things 157 = .ok (.invokevirtual 138, 3) := by decide +kernel
theorem dX11_things_160 : decode cX11_things 160 = .ok (.ifCond .eq 7, 3) := by decide +kernel
theorem dX11_things_163 : decode cX11_things 163 = .ok (.iconst 1, 1) := by decide +kernel
theorem dX11_things_164 : decode cX11_things 164 = .ok (.goto 4, 3) := by decide +kernel
theorem dX11_things_167 : decode cX11_things 167 = .ok (.iconst 0, 1) := by decide +kernel
theorem dX11_things_168 : decode cX11_things 168 = .ok (.istore 5, 2) := by decide +kernel
theorem dX11_things_170 : decode cX11_things 170 = .ok (.iload 5, 2) := by decide +kernel
theorem dX11_things_172 : decode cX11_things 172 = .ok (.ifCond .eq 38, 3) := by decide +kernel
theorem dX11_things_175 : decode cX11_things 175 = .ok (.aload_n 0, 1) := by decide +kernel
theorem dX11_things_176 : decode cX11_things 176 = .ok (.aload_n 0, 1) := by decide +kernel
theorem dX11_things_177 : decode cX11_things 177 = .ok (.getfield 108, 3) := by decide +kernel
theorem dX11_things_180 : decode cX11_things 180 = .ok (.iload 6, 2) := by decide +kernel
theorem dX11_things_182 : decode cX11_things 182 = .ok (.laload, 1) := by decide +kernel
theorem dX11_things_183 : decode cX11_things 183 = .ok (.l2i, 1) := by decide +kernel
theorem dX11_things_184 : decode cX11_things 184 = .ok (.aload_n 0, 1) := by decide +kernel
theorem dX11_things_185 : decode cX11_things 185 = .ok (.getfield 108, 3) := by decide +kernel
theorem dX11_things_188 : decode cX11_things 188 = .ok (.iload 6, 2) := by decide +kernel
theorem dX11_things_190 : decode cX11_things 190 = .ok (.iconst 1, 1) := by decide +kernel
theorem dX11_things_191 : decode cX11_things 191 = .ok (.iadd, 1) := by decide +kernel
theorem dX11_things_192 : decode cX11_things 192 = .ok (.laload, 1) := by decide +kernel
theorem dX11_things_193 : decode cX11_things 193 = .ok (.l2i, 1) := by decide +kernel
theorem dX11_things_194 : decode cX11_things 194 = .ok (.aload_n 0, 1) := by decide +kernel
theorem dX11_things_195 : decode cX11_things 195 = .ok (.getfield 108, 3) := by decide +kernel
theorem dX11_things_198 : decode cX11_things 198 = .ok (.iload 6, 2) := by decide +kernel
theorem dX11_things_200 : decode cX11_things 200 = .ok (.iconst 2, 1) := by decide +kernel
theorem dX11_things_201 : decode cX11_things 201 = .ok (.iadd, 1) := by decide +kernel
theorem dX11_things_202 : decode cX11_things 202 = .ok (.laload, 1) := by decide +kernel
theorem dX11_things_203 : decode cX11_things 203 = .ok (.l2i, 1) := by decide +kernel
theorem dX11_things_204 : decode cX11_things 204 = .ok (.invokevirtual 141, 3) := by decide +kernel
theorem dX11_things_207 : decode cX11_things 207 = .ok (.iinc 4 1, 3) := by decide +kernel
theorem dX11_things_210 : decode cX11_things 210 = .ok (.goto (-141), 3) := by decide +kernel
theorem dX11_things_213 : decode cX11_things 213 = .ok (.iload 4, 2) := by decide +kernel
theorem dX11_things_215 : decode cX11_things 215 = .ok (.ireturn, 1) := by decide +kernel
theorem dX11_rule_0 : decode cX11_rule 0 = .ok (.iload_n 1, 1) := by decide +kernel
theorem dX11_rule_1 : decode cX11_rule 1 = .ok (.i2l, 1) := by decide +kernel
theorem dX11_rule_2 : decode cX11_rule 2 = .ok (.lconst 0, 1) := by decide +kernel
theorem dX11_rule_3 : decode cX11_rule 3 = .ok (.lconst 1, 1) := by decide +kernel
theorem dX11_rule_4 : decode cX11_rule 4 = .ok (.invokestatic 127, 3) := by decide +kernel
theorem dX11_rule_7 : decode cX11_rule 7 = .ok (.ifCond .eq 23, 3) := by decide +kernel
theorem dX11_rule_10 : decode cX11_rule 10 = .ok (.iload_n 2, 1) := by decide +kernel
theorem dX11_rule_11 : decode cX11_rule 11 = .ok (.i2l, 1) := by decide +kernel
theorem dX11_rule_12 : decode cX11_rule 12 = .ok (.lconst 0, 1) := by decide +kernel
theorem dX11_rule_13 : decode cX11_rule 13 = .ok (.iload_n 1, 1) := by decide +kernel
theorem dX11_rule_14 : decode cX11_rule 14 = .ok (.ifCond .ne 9, 3) := by decide +kernel
theorem dX11_rule_17 : decode cX11_rule 17 = .ok (.ldc2_w 151, 3) := by decide +kernel
theorem dX11_rule_20 : decode cX11_rule 20 = .ok (.goto 4, 3) := by decide +kernel
theorem dX11_rule_23 : decode cX11_rule 23 = .ok (.lconst 1, 1) := by decide +kernel
theorem dX11_rule_24 : decode cX11_rule 24 = .ok (.invokestatic 127, 3) := by decide +kernel
theorem dX11_rule_27 : decode cX11_rule 27 = .ok (.ifCond .ne 5, 3) := by decide +kernel
theorem dX11_rule_30 : decode cX11_rule 30 = .ok (.iconst (-1), 1) := by decide +kernel
theorem dX11_rule_31 : decode cX11_rule 31 = .ok (.ireturn, 1) := by decide +kernel
theorem dX11_rule_32 : decode cX11_rule 32 = .ok (.iload_n 1, 1) := by decide +kernel
theorem dX11_rule_33 : decode cX11_rule 33 = .ok (.ifCond .ne 10, 3) := by decide +kernel
theorem dX11_rule_36 : decode cX11_rule 36 = .ok (.aload_n 0, 1) := by decide +kernel
theorem dX11_rule_37 : decode cX11_rule 37 = .ok (.getfield 153, 3) := by decide +kernel
theorem dX11_rule_40 : decode cX11_rule 40 = .ok (.goto 7, 3) := by decide +kernel
theorem dX11_rule_43 : decode cX11_rule 43 = .ok (.aload_n 0, 1) := by decide +kernel
theorem dX11_rule_44 : decode cX11_rule 44 = .ok (.getfield 156, 3) := by decide +kernel
theorem dX11_rule_47 : decode cX11_rule 47 = .ok (.istore_n 3, 1) := by decide +kernel
theorem dX11_rule_48 : decode cX11_rule 48 = .ok (.aload_n 0, 1) := by decide +kernel
theorem dX11_rule_49 : decode cX11_rule 49 = .ok (.iload_n 1, 1) := by decide +kernel
theorem dX11_rule_50 : decode cX11_rule 50 = .ok (.ifCond .ne 7, 3) := by decide +kernel
theorem dX11_rule_53 : decode cX11_rule 53 = .ok (.iload_n 2, 1) := by decide +kernel
theorem dX11_rule_54 : decode cX11_rule 54 = .ok (.goto 7, 3) := by decide +kernel
theorem dX11_rule_57 : decode cX11_rule 57 = .ok (.aload_n 0, 1) := by decide +kernel
theorem dX11_rule_58 : decode cX11_rule 58 = .ok (.getfield 153, 3) := by decide +kernel
theorem dX11_rule_61 : decode cX11_rule 61 = .ok (.putfield 153, 3) := by decide +kernel
theorem dX11_rule_64 : decode cX11_rule 64 = .ok (.aload_n 0, 1) := by decide +kernel
theorem dX11_rule_65 : decode cX11_rule 65 = .ok (.iload_n 1, 1) := by decide +kernel
theorem dX11_rule_66 : decode cX11_rule 66 = .ok (.iconst 1, 1) := by decide +kernel
theorem dX11_rule_67 : decode cX11_rule 67 = .ok (.if_icmp .ne 7, 3) := by decide +kernel
theorem dX11_rule_70 : decode cX11_rule 70 = .ok (.iload_n 2, 1) := by decide +kernel
theorem dX11_rule_71 : decode cX11_rule 71 = .ok (.goto 7, 3) := by decide +kernel
theorem dX11_rule_74 : decode cX11_rule 74 = .ok (.aload_n 0, 1) := by decide +kernel
theorem dX11_rule_75 : decode cX11_rule 75 = .ok (.getfield 156, 3) := by decide +kernel
theorem dX11_rule_78 : decode cX11_rule 78 = .ok (.putfield 156, 3) := by decide +kernel
theorem dX11_rule_81 : decode cX11_rule 81 = .ok (.iload_n 3, 1) := by decide +kernel
theorem dX11_rule_82 : decode cX11_rule 82 = .ok (.ireturn, 1) := by decide +kernel
theorem dX11_mend_0 : decode cX11_mend 0 = .ok (.iload_n 2, 1) := by decide +kernel
theorem dX11_mend_1 : decode cX11_mend 1 = .ok (.tableswitch 239 0 5 #[39, 70, 103, 137, 171, 205], 39) := by decide +kernel
theorem dX11_mend_40 : decode cX11_mend 40 = .ok (.aload_n 0, 1) := by decide +kernel
theorem dX11_mend_41 : decode cX11_mend 41 = .ok (.iload_n 1, 1) := by decide +kernel
theorem dX11_mend_42 : decode cX11_mend 42 = .ok (.invokevirtual 159, 3) := by decide +kernel
theorem dX11_mend_45 : decode cX11_mend 45 = .ok (.ifCond .eq 24, 3) := by decide +kernel
theorem dX11_mend_48 : decode cX11_mend 48 = .ok (.iload_n 3, 1) := by decide +kernel
theorem dX11_mend_49 : decode cX11_mend 49 = .ok (.i2l, 1) := by decide +kernel
theorem dX11_mend_50 : decode cX11_mend 50 = .ok (.lconst 1, 1) := by decide +kernel
theorem dX11_mend_51 : decode cX11_mend 51 = .ok (.ldc2_w 134, 3) := by decide +kernel
theorem dX11_mend_54 : decode cX11_mend 54 = .ok (.invokestatic 127, 3) := by decide +kernel
theorem dX11_mend_57 : decode cX11_mend 57 = .ok (.ifCond .eq 12, 3) := by decide +kernel
theorem dX11_mend_60 : decode cX11_mend 60 = .ok (.aload_n 0, 1) := by decide +kernel
theorem dX11_mend_61 : decode cX11_mend 61 = .ok (.iload_n 1, 1) := by decide +kernel
theorem dX11_mend_62 : decode cX11_mend 62 = .ok (.iload_n 3, 1) := by decide +kernel
theorem dX11_mend_63 : decode cX11_mend 63 = .ok (.invokevirtual 162, 3) := by decide +kernel
theorem dX11_mend_66 : decode cX11_mend 66 = .ok (.goto 4, 3) := by decide +kernel
theorem dX11_mend_69 : decode cX11_mend 69 = .ok (.iconst (-1), 1) := by decide +kernel
theorem dX11_mend_70 : decode cX11_mend 70 = .ok (.ireturn, 1) := by decide +kernel
theorem dX11_mend_71 : decode cX11_mend 71 = .ok (.aload_n 0, 1) := by decide +kernel
theorem dX11_mend_72 : decode cX11_mend 72 = .ok (.iload_n 1, 1) := by decide +kernel
theorem dX11_mend_73 : decode cX11_mend 73 = .ok (.invokevirtual 159, 3) := by decide +kernel
theorem dX11_mend_76 : decode cX11_mend 76 = .ok (.ifCond .eq 26, 3) := by decide +kernel
theorem dX11_mend_79 : decode cX11_mend 79 = .ok (.iload_n 3, 1) := by decide +kernel
theorem dX11_mend_80 : decode cX11_mend 80 = .ok (.i2l, 1) := by decide +kernel
theorem dX11_mend_81 : decode cX11_mend 81 = .ok (.lconst 0, 1) := by decide +kernel
theorem dX11_mend_82 : decode cX11_mend 82 = .ok (.ldc2_w 136, 3) := by decide +kernel
theorem dX11_mend_85 : decode cX11_mend 85 = .ok (.invokestatic 127, 3) := by decide +kernel
theorem dX11_mend_88 : decode cX11_mend 88 = .ok (.ifCond .eq 14, 3) := by decide +kernel
theorem dX11_mend_91 : decode cX11_mend 91 = .ok (.aload_n 0, 1) := by decide +kernel
theorem dX11_mend_92 : decode cX11_mend 92 = .ok (.iconst 5, 1) := by decide +kernel
theorem dX11_mend_93 : decode cX11_mend 93 = .ok (.iload_n 1, 1) := by decide +kernel
theorem dX11_mend_94 : decode cX11_mend 94 = .ok (.iadd, 1) := by decide +kernel
theorem dX11_mend_95 : decode cX11_mend 95 = .ok (.iload_n 3, 1) := by decide +kernel
theorem dX11_mend_96 : decode cX11_mend 96 = .ok (.invokevirtual 162, 3) := by decide +kernel
theorem dX11_mend_99 : decode cX11_mend 99 = .ok (.goto 4, 3) := by decide +kernel
theorem dX11_mend_102 : decode cX11_mend 102 = .ok (.iconst (-1), 1) := by decide +kernel
theorem dX11_mend_103 : decode cX11_mend 103 = .ok (.ireturn, 1) := by decide +kernel
theorem dX11_mend_104 : decode cX11_mend 104 = .ok (.aload_n 0, 1) := by decide +kernel
theorem dX11_mend_105 : decode cX11_mend 105 = .ok (.iload_n 1, 1) := by decide +kernel
theorem dX11_mend_106 : decode cX11_mend 106 = .ok (.invokevirtual 159, 3) := by decide +kernel
theorem dX11_mend_109 : decode cX11_mend 109 = .ok (.ifCond .eq 27, 3) := by decide +kernel
theorem dX11_mend_112 : decode cX11_mend 112 = .ok (.iload_n 3, 1) := by decide +kernel
theorem dX11_mend_113 : decode cX11_mend 113 = .ok (.i2l, 1) := by decide +kernel
theorem dX11_mend_114 : decode cX11_mend 114 = .ok (.lconst 0, 1) := by decide +kernel
theorem dX11_mend_115 : decode cX11_mend 115 = .ok (.ldc2_w 166, 3) := by decide +kernel
theorem dX11_mend_118 : decode cX11_mend 118 = .ok (.invokestatic 127, 3) := by decide +kernel
theorem dX11_mend_121 : decode cX11_mend 121 = .ok (.ifCond .eq 15, 3) := by decide +kernel
theorem dX11_mend_124 : decode cX11_mend 124 = .ok (.aload_n 0, 1) := by decide +kernel
theorem dX11_mend_125 : decode cX11_mend 125 = .ok (.bipush 10, 2) := by decide +kernel
theorem dX11_mend_127 : decode cX11_mend 127 = .ok (.iload_n 1, 1) := by decide +kernel
theorem dX11_mend_128 : decode cX11_mend 128 = .ok (.iadd, 1) := by decide +kernel
theorem dX11_mend_129 : decode cX11_mend 129 = .ok (.iload_n 3, 1) := by decide +kernel
theorem dX11_mend_130 : decode cX11_mend 130 = .ok (.invokevirtual 162, 3) := by decide +kernel
theorem dX11_mend_133 : decode cX11_mend 133 = .ok (.goto 4, 3) := by decide +kernel
theorem dX11_mend_136 : decode cX11_mend 136 = .ok (.iconst (-1), 1) := by decide +kernel
theorem dX11_mend_137 : decode cX11_mend 137 = .ok (.ireturn, 1) := by decide +kernel
theorem dX11_mend_138 : decode cX11_mend 138 = .ok (.aload_n 0, 1) := by decide +kernel
theorem dX11_mend_139 : decode cX11_mend 139 = .ok (.iload_n 1, 1) := by decide +kernel
theorem dX11_mend_140 : decode cX11_mend 140 = .ok (.invokevirtual 168, 3) := by decide +kernel
theorem dX11_mend_143 : decode cX11_mend 143 = .ok (.ifCond .eq 27, 3) := by decide +kernel
theorem dX11_mend_146 : decode cX11_mend 146 = .ok (.iload_n 3, 1) := by decide +kernel
theorem dX11_mend_147 : decode cX11_mend 147 = .ok (.i2l, 1) := by decide +kernel
theorem dX11_mend_148 : decode cX11_mend 148 = .ok (.lconst 0, 1) := by decide +kernel
theorem dX11_mend_149 : decode cX11_mend 149 = .ok (.ldc2_w 136, 3) := by decide +kernel
theorem dX11_mend_152 : decode cX11_mend 152 = .ok (.invokestatic 127, 3) := by decide +kernel
theorem dX11_mend_155 : decode cX11_mend 155 = .ok (.ifCond .eq 15, 3) := by decide +kernel
theorem dX11_mend_158 : decode cX11_mend 158 = .ok (.aload_n 0, 1) := by decide +kernel
theorem dX11_mend_159 : decode cX11_mend 159 = .ok (.bipush 15, 2) := by decide +kernel
theorem dX11_mend_161 : decode cX11_mend 161 = .ok (.iload_n 1, 1) := by decide +kernel
theorem dX11_mend_162 : decode cX11_mend 162 = .ok (.iadd, 1) := by decide +kernel
theorem dX11_mend_163 : decode cX11_mend 163 = .ok (.iload_n 3, 1) := by decide +kernel
theorem dX11_mend_164 : decode cX11_mend 164 = .ok (.invokevirtual 162, 3) := by decide +kernel
theorem dX11_mend_167 : decode cX11_mend 167 = .ok (.goto 4, 3) := by decide +kernel
theorem dX11_mend_170 : decode cX11_mend 170 = .ok (.iconst (-1), 1) := by decide +kernel
theorem dX11_mend_171 : decode cX11_mend 171 = .ok (.ireturn, 1) := by decide +kernel
theorem dX11_mend_172 : decode cX11_mend 172 = .ok (.aload_n 0, 1) := by decide +kernel
theorem dX11_mend_173 : decode cX11_mend 173 = .ok (.iload_n 1, 1) := by decide +kernel
theorem dX11_mend_174 : decode cX11_mend 174 = .ok (.invokevirtual 168, 3) := by decide +kernel
theorem dX11_mend_177 : decode cX11_mend 177 = .ok (.ifCond .eq 27, 3) := by decide +kernel
theorem dX11_mend_180 : decode cX11_mend 180 = .ok (.iload_n 3, 1) := by decide +kernel
theorem dX11_mend_181 : decode cX11_mend 181 = .ok (.i2l, 1) := by decide +kernel
theorem dX11_mend_182 : decode cX11_mend 182 = .ok (.lconst 0, 1) := by decide +kernel
theorem dX11_mend_183 : decode cX11_mend 183 = .ok (.ldc2_w 136, 3) := by decide +kernel
theorem dX11_mend_186 : decode cX11_mend 186 = .ok (.invokestatic 127, 3) := by decide +kernel
theorem dX11_mend_189 : decode cX11_mend 189 = .ok (.ifCond .eq 15, 3) := by decide +kernel
theorem dX11_mend_192 : decode cX11_mend 192 = .ok (.aload_n 0, 1) := by decide +kernel
theorem dX11_mend_193 : decode cX11_mend 193 = .ok (.bipush 21, 2) := by decide +kernel
theorem dX11_mend_195 : decode cX11_mend 195 = .ok (.iload_n 1, 1) := by decide +kernel
theorem dX11_mend_196 : decode cX11_mend 196 = .ok (.iadd, 1) := by decide +kernel
theorem dX11_mend_197 : decode cX11_mend 197 = .ok (.iload_n 3, 1) := by decide +kernel
theorem dX11_mend_198 : decode cX11_mend 198 = .ok (.invokevirtual 162, 3) := by decide +kernel
theorem dX11_mend_201 : decode cX11_mend 201 = .ok (.goto 4, 3) := by decide +kernel
theorem dX11_mend_204 : decode cX11_mend 204 = .ok (.iconst (-1), 1) := by decide +kernel
theorem dX11_mend_205 : decode cX11_mend 205 = .ok (.ireturn, 1) := by decide +kernel
theorem dX11_mend_206 : decode cX11_mend 206 = .ok (.aload_n 0, 1) := by decide +kernel
theorem dX11_mend_207 : decode cX11_mend 207 = .ok (.iload_n 1, 1) := by decide +kernel
theorem dX11_mend_208 : decode cX11_mend 208 = .ok (.invokevirtual 168, 3) := by decide +kernel
theorem dX11_mend_211 : decode cX11_mend 211 = .ok (.ifCond .eq 27, 3) := by decide +kernel
theorem dX11_mend_214 : decode cX11_mend 214 = .ok (.iload_n 3, 1) := by decide +kernel
theorem dX11_mend_215 : decode cX11_mend 215 = .ok (.i2l, 1) := by decide +kernel
theorem dX11_mend_216 : decode cX11_mend 216 = .ok (.lconst 0, 1) := by decide +kernel
theorem dX11_mend_217 : decode cX11_mend 217 = .ok (.ldc2_w 171, 3) := by decide +kernel
theorem dX11_mend_220 : decode cX11_mend 220 = .ok (.invokestatic 127, 3) := by decide +kernel
theorem dX11_mend_223 : decode cX11_mend 223 = .ok (.ifCond .eq 15, 3) := by decide +kernel
theorem dX11_mend_226 : decode cX11_mend 226 = .ok (.aload_n 0, 1) := by decide +kernel
theorem dX11_mend_227 : decode cX11_mend 227 = .ok (.bipush 27, 2) := by decide +kernel
theorem dX11_mend_229 : decode cX11_mend 229 = .ok (.iload_n 1, 1) := by decide +kernel
theorem dX11_mend_230 : decode cX11_mend 230 = .ok (.iadd, 1) := by decide +kernel
theorem dX11_mend_231 : decode cX11_mend 231 = .ok (.iload_n 3, 1) := by decide +kernel
theorem dX11_mend_232 : decode cX11_mend 232 = .ok (.invokevirtual 162, 3) := by decide +kernel
theorem dX11_mend_235 : decode cX11_mend 235 = .ok (.goto 4, 3) := by decide +kernel
theorem dX11_mend_238 : decode cX11_mend 238 = .ok (.iconst (-1), 1) := by decide +kernel
theorem dX11_mend_239 : decode cX11_mend 239 = .ok (.ireturn, 1) := by decide +kernel
theorem dX11_mend_240 : decode cX11_mend 240 = .ok (.iconst (-1), 1) := by decide +kernel
theorem dX11_mend_241 : decode cX11_mend 241 = .ok (.ireturn, 1) := by decide +kernel
theorem dX11_ofPerson_0 : decode cX11_ofPerson 0 = .ok (.iload_n 2, 1) := by decide +kernel
theorem dX11_ofPerson_1 : decode cX11_ofPerson 1 = .ok (.iconst 3, 1) := by decide +kernel
theorem dX11_ofPerson_2 : decode cX11_ofPerson 2 = .ok (.if_icmp .ge 14, 3) := by decide +kernel
theorem dX11_ofPerson_5 : decode cX11_ofPerson 5 = .ok (.aload_n 0, 1) := by decide +kernel
theorem dX11_ofPerson_6 : decode cX11_ofPerson 6 = .ok (.getfield 9, 3) := by decide +kernel
theorem dX11_ofPerson_9 : decode cX11_ofPerson 9 = .ok (.iconst 5, 1) := by decide +kernel
theorem dX11_ofPerson_10 : decode cX11_ofPerson 10 = .ok (.iload_n 2, 1) := by decide +kernel
theorem dX11_ofPerson_11 : decode cX11_ofPerson 11 = .ok (.imul, 1) := by decide +kernel
theorem dX11_ofPerson_12 : decode cX11_ofPerson 12 = .ok (.iload_n 1, 1) := by decide +kernel
theorem dX11_ofPerson_13 : decode cX11_ofPerson 13 = .ok (.iadd, 1) := by decide +kernel
theorem dX11_ofPerson_14 : decode cX11_ofPerson 14 = .ok (.iaload, 1) := by decide +kernel
theorem dX11_ofPerson_15 : decode cX11_ofPerson 15 = .ok (.ireturn, 1) := by decide +kernel
theorem dX11_ofPerson_16 : decode cX11_ofPerson 16 = .ok (.iload_n 2, 1) := by decide +kernel
theorem dX11_ofPerson_17 : decode cX11_ofPerson 17 = .ok (.iconst 3, 1) := by decide +kernel
theorem dX11_ofPerson_18 : decode cX11_ofPerson 18 = .ok (.if_icmp .ne 12, 3) := by decide +kernel
theorem dX11_ofPerson_21 : decode cX11_ofPerson 21 = .ok (.aload_n 0, 1) := by decide +kernel
theorem dX11_ofPerson_22 : decode cX11_ofPerson 22 = .ok (.getfield 22, 3) := by decide +kernel
theorem dX11_ofPerson_25 : decode cX11_ofPerson 25 = .ok (.iload_n 1, 1) := by decide +kernel
theorem dX11_ofPerson_26 : decode cX11_ofPerson 26 = .ok (.iaload, 1) := by decide +kernel
theorem dX11_ofPerson_27 : decode cX11_ofPerson 27 = .ok (.goto 23, 3) := by decide +kernel
theorem dX11_ofPerson_30 : decode cX11_ofPerson 30 = .ok (.iload_n 2, 1) := by decide +kernel
theorem dX11_ofPerson_31 : decode cX11_ofPerson 31 = .ok (.iconst 4, 1) := by decide +kernel
theorem dX11_ofPerson_32 : decode cX11_ofPerson 32 = .ok (.if_icmp .ne 12, 3) := by decide +kernel
theorem dX11_ofPerson_35 : decode cX11_ofPerson 35 = .ok (.aload_n 0, 1) := by decide +kernel
theorem dX11_ofPerson_36 : decode cX11_ofPerson 36 = .ok (.getfield 25, 3) := by decide +kernel
theorem dX11_ofPerson_39 : decode cX11_ofPerson 39 = .ok (.iload_n 1, 1) := by decide +kernel
theorem dX11_ofPerson_40 : decode cX11_ofPerson 40 = .ok (.iaload, 1) := by decide +kernel
theorem dX11_ofPerson_41 : decode cX11_ofPerson 41 = .ok (.goto 9, 3) := by decide +kernel
theorem dX11_ofPerson_44 : decode cX11_ofPerson 44 = .ok (.aload_n 0, 1) := by decide +kernel
theorem dX11_ofPerson_45 : decode cX11_ofPerson 45 = .ok (.getfield 28, 3) := by decide +kernel
theorem dX11_ofPerson_48 : decode cX11_ofPerson 48 = .ok (.iload_n 1, 1) := by decide +kernel
theorem dX11_ofPerson_49 : decode cX11_ofPerson 49 = .ok (.iaload, 1) := by decide +kernel
theorem dX11_ofPerson_50 : decode cX11_ofPerson 50 = .ok (.ireturn, 1) := by decide +kernel
theorem dX11_ofThing_0 : decode cX11_ofThing 0 = .ok (.iload_n 2, 1) := by decide +kernel
theorem dX11_ofThing_1 : decode cX11_ofThing 1 = .ok (.tableswitch 123 10 18 #[51, 58, 68, 78, 85, 95, 102, 109, 116], 51) := by decide +kernel
theorem dX11_ofThing_52 : decode cX11_ofThing 52 = .ok (.aload_n 0, 1) := by decide +kernel
theorem dX11_ofThing_53 : decode cX11_ofThing 53 = .ok (.getfield 31, 3) := by decide +kernel
theorem dX11_ofThing_56 : decode cX11_ofThing 56 = .ok (.iload_n 1, 1) := by decide +kernel
theorem dX11_ofThing_57 : decode cX11_ofThing 57 = .ok (.iaload, 1) := by decide +kernel
theorem dX11_ofThing_58 : decode cX11_ofThing 58 = .ok (.ireturn, 1) := by decide +kernel
theorem dX11_ofThing_59 : decode cX11_ofThing 59 = .ok (.aload_n 0, 1) := by decide +kernel
theorem dX11_ofThing_60 : decode cX11_ofThing 60 = .ok (.getfield 9, 3) := by decide +kernel
theorem dX11_ofThing_63 : decode cX11_ofThing 63 = .ok (.bipush 15, 2) := by decide +kernel
theorem dX11_ofThing_65 : decode cX11_ofThing 65 = .ok (.iload_n 1, 1) := by decide +kernel
theorem dX11_ofThing_66 : decode cX11_ofThing 66 = .ok (.iadd, 1) := by decide +kernel
theorem dX11_ofThing_67 : decode cX11_ofThing 67 = .ok (.iaload, 1) := by decide +kernel
theorem dX11_ofThing_68 : decode cX11_ofThing 68 = .ok (.ireturn, 1) := by decide +kernel
theorem dX11_ofThing_69 : decode cX11_ofThing 69 = .ok (.aload_n 0, 1) := by decide +kernel
theorem dX11_ofThing_70 : decode cX11_ofThing 70 = .ok (.getfield 9, 3) := by decide +kernel
theorem dX11_ofThing_73 : decode cX11_ofThing 73 = .ok (.bipush 21, 2) := by decide +kernel
theorem dX11_ofThing_75 : decode cX11_ofThing 75 = .ok (.iload_n 1, 1) := by decide +kernel
theorem dX11_ofThing_76 : decode cX11_ofThing 76 = .ok (.iadd, 1) := by decide +kernel
theorem dX11_ofThing_77 : decode cX11_ofThing 77 = .ok (.iaload, 1) := by decide +kernel
theorem dX11_ofThing_78 : decode cX11_ofThing 78 = .ok (.ireturn, 1) := by decide +kernel
theorem dX11_ofThing_79 : decode cX11_ofThing 79 = .ok (.aload_n 0, 1) := by decide +kernel
theorem dX11_ofThing_80 : decode cX11_ofThing 80 = .ok (.getfield 34, 3) := by decide +kernel
theorem dX11_ofThing_83 : decode cX11_ofThing 83 = .ok (.iload_n 1, 1) := by decide +kernel
theorem dX11_ofThing_84 : decode cX11_ofThing 84 = .ok (.iaload, 1) := by decide +kernel
theorem dX11_ofThing_85 : decode cX11_ofThing 85 = .ok (.ireturn, 1) := by decide +kernel
theorem dX11_ofThing_86 : decode cX11_ofThing 86 = .ok (.aload_n 0, 1) := by decide +kernel
theorem dX11_ofThing_87 : decode cX11_ofThing 87 = .ok (.getfield 9, 3) := by decide +kernel
theorem dX11_ofThing_90 : decode cX11_ofThing 90 = .ok (.bipush 27, 2) := by decide +kernel
theorem dX11_ofThing_92 : decode cX11_ofThing 92 = .ok (.iload_n 1, 1) := by decide +kernel
theorem dX11_ofThing_93 : decode cX11_ofThing 93 = .ok (.iadd, 1) := by decide +kernel
theorem dX11_ofThing_94 : decode cX11_ofThing 94 = .ok (.iaload, 1) := by decide +kernel
theorem dX11_ofThing_95 : decode cX11_ofThing 95 = .ok (.ireturn, 1) := by decide +kernel
theorem dX11_ofThing_96 : decode cX11_ofThing 96 = .ok (.aload_n 0, 1) := by decide +kernel
theorem dX11_ofThing_97 : decode cX11_ofThing 97 = .ok (.getfield 37, 3) := by decide +kernel
theorem dX11_ofThing_100 : decode cX11_ofThing 100 = .ok (.iload_n 1, 1) := by decide +kernel
theorem dX11_ofThing_101 : decode cX11_ofThing 101 = .ok (.iaload, 1) := by decide +kernel
theorem dX11_ofThing_102 : decode cX11_ofThing 102 = .ok (.ireturn, 1) := by decide +kernel
theorem dX11_ofThing_103 : decode cX11_ofThing 103 = .ok (.aload_n 0, 1) := by decide +kernel
theorem dX11_ofThing_104 : decode cX11_ofThing 104 = .ok (.getfield 40, 3) := by decide +kernel
theorem dX11_ofThing_107 : decode cX11_ofThing 107 = .ok (.iload_n 1, 1) := by decide +kernel
theorem dX11_ofThing_108 : decode cX11_ofThing 108 = .ok (.iaload, 1) := by decide +kernel
theorem dX11_ofThing_109 : decode cX11_ofThing 109 = .ok (.ireturn, 1) := by decide +kernel
theorem dX11_ofThing_110 : decode cX11_ofThing 110 = .ok (.aload_n 0, 1) := by decide +kernel
theorem dX11_ofThing_111 : decode cX11_ofThing 111 = .ok (.getfield 43, 3) := by decide +kernel
theorem dX11_ofThing_114 : decode cX11_ofThing 114 = .ok (.iload_n 1, 1) := by decide +kernel
theorem dX11_ofThing_115 : decode cX11_ofThing 115 = .ok (.iaload, 1) := by decide +kernel
theorem dX11_ofThing_116 : decode cX11_ofThing 116 = .ok (.ireturn, 1) := by decide +kernel
theorem dX11_ofThing_117 : decode cX11_ofThing 117 = .ok (.aload_n 0, 1) := by decide +kernel
theorem dX11_ofThing_118 : decode cX11_ofThing 118 = .ok (.getfield 49, 3) := by decide +kernel
theorem dX11_ofThing_121 : decode cX11_ofThing 121 = .ok (.iload_n 1, 1) := by decide +kernel
theorem dX11_ofThing_122 : decode cX11_ofThing 122 = .ok (.iaload, 1) := by decide +kernel
theorem dX11_ofThing_123 : decode cX11_ofThing 123 = .ok (.ireturn, 1) := by decide +kernel
theorem dX11_ofThing_124 : decode cX11_ofThing 124 = .ok (.aload_n 0, 1) := by decide +kernel
theorem dX11_ofThing_125 : decode cX11_ofThing 125 = .ok (.aload_n 0, 1) := by decide +kernel
theorem dX11_ofThing_126 : decode cX11_ofThing 126 = .ok (.getfield 34, 3) := by decide +kernel
theorem dX11_ofThing_129 : decode cX11_ofThing 129 = .ok (.iload_n 1, 1) := by decide +kernel
theorem dX11_ofThing_130 : decode cX11_ofThing 130 = .ok (.iaload, 1) := by decide +kernel
theorem dX11_ofThing_131 : decode cX11_ofThing 131 = .ok (.iload_n 1, 1) := by decide +kernel
theorem dX11_ofThing_132 : decode cX11_ofThing 132 = .ok (.aload_n 0, 1) := by decide +kernel
theorem dX11_ofThing_133 : decode cX11_ofThing 133 = .ok (.getfield 43, 3) := by decide +kernel
theorem dX11_ofThing_136 : decode cX11_ofThing 136 = .ok (.iload_n 1, 1) := by decide +kernel
theorem dX11_ofThing_137 : decode cX11_ofThing 137 = .ok (.iaload, 1) := by decide +kernel
theorem dX11_ofThing_138 : decode cX11_ofThing 138 = .ok (.aload_n 0, 1) := by decide +kernel
theorem dX11_ofThing_139 : decode cX11_ofThing 139 = .ok (.getfield 37, 3) := by decide +kernel
theorem dX11_ofThing_142 : decode cX11_ofThing 142 = .ok (.iload_n 1, 1) := by decide +kernel
theorem dX11_ofThing_143 : decode cX11_ofThing 143 = .ok (.iaload, 1) := by decide +kernel
theorem dX11_ofThing_144 : decode cX11_ofThing 144 = .ok (.ifCond .lt 7, 3) := by decide +kernel
theorem dX11_ofThing_147 : decode cX11_ofThing 147 = .ok (.iconst 1, 1) := by decide +kernel
theorem dX11_ofThing_148 : decode cX11_ofThing 148 = .ok (.goto 4, 3) := by decide +kernel
theorem dX11_ofThing_151 : decode cX11_ofThing 151 = .ok (.iconst 0, 1) := by decide +kernel
theorem dX11_ofThing_152 : decode cX11_ofThing 152 = .ok (.invokevirtual 173, 3) := by decide +kernel
theorem dX11_ofThing_155 : decode cX11_ofThing 155 = .ok (.ireturn, 1) := by decide +kernel
theorem dX11_of_0 : decode cX11_of 0 = .ok (.iload_n 2, 1) := by decide +kernel
theorem dX11_of_1 : decode cX11_of 1 = .ok (.i2l, 1) := by decide +kernel
theorem dX11_of_2 : decode cX11_of 2 = .ok (.lconst 0, 1) := by decide +kernel
theorem dX11_of_3 : decode cX11_of 3 = .ok (.ldc2_w 171, 3) := by decide +kernel
theorem dX11_of_6 : decode cX11_of 6 = .ok (.invokestatic 127, 3) := by decide +kernel
theorem dX11_of_9 : decode cX11_of 9 = .ok (.ifCond .eq 23, 3) := by decide +kernel
theorem dX11_of_12 : decode cX11_of 12 = .ok (.aload_n 0, 1) := by decide +kernel
theorem dX11_of_13 : decode cX11_of 13 = .ok (.iload_n 1, 1) := by decide +kernel
theorem dX11_of_14 : decode cX11_of 14 = .ok (.invokevirtual 159, 3) := by decide +kernel
theorem dX11_of_17 : decode cX11_of 17 = .ok (.ifCond .eq 12, 3) := by decide +kernel
theorem dX11_of_20 : decode cX11_of 20 = .ok (.aload_n 0, 1) := by decide +kernel
theorem dX11_of_21 : decode cX11_of 21 = .ok (.iload_n 1, 1) := by decide +kernel
theorem dX11_of_22 : decode cX11_of 22 = .ok (.iload_n 2, 1) := by decide +kernel
theorem dX11_of_23 : decode cX11_of 23 = .ok (.invokevirtual 177, 3) := by decide +kernel
theorem dX11_of_26 : decode cX11_of 26 = .ok (.goto 5, 3) := by decide +kernel
theorem dX11_of_29 : decode cX11_of 29 = .ok (.ldc 180, 2) := by decide +kernel
theorem dX11_of_31 : decode cX11_of 31 = .ok (.ireturn, 1) := by decide +kernel
theorem dX11_of_32 : decode cX11_of 32 = .ok (.iload_n 2, 1) := by decide +kernel
theorem dX11_of_33 : decode cX11_of 33 = .ok (.i2l, 1) := by decide +kernel
theorem dX11_of_34 : decode cX11_of 34 = .ok (.ldc2_w 181, 3) := by decide +kernel
theorem dX11_of_37 : decode cX11_of 37 = .ok (.ldc2_w 183, 3) := by decide +kernel
theorem dX11_of_40 : decode cX11_of 40 = .ok (.invokestatic 127, 3) := by decide +kernel
theorem dX11_of_43 : decode cX11_of 43 = .ok (.ifCond .eq 20, 3) := by decide +kernel
theorem dX11_of_46 : decode cX11_of 46 = .ok (.aload_n 0, 1) := by decide +kernel
theorem dX11_of_47 : decode cX11_of 47 = .ok (.iload_n 1, 1) := by decide +kernel
theorem dX11_of_48 : decode cX11_of 48 = .ok (.invokevirtual 168, 3) := by decide +kernel
theorem dX11_of_51 : decode cX11_of 51 = .ok (.ifCond .eq 12, 3) := by decide +kernel
theorem dX11_of_54 : decode cX11_of 54 = .ok (.aload_n 0, 1) := by decide +kernel
theorem dX11_of_55 : decode cX11_of 55 = .ok (.iload_n 1, 1) := by decide +kernel
theorem dX11_of_56 : decode cX11_of 56 = .ok (.iload_n 2, 1) := by decide +kernel
theorem dX11_of_57 : decode cX11_of 57 = .ok (.invokevirtual 185, 3) := by decide +kernel
theorem dX11_of_60 : decode cX11_of 60 = .ok (.goto 5, 3) := by decide +kernel
theorem dX11_of_63 : decode cX11_of 63 = .ok (.ldc 180, 2) := by decide +kernel
theorem dX11_of_65 : decode cX11_of 65 = .ok (.ireturn, 1) := by decide +kernel
theorem dX11_feed_0 : decode cX11_feed 0 = .ok (.iload_n 1, 1) := by decide +kernel
theorem dX11_feed_1 : decode cX11_feed 1 = .ok (.i2l, 1) := by decide +kernel
theorem dX11_feed_2 : decode cX11_feed 2 = .ok (.lconst 0, 1) := by decide +kernel
theorem dX11_feed_3 : decode cX11_feed 3 = .ok (.ldc2_w 188, 3) := by decide +kernel
theorem dX11_feed_6 : decode cX11_feed 6 = .ok (.invokestatic 127, 3) := by decide +kernel
theorem dX11_feed_9 : decode cX11_feed 9 = .ok (.ifCond .ne 5, 3) := by decide +kernel
theorem dX11_feed_12 : decode cX11_feed 12 = .ok (.iconst (-1), 1) := by decide +kernel
theorem dX11_feed_13 : decode cX11_feed 13 = .ok (.ireturn, 1) := by decide +kernel
theorem dX11_feed_14 : decode cX11_feed 14 = .ok (.aload_n 0, 1) := by decide +kernel
theorem dX11_feed_15 : decode cX11_feed 15 = .ok (.getfield 190, 3) := by decide +kernel
theorem dX11_feed_18 : decode cX11_feed 18 = .ok (.bipush 120, 2) := by decide +kernel
theorem dX11_feed_20 : decode cX11_feed 20 = .ok (.if_icmp .ne 6, 3) := by decide +kernel
theorem dX11_feed_23 : decode cX11_feed 23 = .ok (.bipush (-3), 2) := by decide +kernel
theorem dX11_feed_25 : decode cX11_feed 25 = .ok (.ireturn, 1) := by decide +kernel
theorem dX11_feed_26 : decode cX11_feed 26 = .ok (.aload_n 0, 1) := by decide +kernel
theorem dX11_feed_27 : decode cX11_feed 27 = .ok (.getfield 55, 3) := by decide +kernel
theorem dX11_feed_30 : decode cX11_feed 30 = .ok (.aload_n 0, 1) := by decide +kernel
theorem dX11_feed_31 : decode cX11_feed 31 = .ok (.getfield 190, 3) := by decide +kernel
theorem dX11_feed_34 : decode cX11_feed 34 = .ok (.iload_n 1, 1) := by decide +kernel
theorem dX11_feed_35 : decode cX11_feed 35 = .ok (.iastore, 1) := by decide +kernel
theorem dX11_feed_36 : decode cX11_feed 36 = .ok (.aload_n 0, 1) := by decide +kernel
theorem dX11_feed_37 : decode cX11_feed 37 = .ok (.dup, 1) := by decide +kernel
theorem dX11_feed_38 : decode cX11_feed 38 = .ok (.getfield 190, 3) := by decide +kernel
theorem dX11_feed_41 : decode cX11_feed 41 = .ok (.iconst 1, 1) := by decide +kernel
theorem dX11_feed_42 : decode cX11_feed 42 = .ok (.iadd, 1) := by decide +kernel
theorem dX11_feed_43 : decode cX11_feed 43 = .ok (.putfield 190, 3) := by decide +kernel
theorem dX11_feed_46 : decode cX11_feed 46 = .ok (.aload_n 0, 1) := by decide +kernel
theorem dX11_feed_47 : decode cX11_feed 47 = .ok (.getfield 190, 3) := by decide +kernel
theorem dX11_feed_50 : decode cX11_feed 50 = .ok (.ireturn, 1) := by decide +kernel
theorem dX11_byteAt_0 : decode cX11_byteAt 0 = .ok (.aload_n 0, 1) := by decide +kernel
theorem dX11_byteAt_1 : decode cX11_byteAt 1 = .ok (.getfield 193, 3) := by decide +kernel
theorem dX11_byteAt_4 : decode cX11_byteAt 4 = .ok (.aload_n 0, 1) := by decide +kernel
theorem dX11_byteAt_5 : decode cX11_byteAt 5 = .ok (.getfield 196, 3) := by decide +kernel
theorem dX11_byteAt_8 : decode cX11_byteAt 8 = .ok (.if_icmp .ge 39, 3) := by decide +kernel
theorem dX11_byteAt_11 : decode cX11_byteAt 11 = .ok (.aload_n 0, 1) := by decide +kernel
theorem dX11_byteAt_12 : decode cX11_byteAt 12 = .ok (.getfield 199, 3) := by decide +kernel
theorem dX11_byteAt_15 : decode cX11_byteAt 15 = .ok (.ifCond .ge 15, 3) := by decide +kernel
theorem dX11_byteAt_18 : decode cX11_byteAt 18 = .ok (.aload_n 0, 1) := by decide +kernel
theorem dX11_byteAt_19 : decode cX11_byteAt 19 = .ok (.getfield 55, 3) := by decide +kernel
theorem dX11_byteAt_22 : decode cX11_byteAt 22 = .ok (.aload_n 0, 1) := by decide +kernel
theorem dX11_byteAt_23 : decode cX11_byteAt 23 = .ok (.getfield 193, 3) := by decide +kernel
theorem dX11_byteAt_26 : decode cX11_byteAt 26 = .ok (.iaload, 1) := by decide +kernel
theorem dX11_byteAt_27 : decode cX11_byteAt 27 = .ok (.goto 21, 3) := by decide +kernel
theorem dX11_byteAt_30 : decode cX11_byteAt 30 = .ok (.aload_n 0, 1) := by decide +kernel
theorem dX11_byteAt_31 : decode cX11_byteAt 31 = .ok (.getfield 58, 3) := by decide +kernel
theorem dX11_byteAt_34 : decode cX11_byteAt 34 = .ok (.aload_n 0, 1) := by decide +kernel
theorem dX11_byteAt_35 : decode cX11_byteAt 35 = .ok (.getfield 199, 3) := by decide +kernel
theorem dX11_byteAt_38 : decode cX11_byteAt 38 = .ok (.aload_n 0, 1) := by decide +kernel
theorem dX11_byteAt_39 : decode cX11_byteAt 39 = .ok (.getfield 193, 3) := by decide +kernel
theorem dX11_byteAt_42 : decode cX11_byteAt 42 = .ok (.iadd, 1) := by decide +kernel
theorem dX11_byteAt_43 : decode cX11_byteAt 43 = .ok (.iaload, 1) := by decide +kernel
theorem dX11_byteAt_44 : decode cX11_byteAt 44 = .ok (.goto 4, 3) := by decide +kernel
theorem dX11_byteAt_47 : decode cX11_byteAt 47 = .ok (.iconst 0, 1) := by decide +kernel
theorem dX11_byteAt_48 : decode cX11_byteAt 48 = .ok (.ireturn, 1) := by decide +kernel
theorem dX11_wrong_0 : decode cX11_wrong 0 = .ok (.aload_n 0, 1) := by decide +kernel
theorem dX11_wrong_1 : decode cX11_wrong 1 = .ok (.aload_n 0, 1) := by decide +kernel
theorem dX11_wrong_2 : decode cX11_wrong 2 = .ok (.getfield 202, 3) := by decide +kernel
theorem dX11_wrong_5 : decode cX11_wrong 5 = .ok (.ifCond .ge 10, 3) := by decide +kernel
theorem dX11_wrong_8 : decode cX11_wrong 8 = .ok (.aload_n 0, 1) := by decide +kernel
theorem dX11_wrong_9 : decode cX11_wrong 9 = .ok (.getfield 193, 3) := by decide +kernel
theorem dX11_wrong_12 : decode cX11_wrong 12 = .ok (.goto 7, 3) := by decide +kernel
theorem dX11_wrong_15 : decode cX11_wrong 15 = .ok (.aload_n 0, 1) := by decide +kernel
theorem dX11_wrong_16 : decode cX11_wrong 16 = .ok (.getfield 202, 3) := by decide +kernel
theorem dX11_wrong_19 : decode cX11_wrong 19 = .ok (.putfield 202, 3) := by decide +kernel
theorem dX11_wrong_22 : decode cX11_wrong 22 = .ok (.iconst 0, 1) := by decide +kernel
theorem dX11_wrong_23 : decode cX11_wrong 23 = .ok (.ireturn, 1) := by decide +kernel
theorem dX11_takes_0 : decode cX11_takes 0 = .ok (.aload_n 0, 1) := by decide +kernel
theorem dX11_takes_1 : decode cX11_takes 1 = .ok (.getfield 202, 3) := by decide +kernel
theorem dX11_takes_4 : decode cX11_takes 4 = .ok (.ifCond .ge 11, 3) := by decide +kernel
theorem dX11_takes_7 : decode cX11_takes 7 = .ok (.aload_n 0, 1) := by decide +kernel
theorem dX11_takes_8 : decode cX11_takes 8 = .ok (.invokevirtual 205, 3) := by decide +kernel
theorem dX11_takes_11 : decode cX11_takes 11 = .ok (.iload_n 1, 1) := by decide +kernel
theorem dX11_takes_12 : decode cX11_takes 12 = .ok (.if_icmp .eq 5, 3) := by decide +kernel
theorem dX11_takes_15 : decode cX11_takes 15 = .ok (.iconst 0, 1) := by decide +kernel
theorem dX11_takes_16 : decode cX11_takes 16 = .ok (.ireturn, 1) := by decide +kernel
theorem dX11_takes_17 : decode cX11_takes 17 = .ok (.aload_n 0, 1) := by decide +kernel
theorem dX11_takes_18 : decode cX11_takes 18 = .ok (.dup, 1) := by decide +kernel
theorem dX11_takes_19 : decode cX11_takes 19 = .ok (.getfield 193, 3) := by decide +kernel
theorem dX11_takes_22 : decode cX11_takes 22 = .ok (.iconst 1, 1) := by decide +kernel
theorem dX11_takes_23 : decode cX11_takes 23 = .ok (.iadd, 1) := by decide +kernel
theorem dX11_takes_24 : decode cX11_takes 24 = .ok (.putfield 193, 3) := by decide +kernel
theorem dX11_takes_27 : decode cX11_takes 27 = .ok (.iconst 1, 1) := by decide +kernel
theorem dX11_takes_28 : decode cX11_takes 28 = .ok (.ireturn, 1) := by decide +kernel
theorem dX11_either_0 : decode cX11_either 0 = .ok (.aload_n 0, 1) := by decide +kernel
theorem dX11_either_1 : decode cX11_either 1 = .ok (.invokevirtual 209, 3) := by decide +kernel
theorem dX11_either_4 : decode cX11_either 4 = .ok (.istore_n 1, 1) := by decide +kernel
theorem dX11_either_5 : decode cX11_either 5 = .ok (.aload_n 0, 1) := by decide +kernel
theorem dX11_either_6 : decode cX11_either 6 = .ok (.bipush 124, 2) := by decide +kernel
theorem dX11_either_8 : decode cX11_either 8 = .ok (.invokevirtual 212, 3) := by decide +kernel
theorem dX11_either_11 : decode cX11_either 11 = .ok (.ifCond .eq 25, 3) := by decide +kernel
theorem dX11_either_14 : decode cX11_either 14 = .ok (.aload_n 0, 1) := by decide +kernel
theorem dX11_either_15 : decode cX11_either 15 = .ok (.invokevirtual 209, 3) := by decide +kernel
theorem dX11_either_18 : decode cX11_either 18 = .ok (.istore_n 2, 1) := by decide +kernel
theorem dX11_either_19 : decode cX11_either 19 = .ok (.iload_n 1, 1) := by decide +kernel
theorem dX11_either_20 : decode cX11_either 20 = .ok (.ifCond .ne 7, 3) := by decide +kernel
theorem dX11_either_23 : decode cX11_either 23 = .ok (.iload_n 2, 1) := by decide +kernel
theorem dX11_either_24 : decode cX11_either 24 = .ok (.ifCond .eq 7, 3) := by decide +kernel
theorem dX11_either_27 : decode cX11_either 27 = .ok (.iconst 1, 1) := by decide +kernel
theorem dX11_either_28 : decode cX11_either 28 = .ok (.goto 4, 3) := by decide +kernel
theorem dX11_either_31 : decode cX11_either 31 = .ok (.iconst 0, 1) := by decide +kernel
theorem dX11_either_32 : decode cX11_either 32 = .ok (.istore_n 1, 1) := by decide +kernel
theorem dX11_either_33 : decode cX11_either 33 = .ok (.goto (-28), 3) := by decide +kernel
theorem dX11_either_36 : decode cX11_either 36 = .ok (.iload_n 1, 1) := by decide +kernel
theorem dX11_either_37 : decode cX11_either 37 = .ok (.ireturn, 1) := by decide +kernel
theorem dX11_both_0 : decode cX11_both 0 = .ok (.aload_n 0, 1) := by decide +kernel
theorem dX11_both_1 : decode cX11_both 1 = .ok (.invokevirtual 215, 3) := by decide +kernel
theorem dX11_both_4 : decode cX11_both 4 = .ok (.istore_n 1, 1) := by decide +kernel
theorem dX11_both_5 : decode cX11_both 5 = .ok (.aload_n 0, 1) := by decide +kernel
theorem dX11_both_6 : decode cX11_both 6 = .ok (.bipush 38, 2) := by decide +kernel
theorem dX11_both_8 : decode cX11_both 8 = .ok (.invokevirtual 212, 3) := by decide +kernel
theorem dX11_both_11 : decode cX11_both 11 = .ok (.ifCond .eq 25, 3) := by decide +kernel
theorem dX11_both_14 : decode cX11_both 14 = .ok (.aload_n 0, 1) := by decide +kernel
theorem dX11_both_15 : decode cX11_both 15 = .ok (.invokevirtual 215, 3) := by decide +kernel
theorem dX11_both_18 : decode cX11_both 18 = .ok (.istore_n 2, 1) := by decide +kernel
theorem dX11_both_19 : decode cX11_both 19 = .ok (.iload_n 1, 1) := by decide +kernel
theorem dX11_both_20 : decode cX11_both 20 = .ok (.ifCond .eq 11, 3) := by decide +kernel
theorem dX11_both_23 : decode cX11_both 23 = .ok (.iload_n 2, 1) := by decide +kernel
theorem dX11_both_24 : decode cX11_both 24 = .ok (.ifCond .eq 7, 3) := by decide +kernel
theorem dX11_both_27 : decode cX11_both 27 = .ok (.iconst 1, 1) := by decide +kernel
theorem dX11_both_28 : decode cX11_both 28 = .ok (.goto 4, 3) := by decide +kernel
theorem dX11_both_31 : decode cX11_both 31 = .ok (.iconst 0, 1) := by decide +kernel
theorem dX11_both_32 : decode cX11_both 32 = .ok (.istore_n 1, 1) := by decide +kernel
theorem dX11_both_33 : decode cX11_both 33 = .ok (.goto (-28), 3) := by decide +kernel
theorem dX11_both_36 : decode cX11_both 36 = .ok (.iload_n 1, 1) := by decide +kernel
theorem dX11_both_37 : decode cX11_both 37 = .ok (.ireturn, 1) := by decide +kernel
theorem dX11_compared_0 : decode cX11_compared 0 = .ok (.aload_n 0, 1) := by decide +kernel
theorem dX11_compared_1 : decode cX11_compared 1 = .ok (.invokevirtual 218, 3) := by decide +kernel
theorem dX11_compared_4 : decode cX11_compared 4 = .ok (.istore_n 1, 1) := by decide +kernel
theorem dX11_compared_5 : decode cX11_compared 5 = .ok (.aload_n 0, 1) := by decide +kernel
theorem dX11_compared_6 : decode cX11_compared 6 = .ok (.invokevirtual 205, 3) := by decide +kernel
theorem dX11_compared_9 : decode cX11_compared 9 = .ok (.istore_n 2, 1) := by decide +kernel
theorem dX11_compared_10 : decode cX11_compared 10 = .ok (.aload_n 0, 1) := by decide +kernel
theorem dX11_compared_11 : decode cX11_compared 11 = .ok (.getfield 202, 3) := by decide +kernel
theorem dX11_compared_14 : decode cX11_compared 14 = .ok (.ifCond .ge 21, 3) := by decide +kernel
theorem dX11_compared_17 : decode cX11_compared 17 = .ok (.iload_n 2, 1) := by decide +kernel
theorem dX11_compared_18 : decode cX11_compared 18 = .ok (.bipush 60, 2) := by decide +kernel
theorem dX11_compared_20 : decode cX11_compared 20 = .ok (.if_icmp .eq 17, 3) := by decide +kernel
theorem dX11_compared_23 : decode cX11_compared 23 = .ok (.iload_n 2, 1) := by decide +kernel
theorem dX11_compared_24 : decode cX11_compared 24 = .ok (.bipush 61, 2) := by decide +kernel
theorem dX11_compared_26 : decode cX11_compared 26 = .ok (.if_icmp .eq 11, 3) := by decide +kernel
theorem dX11_compared_29 : decode cX11_compared 29 = .ok (.iload_n 2, 1) := by decide +kernel
theorem dX11_compared_30 : decode cX11_compared 30 = .ok (.bipush 62, 2) := by decide +kernel
theorem dX11_compared_32 : decode cX11_compared 32 = .ok (.if_icmp .eq 5, 3) := by decide +kernel
theorem dX11_compared_35 : decode cX11_compared 35 = .ok (.iload_n 1, 1) := by decide +kernel
theorem dX11_compared_36 : decode cX11_compared 36 = .ok (.ireturn, 1) := by decide +kernel
theorem dX11_compared_37 : decode cX11_compared 37 = .ok (.aload_n 0, 1) := by decide +kernel
theorem dX11_compared_38 : decode cX11_compared 38 = .ok (.dup, 1) := by decide +kernel
theorem dX11_compared_39 : decode cX11_compared 39 = .ok (.getfield 193, 3) := by decide +kernel
theorem dX11_compared_42 : decode cX11_compared 42 = .ok (.iconst 1, 1) := by decide +kernel
theorem dX11_compared_43 : decode cX11_compared 43 = .ok (.iadd, 1) := by decide +kernel
theorem dX11_compared_44 : decode cX11_compared 44 = .ok (.putfield 193, 3) := by decide +kernel
theorem dX11_compared_47 : decode cX11_compared 47 = .ok (.aload_n 0, 1) := by decide +kernel
theorem dX11_compared_48 : decode cX11_compared 48 = .ok (.invokevirtual 218, 3) := by decide +kernel
theorem dX11_compared_51 : decode cX11_compared 51 = .ok (.istore_n 3, 1) := by decide +kernel
theorem dX11_compared_52 : decode cX11_compared 52 = .ok (.iload_n 2, 1) := by decide +kernel
theorem dX11_compared_53 : decode cX11_compared 53 = .ok (.bipush 60, 2) := by decide +kernel
theorem dX11_compared_55 : decode cX11_compared 55 = .ok (.if_icmp .ne 11, 3) := by decide +kernel
theorem dX11_compared_58 : decode cX11_compared 58 = .ok (.iload_n 1, 1) := by decide +kernel
theorem dX11_compared_59 : decode cX11_compared 59 = .ok (.iload_n 3, 1) := by decide +kernel
theorem dX11_compared_60 : decode cX11_compared 60 = .ok (.if_icmp .ge 29, 3) := by decide +kernel
theorem dX11_compared_63 : decode cX11_compared 63 = .ok (.goto 22, 3) := by decide +kernel
theorem dX11_compared_66 : decode cX11_compared 66 = .ok (.iload_n 2, 1) := by decide +kernel
theorem dX11_compared_67 : decode cX11_compared 67 = .ok (.bipush 61, 2) := by decide +kernel
theorem dX11_compared_69 : decode cX11_compared 69 = .ok (.if_icmp .ne 11, 3) := by decide +kernel
theorem dX11_compared_72 : decode cX11_compared 72 = .ok (.iload_n 1, 1) := by decide +kernel
theorem dX11_compared_73 : decode cX11_compared 73 = .ok (.iload_n 3, 1) := by decide +kernel
theorem dX11_compared_74 : decode cX11_compared 74 = .ok (.if_icmp .ne 15, 3) := by decide +kernel
theorem dX11_compared_77 : decode cX11_compared 77 = .ok (.goto 8, 3) := by decide +kernel
theorem dX11_compared_80 : decode cX11_compared 80 = .ok (.iload_n 1, 1) := by decide +kernel
theorem dX11_compared_81 : decode cX11_compared 81 = .ok (.iload_n 3, 1) := by decide +kernel
theorem dX11_compared_82 : decode cX11_compared 82 = .ok (.if_icmp .le 7, 3) := by decide +kernel
theorem dX11_compared_85 : decode cX11_compared 85 = .ok (.iconst 1, 1) := by decide +kernel
theorem dX11_compared_86 : decode cX11_compared 86 = .ok (.goto 4, 3) := by decide +kernel
theorem dX11_compared_89 : decode cX11_compared 89 = .ok (.iconst 0, 1) := by decide +kernel
theorem dX11_compared_90 : decode cX11_compared 90 = .ok (.ireturn, 1) := by decide +kernel
theorem dX11_sums_0 : decode cX11_sums 0 = .ok (.aload_n 0, 1) := by decide +kernel
theorem dX11_sums_1 : decode cX11_sums 1 = .ok (.invokevirtual 221, 3) := by decide +kernel
theorem dX11_sums_4 : decode cX11_sums 4 = .ok (.istore_n 1, 1) := by decide +kernel
theorem dX11_sums_5 : decode cX11_sums 5 = .ok (.aload_n 0, 1) := by decide +kernel
theorem dX11_sums_6 : decode cX11_sums 6 = .ok (.getfield 202, 3) := by decide +kernel
theorem dX11_sums_9 : decode cX11_sums 9 = .ok (.ifCond .ge 68, 3) := by decide +kernel
theorem dX11_sums_12 : decode cX11_sums 12 = .ok (.aload_n 0, 1) := by decide +kernel
theorem dX11_sums_13 : decode cX11_sums 13 = .ok (.invokevirtual 205, 3) := by decide +kernel
theorem dX11_sums_16 : decode cX11_sums 16 = .ok (.bipush 43, 2) := by decide +kernel
theorem dX11_sums_18 : decode cX11_sums 18 = .ok (.if_icmp .eq 12, 3) := by decide +kernel
theorem dX11_sums_21 : decode cX11_sums 21 = .ok (.aload_n 0, 1) := by decide +kernel
theorem dX11_sums_22 : decode cX11_sums 22 = .ok (.invokevirtual 205, 3) := by decide +kernel
theorem dX11_sums_25 : decode cX11_sums 25 = .ok (.bipush 45, 2) := by decide +kernel
theorem dX11_sums_27 : decode cX11_sums 27 = .ok (.if_icmp .ne 50, 3) := by decide +kernel
theorem dX11_sums_30 : decode cX11_sums 30 = .ok (.aload_n 0, 1) := by decide +kernel
theorem dX11_sums_31 : decode cX11_sums 31 = .ok (.invokevirtual 205, 3) := by decide +kernel
theorem dX11_sums_34 : decode cX11_sums 34 = .ok (.bipush 43, 2) := by decide +kernel
theorem dX11_sums_36 : decode cX11_sums 36 = .ok (.if_icmp .ne 7, 3) := by decide +kernel
theorem dX11_sums_39 : decode cX11_sums 39 = .ok (.iconst 1, 1) := by decide +kernel
theorem dX11_sums_40 : decode cX11_sums 40 = .ok (.goto 4, 3) := by decide +kernel
theorem dX11_sums_43 : decode cX11_sums 43 = .ok (.iconst 0, 1) := by decide +kernel
theorem dX11_sums_44 : decode cX11_sums 44 = .ok (.istore_n 2, 1) := by decide +kernel
theorem dX11_sums_45 : decode cX11_sums 45 = .ok (.aload_n 0, 1) := by decide +kernel
theorem dX11_sums_46 : decode cX11_sums 46 = .ok (.dup, 1) := by decide +kernel
theorem dX11_sums_47 : decode cX11_sums 47 = .ok (.getfield 193, 3) := by decide +kernel
theorem dX11_sums_50 : decode cX11_sums 50 = .ok (.iconst 1, 1) := by decide +kernel
theorem dX11_sums_51 : decode cX11_sums 51 = .ok (.iadd, 1) := by decide +kernel
theorem dX11_sums_52 : decode cX11_sums 52 = .ok (.putfield 193, 3) := by decide +kernel
theorem dX11_sums_55 : decode cX11_sums 55 = .ok (.aload_n 0, 1) := by decide +kernel
theorem dX11_sums_56 : decode cX11_sums 56 = .ok (.invokevirtual 221, 3) := by decide +kernel
theorem dX11_sums_59 : decode cX11_sums 59 = .ok (.istore_n 3, 1) := by decide +kernel
theorem dX11_sums_60 : decode cX11_sums 60 = .ok (.iload_n 2, 1) := by decide +kernel
theorem dX11_sums_61 : decode cX11_sums 61 = .ok (.ifCond .eq 9, 3) := by decide +kernel
theorem dX11_sums_64 : decode cX11_sums 64 = .ok (.iload_n 1, 1) := by decide +kernel
theorem dX11_sums_65 : decode cX11_sums 65 = .ok (.iload_n 3, 1) := by decide +kernel
theorem dX11_sums_66 : decode cX11_sums 66 = .ok (.iadd, 1) := by decide +kernel
theorem dX11_sums_67 : decode cX11_sums 67 = .ok (.goto 6, 3) := by decide +kernel
theorem dX11_sums_70 : decode cX11_sums 70 = .ok (.iload_n 1, 1) := by decide +kernel
theorem dX11_sums_71 : decode cX11_sums 71 = .ok (.iload_n 3, 1) := by decide +kernel
theorem dX11_sums_72 : decode cX11_sums 72 = .ok (.isub, 1) := by decide +kernel
theorem dX11_sums_73 : decode cX11_sums 73 = .ok (.istore_n 1, 1) := by decide +kernel
theorem dX11_sums_74 : decode cX11_sums 74 = .ok (.goto (-69), 3) := by decide +kernel
theorem dX11_sums_77 : decode cX11_sums 77 = .ok (.iload_n 1, 1) := by decide +kernel
theorem dX11_sums_78 : decode cX11_sums 78 = .ok (.ireturn, 1) := by decide +kernel
theorem dX11_product_0 : decode cX11_product 0 = .ok (.aload_n 0, 1) := by decide +kernel
theorem dX11_product_1 : decode cX11_product 1 = .ok (.invokevirtual 224, 3) := by decide +kernel
theorem dX11_product_4 : decode cX11_product 4 = .ok (.istore_n 1, 1) := by decide +kernel
theorem dX11_product_5 : decode cX11_product 5 = .ok (.aload_n 0, 1) := by decide +kernel
theorem dX11_product_6 : decode cX11_product 6 = .ok (.invokevirtual 205, 3) := by decide +kernel
theorem dX11_product_9 : decode cX11_product 9 = .ok (.istore_n 2, 1) := by decide +kernel
theorem dX11_product_10 : decode cX11_product 10 = .ok (.aload_n 0, 1) := by decide +kernel
theorem dX11_product_11 : decode cX11_product 11 = .ok (.getfield 202, 3) := by decide +kernel
theorem dX11_product_14 : decode cX11_product 14 = .ok (.ifCond .ge 80, 3) := by decide +kernel
theorem dX11_product_17 : decode cX11_product 17 = .ok (.iload_n 2, 1) := by decide +kernel
theorem dX11_product_18 : decode cX11_product 18 = .ok (.bipush 42, 2) := by decide +kernel
theorem dX11_product_20 : decode cX11_product 20 = .ok (.if_icmp .eq 15, 3) := by decide +kernel
theorem dX11_product_23 : decode cX11_product 23 = .ok (.iload_n 2, 1) := by decide +kernel
theorem dX11_product_24 : decode cX11_product 24 = .ok (.bipush 47, 2) := by decide +kernel
theorem dX11_product_26 : decode cX11_product 26 = .ok (.if_icmp .eq 9, 3) := by decide +kernel
theorem dX11_product_29 : decode cX11_product 29 = .ok (.iload_n 2, 1) := by decide +kernel
theorem dX11_product_30 : decode cX11_product 30 = .ok (.bipush 37, 2) := by decide +kernel
theorem dX11_product_32 : decode cX11_product 32 = .ok (.if_icmp .ne 62, 3) := by decide +kernel
theorem dX11_product_35 : decode cX11_product 35 = .ok (.aload_n 0, 1) := by decide +kernel
theorem dX11_product_36 : decode cX11_product 36 = .ok (.dup, 1) := by decide +kernel
theorem dX11_product_37 : decode cX11_product 37 = .ok (.getfield 193, 3) := by decide +kernel
theorem dX11_product_40 : decode cX11_product 40 = .ok (.iconst 1, 1) := by decide +kernel
theorem dX11_product_41 : decode cX11_product 41 = .ok (.iadd, 1) := by decide +kernel
theorem dX11_product_42 : decode cX11_product 42 = .ok (.putfield 193, 3) := by decide +kernel
theorem dX11_product_45 : decode cX11_product 45 = .ok (.aload_n 0, 1) := by decide +kernel
theorem dX11_product_46 : decode cX11_product 46 = .ok (.invokevirtual 224, 3) := by decide +kernel
theorem dX11_product_49 : decode cX11_product 49 = .ok (.istore_n 3, 1) := by decide +kernel
theorem dX11_product_50 : decode cX11_product 50 = .ok (.iload_n 2, 1) := by decide +kernel
theorem dX11_product_51 : decode cX11_product 51 = .ok (.bipush 42, 2) := by decide +kernel
theorem dX11_product_53 : decode cX11_product 53 = .ok (.if_icmp .ne 9, 3) := by decide +kernel
theorem dX11_product_56 : decode cX11_product 56 = .ok (.iload_n 1, 1) := by decide +kernel
theorem dX11_product_57 : decode cX11_product 57 = .ok (.iload_n 3, 1) := by decide +kernel
theorem dX11_product_58 : decode cX11_product 58 = .ok (.imul, 1) := by decide +kernel
theorem dX11_product_59 : decode cX11_product 59 = .ok (.goto 26, 3) := by decide +kernel
theorem dX11_product_62 : decode cX11_product 62 = .ok (.iload_n 3, 1) := by decide +kernel
theorem dX11_product_63 : decode cX11_product 63 = .ok (.ifCond .ne 7, 3) := by decide +kernel
theorem dX11_product_66 : decode cX11_product 66 = .ok (.iconst 0, 1) := by decide +kernel
theorem dX11_product_67 : decode cX11_product 67 = .ok (.goto 18, 3) := by decide +kernel
theorem dX11_product_70 : decode cX11_product 70 = .ok (.iload_n 2, 1) := by decide +kernel
theorem dX11_product_71 : decode cX11_product 71 = .ok (.bipush 47, 2) := by decide +kernel
theorem dX11_product_73 : decode cX11_product 73 = .ok (.if_icmp .ne 9, 3) := by decide +kernel
theorem dX11_product_76 : decode cX11_product 76 = .ok (.iload_n 1, 1) := by decide +kernel
theorem dX11_product_77 : decode cX11_product 77 = .ok (.iload_n 3, 1) := by decide +kernel
theorem dX11_product_78 : decode cX11_product 78 = .ok (.idiv, 1) := by decide +kernel
theorem dX11_product_79 : decode cX11_product 79 = .ok (.goto 6, 3) := by decide +kernel
theorem dX11_product_82 : decode cX11_product 82 = .ok (.iload_n 1, 1) := by decide +kernel
theorem dX11_product_83 : decode cX11_product 83 = .ok (.iload_n 3, 1) := by decide +kernel
theorem dX11_product_84 : decode cX11_product 84 = .ok (.irem, 1) := by decide +kernel
theorem dX11_product_85 : decode cX11_product 85 = .ok (.istore_n 1, 1) := by decide +kernel
theorem dX11_product_86 : decode cX11_product 86 = .ok (.aload_n 0, 1) := by decide +kernel
theorem dX11_product_87 : decode cX11_product 87 = .ok (.invokevirtual 205, 3) := by decide +kernel
theorem dX11_product_90 : decode cX11_product 90 = .ok (.istore_n 2, 1) := by decide +kernel
theorem dX11_product_91 : decode cX11_product 91 = .ok (.goto (-81), 3) := by decide +kernel
theorem dX11_product_94 : decode cX11_product 94 = .ok (.iload_n 1, 1) := by decide +kernel
theorem dX11_product_95 : decode cX11_product 95 = .ok (.ireturn, 1) := by decide +kernel
theorem dX11_nameOf_0 : decode cX11_nameOf 0 = .ok (.iload_n 0, 1) := by decide +kernel
theorem dX11_nameOf_1 : decode cX11_nameOf 1 = .ok (.lookupswitch 51 #[(97, 47), (108, 49), (115, 43), (116, 45)], 43) := by decide +kernel
theorem dX11_nameOf_44 : decode cX11_nameOf 44 = .ok (.iconst 0, 1) := by decide +kernel
theorem dX11_nameOf_45 : decode cX11_nameOf 45 = .ok (.ireturn, 1) := by decide +kernel
theorem dX11_nameOf_46 : decode cX11_nameOf 46 = .ok (.iconst 1, 1) := by decide +kernel
theorem dX11_nameOf_47 : decode cX11_nameOf 47 = .ok (.ireturn, 1) := by decide +kernel
theorem dX11_nameOf_48 : decode cX11_nameOf 48 = .ok (.iconst 2, 1) := by decide +kernel
theorem dX11_nameOf_49 : decode cX11_nameOf 49 = .ok (.ireturn, 1) := by decide +kernel
theorem dX11_nameOf_50 : decode cX11_nameOf 50 = .ok (.iconst 3, 1) := by decide +kernel
theorem dX11_nameOf_51 : decode cX11_nameOf 51 = .ok (.ireturn, 1) := by decide +kernel
theorem dX11_nameOf_52 : decode cX11_nameOf 52 = .ok (.iconst (-1), 1) := by decide +kernel
theorem dX11_nameOf_53 : decode cX11_nameOf 53 = .ok (.ireturn, 1) := by decide +kernel
theorem dX11_one_0 : decode cX11_one 0 = .ok (.aload_n 0, 1) := by decide +kernel
theorem dX11_one_1 : decode cX11_one 1 = .ok (.getfield 202, 3) := by decide +kernel
theorem dX11_one_4 : decode cX11_one 4 = .ok (.ifCond .lt 5, 3) := by decide +kernel
theorem dX11_one_7 : decode cX11_one 7 = .ok (.iconst 0, 1) := by decide +kernel
theorem dX11_one_8 : decode cX11_one 8 = .ok (.ireturn, 1) := by decide +kernel
theorem dX11_one_9 : decode cX11_one 9 = .ok (.aload_n 0, 1) := by decide +kernel
theorem dX11_one_10 : decode cX11_one 10 = .ok (.invokevirtual 205, 3) := by decide +kernel
theorem dX11_one_13 : decode cX11_one 13 = .ok (.istore_n 1, 1) := by decide +kernel
theorem dX11_one_14 : decode cX11_one 14 = .ok (.iload_n 1, 1) := by decide +kernel
theorem dX11_one_15 : decode cX11_one 15 = .ok (.bipush 33, 2) := by decide +kernel
theorem dX11_one_17 : decode cX11_one 17 = .ok (.if_icmp .eq 15, 3) := by decide +kernel
theorem dX11_one_20 : decode cX11_one 20 = .ok (.iload_n 1, 1) := by decide +kernel
theorem dX11_one_21 : decode cX11_one 21 = .ok (.bipush 45, 2) := by decide +kernel
theorem dX11_one_23 : decode cX11_one 23 = .ok (.if_icmp .eq 9, 3) := by decide +kernel
theorem dX11_one_26 : decode cX11_one 26 = .ok (.iload_n 1, 1) := by decide +kernel
theorem dX11_one_27 : decode cX11_one 27 = .ok (.bipush 40, 2) := by decide +kernel
theorem dX11_one_29 : decode cX11_one 29 = .ok (.if_icmp .ne 116, 3) := by decide +kernel
theorem dX11_one_32 : decode cX11_one 32 = .ok (.aload_n 0, 1) := by decide +kernel
theorem dX11_one_33 : decode cX11_one 33 = .ok (.getfield 227, 3) := by decide +kernel
theorem dX11_one_36 : decode cX11_one 36 = .ok (.bipush 6, 2) := by decide +kernel
theorem dX11_one_38 : decode cX11_one 38 = .ok (.if_icmp .ne 8, 3) := by decide +kernel
theorem dX11_one_41 : decode cX11_one 41 = .ok (.aload_n 0, 1) := by decide +kernel
theorem dX11_one_42 : decode cX11_one 42 = .ok (.invokevirtual 230, 3) := by decide +kernel
theorem dX11_one_45 : decode cX11_one 45 = .ok (.ireturn, 1) := by decide +kernel
theorem dX11_one_46 : decode cX11_one 46 = .ok (.aload_n 0, 1) := by decide +kernel
theorem dX11_one_47 : decode cX11_one 47 = .ok (.dup, 1) := by decide +kernel
theorem dX11_one_48 : decode cX11_one 48 = .ok (.getfield 227, 3) := by decide +kernel
theorem dX11_one_51 : decode cX11_one 51 = .ok (.iconst 1, 1) := by decide +kernel
theorem dX11_one_52 : decode cX11_one 52 = .ok (.iadd, 1) := by decide +kernel
theorem dX11_one_53 : decode cX11_one 53 = .ok (.putfield 227, 3) := by decide +kernel
theorem dX11_one_56 : decode cX11_one 56 = .ok (.aload_n 0, 1) := by decide +kernel
theorem dX11_one_57 : decode cX11_one 57 = .ok (.dup, 1) := by decide +kernel
theorem dX11_one_58 : decode cX11_one 58 = .ok (.getfield 193, 3) := by decide +kernel
theorem dX11_one_61 : decode cX11_one 61 = .ok (.iconst 1, 1) := by decide +kernel
theorem dX11_one_62 : decode cX11_one 62 = .ok (.iadd, 1) := by decide +kernel
theorem dX11_one_63 : decode cX11_one 63 = .ok (.putfield 193, 3) := by decide +kernel
theorem dX11_one_66 : decode cX11_one 66 = .ok (.iload_n 1, 1) := by decide +kernel
theorem dX11_one_67 : decode cX11_one 67 = .ok (.bipush 40, 2) := by decide +kernel
theorem dX11_one_69 : decode cX11_one 69 = .ok (.if_icmp .ne 10, 3) := by decide +kernel
theorem dX11_one_72 : decode cX11_one 72 = .ok (.aload_n 0, 1) := by decide +kernel
theorem dX11_one_73 : decode cX11_one 73 = .ok (.invokevirtual 233, 3) := by decide +kernel
theorem dX11_one_76 : decode cX11_one 76 = .ok (.goto 7, 3) := by decide +kernel
theorem dX11_one_79 : decode cX11_one 79 = .ok (.aload_n 0, 1) := by decide +kernel
theorem dX11_one_80 : decode cX11_one 80 = .ok (.invokevirtual 224, 3) := by decide +kernel
theorem dX11_one_83 : decode cX11_one 83 = .ok (.istore_n 2, 1) := by decide +kernel
theorem dX11_one_84 : decode cX11_one 84 = .ok (.iload_n 1, 1) := by decide +kernel
theorem dX11_one_85 : decode cX11_one 85 = .ok (.bipush 40, 2) := by decide +kernel
theorem dX11_one_87 : decode cX11_one 87 = .ok (.if_icmp .ne 17, 3) := by decide +kernel
theorem dX11_one_90 : decode cX11_one 90 = .ok (.aload_n 0, 1) := by decide +kernel
theorem dX11_one_91 : decode cX11_one 91 = .ok (.bipush 41, 2) := by decide +kernel
theorem dX11_one_93 : decode cX11_one 93 = .ok (.invokevirtual 212, 3) := by decide +kernel
theorem dX11_one_96 : decode cX11_one 96 = .ok (.ifCond .ne 8, 3) := by decide +kernel
theorem dX11_one_99 : decode cX11_one 99 = .ok (.aload_n 0, 1) := by decide +kernel
theorem dX11_one_100 : decode cX11_one 100 = .ok (.invokevirtual 230, 3) := by decide +kernel
theorem dX11_one_103 : decode cX11_one 103 = .ok (.ireturn, 1) := by decide +kernel
theorem dX11_one_104 : decode cX11_one 104 = .ok (.aload_n 0, 1) := by decide +kernel
theorem dX11_one_105 : decode cX11_one 105 = .ok (.dup, 1) := by decide +kernel
theorem dX11_one_106 : decode cX11_one 106 = .ok (.getfield 227, 3) := by decide +kernel
theorem dX11_one_109 : decode cX11_one 109 = .ok (.iconst 1, 1) := by decide +kernel
theorem dX11_one_110 : decode cX11_one 110 = .ok (.isub, 1) := by decide +kernel
theorem dX11_one_111 : decode cX11_one 111 = .ok (.putfield 227, 3) := by decide +kernel
theorem dX11_one_114 : decode cX11_one 114 = .ok (.iload_n 1, 1) := by decide +kernel
theorem dX11_one_115 : decode cX11_one 115 = .ok (.bipush 40, 2) := by decide +kernel
theorem dX11_one_117 : decode cX11_one 117 = .ok (.if_icmp .ne 7, 3) := by decide +kernel
theorem dX11_one_120 : decode cX11_one 120 = .ok (.iload_n 2, 1) := by decide +kernel
theorem dX11_one_121 : decode cX11_one 121 = .ok (.goto 23, 3) := by decide +kernel
theorem dX11_one_124 : decode cX11_one 124 = .ok (.iload_n 1, 1) := by decide +kernel
theorem dX11_one_125 : decode cX11_one 125 = .ok (.bipush 45, 2) := by decide +kernel
theorem dX11_one_127 : decode cX11_one 127 = .ok (.if_icmp .ne 8, 3) := by decide +kernel
theorem dX11_one_130 : decode cX11_one 130 = .ok (.iload_n 2, 1) := by decide +kernel
theorem dX11_one_131 : decode cX11_one 131 = .ok (.ineg, 1) := by decide +kernel
theorem dX11_one_132 : decode cX11_one 132 = .ok (.goto 12, 3) := by decide +kernel
theorem dX11_one_135 : decode cX11_one 135 = .ok (.iload_n 2, 1) := by decide +kernel
theorem dX11_one_136 : decode cX11_one 136 = .ok (.ifCond .ne 7, 3) := by decide +kernel
theorem dX11_one_139 : decode cX11_one 139 = .ok (.iconst 1, 1) := by decide +kernel
theorem dX11_one_140 : decode cX11_one 140 = .ok (.goto 4, 3) := by decide +kernel
theorem dX11_one_143 : decode cX11_one 143 = .ok (.iconst 0, 1) := by decide +kernel
theorem dX11_one_144 : decode cX11_one 144 = .ok (.ireturn, 1) := by decide +kernel
theorem dX11_one_145 : decode cX11_one 145 = .ok (.iload_n 1, 1) := by decide +kernel
theorem dX11_one_146 : decode cX11_one 146 = .ok (.invokestatic 236, 3) := by decide +kernel
theorem dX11_one_149 : decode cX11_one 149 = .ok (.istore_n 2, 1) := by decide +kernel
theorem dX11_one_150 : decode cX11_one 150 = .ok (.iload_n 2, 1) := by decide +kernel
theorem dX11_one_151 : decode cX11_one 151 = .ok (.ifCond .lt 20, 3) := by decide +kernel
theorem dX11_one_154 : decode cX11_one 154 = .ok (.aload_n 0, 1) := by decide +kernel
theorem dX11_one_155 : decode cX11_one 155 = .ok (.dup, 1) := by decide +kernel
theorem dX11_one_156 : decode cX11_one 156 = .ok (.getfield 193, 3) := by decide +kernel
theorem dX11_one_159 : decode cX11_one 159 = .ok (.iconst 1, 1) := by decide +kernel
theorem dX11_one_160 : decode cX11_one 160 = .ok (.iadd, 1) := by decide +kernel
theorem dX11_one_161 : decode cX11_one 161 = .ok (.putfield 193, 3) := by decide +kernel
theorem dX11_one_164 : decode cX11_one 164 = .ok (.aload_n 0, 1) := by decide +kernel
theorem dX11_one_165 : decode cX11_one 165 = .ok (.getfield 61, 3) := by decide +kernel
theorem dX11_one_168 : decode cX11_one 168 = .ok (.iload_n 2, 1) := by decide +kernel
theorem dX11_one_169 : decode cX11_one 169 = .ok (.iaload, 1) := by decide +kernel
theorem dX11_one_170 : decode cX11_one 170 = .ok (.ireturn, 1) := by decide +kernel
theorem dX11_one_171 : decode cX11_one 171 = .ok (.iconst 0, 1) := by decide +kernel
theorem dX11_one_172 : decode cX11_one 172 = .ok (.istore_n 3, 1) := by decide +kernel
theorem dX11_one_173 : decode cX11_one 173 = .ok (.iconst 0, 1) := by decide +kernel
theorem dX11_one_174 : decode cX11_one 174 = .ok (.istore 4, 2) := by decide +kernel
theorem dX11_one_176 : decode cX11_one 176 = .ok (.iload 4, 2) := by decide +kernel
theorem dX11_one_178 : decode cX11_one 178 = .ok (.iconst 4, 1) := by decide +kernel
theorem dX11_one_179 : decode cX11_one 179 = .ok (.if_icmp .ge 50, 3) := by decide +kernel
theorem dX11_one_182 : decode cX11_one 182 = .ok (.aload_n 0, 1) := by decide +kernel
theorem dX11_one_183 : decode cX11_one 183 = .ok (.invokevirtual 205, 3) := by decide +kernel
theorem dX11_one_186 : decode cX11_one 186 = .ok (.bipush 48, 2) := by decide +kernel
theorem dX11_one_188 : decode cX11_one 188 = .ok (.if_icmp .lt 41, 3) := by decide +kernel
theorem dX11_one_191 : decode cX11_one 191 = .ok (.aload_n 0, 1) := by decide +kernel
theorem dX11_one_192 : decode cX11_one 192 = .ok (.invokevirtual 205, 3) := by decide +kernel
theorem dX11_one_195 : decode cX11_one 195 = .ok (.bipush 57, 2) := by decide +kernel
theorem dX11_one_197 : decode cX11_one 197 = .ok (.if_icmp .gt 32, 3) := by decide +kernel
theorem dX11_one_200 : decode cX11_one 200 = .ok (.bipush 10, 2) := by decide +kernel
theorem dX11_one_202 : decode cX11_one 202 = .ok (.iload_n 3, 1) := by decide +kernel
theorem dX11_one_203 : decode cX11_one 203 = .ok (.imul, 1) := by decide +kernel
theorem dX11_one_204 : decode cX11_one 204 = .ok (.aload_n 0, 1) := by decide +kernel
theorem dX11_one_205 : decode cX11_one 205 = .ok (.invokevirtual 205, 3) := by decide +kernel
theorem dX11_one_208 : decode cX11_one 208 = .ok (.iadd, 1) := by decide +kernel
theorem dX11_one_209 : decode cX11_one 209 = .ok (.bipush 48, 2) := by decide +kernel
theorem dX11_one_211 : decode cX11_one 211 = .ok (.isub, 1) := by decide +kernel
theorem dX11_one_212 : decode cX11_one 212 = .ok (.istore_n 3, 1) := by decide +kernel
theorem dX11_one_213 : decode cX11_one 213 = .ok (.iinc 4 1, 3) := by decide +kernel
theorem dX11_one_216 : decode cX11_one 216 = .ok (.aload_n 0, 1) := by decide +kernel
theorem dX11_one_217 : decode cX11_one 217 = .ok (.dup, 1) := by decide +kernel
theorem dX11_one_218 : decode cX11_one 218 = .ok (.getfield 193, 3) := by decide +kernel
theorem dX11_one_221 : decode cX11_one 221 = .ok (.iconst 1, 1) := by decide +kernel
theorem dX11_one_222 : decode cX11_one 222 = .ok (.iadd, 1) := by decide +kernel
theorem dX11_one_223 : decode cX11_one 223 = .ok (.putfield 193, 3) := by decide +kernel
theorem dX11_one_226 : decode cX11_one 226 = .ok (.goto (-50), 3) := by decide +kernel
theorem dX11_one_229 : decode cX11_one 229 = .ok (.iload 4, 2) := by decide +kernel
theorem dX11_one_231 : decode cX11_one 231 = .ok (.ifCond .ne 10, 3) := by decide +kernel
theorem dX11_one_234 : decode cX11_one 234 = .ok (.aload_n 0, 1) := by decide +kernel
theorem dX11_one_235 : decode cX11_one 235 = .ok (.invokevirtual 230, 3) := by decide +kernel
theorem dX11_one_238 : decode cX11_one 238 = .ok (.goto 4, 3) := by decide +kernel
theorem dX11_one_241 : decode cX11_one 241 = .ok (.iload_n 3, 1) := by decide +kernel
theorem dX11_one_242 : decode cX11_one 242 = .ok (.ireturn, 1) := by decide +kernel
theorem dX11_workOut_0 : decode cX11_workOut 0 = .ok (.aload_n 0, 1) := by decide +kernel
theorem dX11_workOut_1 : decode cX11_workOut 1 = .ok (.iload_n 1, 1) := by decide +kernel
theorem dX11_workOut_2 : decode cX11_workOut 2 = .ok (.putfield 199, 3) := by decide +kernel
theorem dX11_workOut_5 : decode cX11_workOut 5 = .ok (.aload_n 0, 1) := by decide +kernel
theorem dX11_workOut_6 : decode cX11_workOut 6 = .ok (.iconst 0, 1) := by decide +kernel
theorem dX11_workOut_7 : decode cX11_workOut 7 = .ok (.putfield 193, 3) := by decide +kernel
theorem dX11_workOut_10 : decode cX11_workOut 10 = .ok (.aload_n 0, 1) := by decide +kernel
theorem dX11_workOut_11 : decode cX11_workOut 11 = .ok (.iload_n 2, 1) := by decide +kernel
theorem dX11_workOut_12 : decode cX11_workOut 12 = .ok (.putfield 196, 3) := by decide +kernel
theorem dX11_workOut_15 : decode cX11_workOut 15 = .ok (.aload_n 0, 1) := by decide +kernel
theorem dX11_workOut_16 : decode cX11_workOut 16 = .ok (.iconst (-1), 1) := by decide +kernel
theorem dX11_workOut_17 : decode cX11_workOut 17 = .ok (.putfield 202, 3) := by decide +kernel
theorem dX11_workOut_20 : decode cX11_workOut 20 = .ok (.aload_n 0, 1) := by decide +kernel
theorem dX11_workOut_21 : decode cX11_workOut 21 = .ok (.iconst 0, 1) := by decide +kernel
theorem dX11_workOut_22 : decode cX11_workOut 22 = .ok (.putfield 227, 3) := by decide +kernel
theorem dX11_workOut_25 : decode cX11_workOut 25 = .ok (.iconst 0, 1) := by decide +kernel
theorem dX11_workOut_26 : decode cX11_workOut 26 = .ok (.istore_n 3, 1) := by decide +kernel
theorem dX11_workOut_27 : decode cX11_workOut 27 = .ok (.iconst 0, 1) := by decide +kernel
theorem dX11_workOut_28 : decode cX11_workOut 28 = .ok (.istore 4, 2) := by decide +kernel
theorem dX11_workOut_30 : decode cX11_workOut 30 = .ok (.iconst 1, 1) := by decide +kernel
theorem dX11_workOut_31 : decode cX11_workOut 31 = .ok (.istore 5, 2) := by decide +kernel
theorem dX11_workOut_33 : decode cX11_workOut 33 = .ok (.iload 5, 2) := by decide +kernel
theorem dX11_workOut_35 : decode cX11_workOut 35 = .ok (.ifCond .eq 72, 3) := by decide +kernel
theorem dX11_workOut_38 : decode cX11_workOut 38 = .ok (.aload_n 0, 1) := by decide +kernel
theorem dX11_workOut_39 : decode cX11_workOut 39 = .ok (.invokevirtual 233, 3) := by decide +kernel
theorem dX11_workOut_42 : decode cX11_workOut 42 = .ok (.istore 6, 2) := by decide +kernel
theorem dX11_workOut_44 : decode cX11_workOut 44 = .ok (.iconst 1, 1) := by decide +kernel
theorem dX11_workOut_45 : decode cX11_workOut 45 = .ok (.istore 7, 2) := by decide +kernel
theorem dX11_workOut_47 : decode cX11_workOut 47 = .ok (.aload_n 0, 1) := by decide +kernel
theorem dX11_workOut_48 : decode cX11_workOut 48 = .ok (.bipush 63, 2) := by decide +kernel
theorem dX11_workOut_50 : decode cX11_workOut 50 = .ok (.invokevirtual 212, 3) := by decide +kernel
theorem dX11_workOut_53 : decode cX11_workOut 53 = .ok (.ifCond .eq 21, 3) := by decide +kernel
theorem dX11_workOut_56 : decode cX11_workOut 56 = .ok (.iload 6, 2) := by decide +kernel
theorem dX11_workOut_58 : decode cX11_workOut 58 = .ok (.ifCond .eq 7, 3) := by decide +kernel
theorem dX11_workOut_61 : decode cX11_workOut 61 = .ok (.iconst 1, 1) := by decide +kernel
theorem dX11_workOut_62 : decode cX11_workOut 62 = .ok (.goto 4, 3) := by decide +kernel
theorem dX11_workOut_65 : decode cX11_workOut 65 = .ok (.iconst 0, 1) := by decide +kernel
theorem dX11_workOut_66 : decode cX11_workOut 66 = .ok (.istore 7, 2) := by decide +kernel
theorem dX11_workOut_68 : decode cX11_workOut 68 = .ok (.aload_n 0, 1) := by decide +kernel
theorem dX11_workOut_69 : decode cX11_workOut 69 = .ok (.invokevirtual 233, 3) := by decide +kernel
theorem dX11_workOut_72 : decode cX11_workOut 72 = .ok (.istore 6, 2) := by decide +kernel
theorem dX11_workOut_74 : decode cX11_workOut 74 = .ok (.aload_n 0, 1) := by decide +kernel
theorem dX11_workOut_75 : decode cX11_workOut 75 = .ok (.getfield 202, 3) := by decide +kernel
theorem dX11_workOut_78 : decode cX11_workOut 78 = .ok (.ifCond .ge 18, 3) := by decide +kernel
theorem dX11_workOut_81 : decode cX11_workOut 81 = .ok (.iload 7, 2) := by decide +kernel
theorem dX11_workOut_83 : decode cX11_workOut 83 = .ok (.ifCond .eq 13, 3) := by decide +kernel
theorem dX11_workOut_86 : decode cX11_workOut 86 = .ok (.iload_n 3, 1) := by decide +kernel
theorem dX11_workOut_87 : decode cX11_workOut 87 = .ok (.ifCond .ne 9, 3) := by decide +kernel
theorem dX11_workOut_90 : decode cX11_workOut 90 = .ok (.iconst 1, 1) := by decide +kernel
theorem dX11_workOut_91 : decode cX11_workOut 91 = .ok (.istore_n 3, 1) := by decide +kernel
theorem dX11_workOut_92 : decode cX11_workOut 92 = .ok (.iload 6, 2) := by decide +kernel
theorem dX11_workOut_94 : decode cX11_workOut 94 = .ok (.istore 4, 2) := by decide +kernel
theorem dX11_workOut_96 : decode cX11_workOut 96 = .ok (.aload_n 0, 1) := by decide +kernel
theorem dX11_workOut_97 : decode cX11_workOut 97 = .ok (.bipush 59, 2) := by decide +kernel
theorem dX11_workOut_99 : decode cX11_workOut 99 = .ok (.invokevirtual 212, 3) := by decide +kernel
theorem dX11_workOut_102 : decode cX11_workOut 102 = .ok (.istore 5, 2) := by decide +kernel
theorem dX11_workOut_104 : decode cX11_workOut 104 = .ok (.goto (-71), 3) := by decide +kernel
theorem dX11_workOut_107 : decode cX11_workOut 107 = .ok (.aload_n 0, 1) := by decide +kernel
theorem dX11_workOut_108 : decode cX11_workOut 108 = .ok (.getfield 202, 3) := by decide +kernel
theorem dX11_workOut_111 : decode cX11_workOut 111 = .ok (.ifCond .ge 19, 3) := by decide +kernel
theorem dX11_workOut_114 : decode cX11_workOut 114 = .ok (.aload_n 0, 1) := by decide +kernel
theorem dX11_workOut_115 : decode cX11_workOut 115 = .ok (.getfield 193, 3) := by decide +kernel
theorem dX11_workOut_118 : decode cX11_workOut 118 = .ok (.aload_n 0, 1) := by decide +kernel
theorem dX11_workOut_119 : decode cX11_workOut 119 = .ok (.getfield 196, 3) := by decide +kernel
theorem dX11_workOut_122 : decode cX11_workOut 122 = .ok (.if_icmp .ge 8, 3) := by decide +kernel
theorem dX11_workOut_125 : decode cX11_workOut 125 = .ok (.aload_n 0, 1) := by decide +kernel
theorem dX11_workOut_126 : decode cX11_workOut 126 = .ok (.invokevirtual 230, 3) := by decide +kernel
theorem dX11_workOut_129 : decode cX11_workOut 129 = .ok (.ireturn, 1) := by decide +kernel
theorem dX11_workOut_130 : decode cX11_workOut 130 = .ok (.iload 4, 2) := by decide +kernel
theorem dX11_workOut_132 : decode cX11_workOut 132 = .ok (.ireturn, 1) := by decide +kernel
theorem dX11_law_0 : decode cX11_law 0 = .ok (.aload_n 0, 1) := by decide +kernel
theorem dX11_law_1 : decode cX11_law 1 = .ok (.iconst (-1), 1) := by decide +kernel
theorem dX11_law_2 : decode cX11_law 2 = .ok (.aload_n 0, 1) := by decide +kernel
theorem dX11_law_3 : decode cX11_law 3 = .ok (.getfield 190, 3) := by decide +kernel
theorem dX11_law_6 : decode cX11_law 6 = .ok (.invokevirtual 240, 3) := by decide +kernel
theorem dX11_law_9 : decode cX11_law 9 = .ok (.istore_n 1, 1) := by decide +kernel
theorem dX11_law_10 : decode cX11_law 10 = .ok (.aload_n 0, 1) := by decide +kernel
theorem dX11_law_11 : decode cX11_law 11 = .ok (.getfield 190, 3) := by decide +kernel
theorem dX11_law_14 : decode cX11_law 14 = .ok (.istore_n 2, 1) := by decide +kernel
theorem dX11_law_15 : decode cX11_law 15 = .ok (.aload_n 0, 1) := by decide +kernel
theorem dX11_law_16 : decode cX11_law 16 = .ok (.iconst 0, 1) := by decide +kernel
theorem dX11_law_17 : decode cX11_law 17 = .ok (.putfield 190, 3) := by decide +kernel
theorem dX11_law_20 : decode cX11_law 20 = .ok (.aload_n 0, 1) := by decide +kernel
theorem dX11_law_21 : decode cX11_law 21 = .ok (.getfield 202, 3) := by decide +kernel
theorem dX11_law_24 : decode cX11_law 24 = .ok (.ifCond .lt 11, 3) := by decide +kernel
theorem dX11_law_27 : decode cX11_law 27 = .ok (.bipush (-100), 2) := by decide +kernel
theorem dX11_law_29 : decode cX11_law 29 = .ok (.aload_n 0, 1) := by decide +kernel
theorem dX11_law_30 : decode cX11_law 30 = .ok (.getfield 202, 3) := by decide +kernel
theorem dX11_law_33 : decode cX11_law 33 = .ok (.isub, 1) := by decide +kernel
theorem dX11_law_34 : decode cX11_law 34 = .ok (.ireturn, 1) := by decide +kernel
theorem dX11_law_35 : decode cX11_law 35 = .ok (.iconst 0, 1) := by decide +kernel
theorem dX11_law_36 : decode cX11_law 36 = .ok (.istore_n 3, 1) := by decide +kernel
theorem dX11_law_37 : decode cX11_law 37 = .ok (.iload_n 3, 1) := by decide +kernel
theorem dX11_law_38 : decode cX11_law 38 = .ok (.iload_n 2, 1) := by decide +kernel
theorem dX11_law_39 : decode cX11_law 39 = .ok (.if_icmp .ge 21, 3) := by decide +kernel
theorem dX11_law_42 : decode cX11_law 42 = .ok (.aload_n 0, 1) := by decide +kernel
theorem dX11_law_43 : decode cX11_law 43 = .ok (.getfield 58, 3) := by decide +kernel
theorem dX11_law_46 : decode cX11_law 46 = .ok (.iload_n 3, 1) := by decide +kernel
theorem dX11_law_47 : decode cX11_law 47 = .ok (.aload_n 0, 1) := by decide +kernel
theorem dX11_law_48 : decode cX11_law 48 = .ok (.getfield 55, 3) := by decide +kernel
theorem dX11_law_51 : decode cX11_law 51 = .ok (.iload_n 3, 1) := by decide +kernel
theorem dX11_law_52 : decode cX11_law 52 = .ok (.iaload, 1) := by decide +kernel
theorem dX11_law_53 : decode cX11_law 53 = .ok (.iastore, 1) := by decide +kernel
theorem dX11_law_54 : decode cX11_law 54 = .ok (.iinc 3 1, 3) := by decide +kernel
theorem dX11_law_57 : decode cX11_law 57 = .ok (.goto (-20), 3) := by decide +kernel
theorem dX11_law_60 : decode cX11_law 60 = .ok (.aload_n 0, 1) := by decide +kernel
theorem dX11_law_61 : decode cX11_law 61 = .ok (.iload_n 2, 1) := by decide +kernel
theorem dX11_law_62 : decode cX11_law 62 = .ok (.putfield 114, 3) := by decide +kernel
theorem dX11_law_65 : decode cX11_law 65 = .ok (.iconst 1, 1) := by decide +kernel
theorem dX11_law_66 : decode cX11_law 66 = .ok (.ireturn, 1) := by decide +kernel
theorem dX11_numberOf_0 : decode cX11_numberOf 0 = .ok (.bipush 7, 2) := by decide +kernel
theorem dX11_numberOf_2 : decode cX11_numberOf 2 = .ok (.iconst 2, 1) := by decide +kernel
theorem dX11_numberOf_3 : decode cX11_numberOf 3 = .ok (.iload_n 1, 1) := by decide +kernel
theorem dX11_numberOf_4 : decode cX11_numberOf 4 = .ok (.imul, 1) := by decide +kernel
theorem dX11_numberOf_5 : decode cX11_numberOf 5 = .ok (.isub, 1) := by decide +kernel
theorem dX11_numberOf_6 : decode cX11_numberOf 6 = .ok (.istore 5, 2) := by decide +kernel
theorem dX11_numberOf_8 : decode cX11_numberOf 8 = .ok (.aload_n 0, 1) := by decide +kernel
theorem dX11_numberOf_9 : decode cX11_numberOf 9 = .ok (.getfield 114, 3) := by decide +kernel
theorem dX11_numberOf_12 : decode cX11_numberOf 12 = .ok (.ifCond .lt 43, 3) := by decide +kernel
theorem dX11_numberOf_15 : decode cX11_numberOf 15 = .ok (.aload_n 0, 1) := by decide +kernel
theorem dX11_numberOf_16 : decode cX11_numberOf 16 = .ok (.getfield 61, 3) := by decide +kernel
theorem dX11_numberOf_19 : decode cX11_numberOf 19 = .ok (.iconst 0, 1) := by decide +kernel
theorem dX11_numberOf_20 : decode cX11_numberOf 20 = .ok (.iload_n 1, 1) := by decide +kernel
theorem dX11_numberOf_21 : decode cX11_numberOf 21 = .ok (.iastore, 1) := by decide +kernel
theorem dX11_numberOf_22 : decode cX11_numberOf 22 = .ok (.aload_n 0, 1) := by decide +kernel
theorem dX11_numberOf_23 : decode cX11_numberOf 23 = .ok (.getfield 61, 3) := by decide +kernel
theorem dX11_numberOf_26 : decode cX11_numberOf 26 = .ok (.iconst 1, 1) := by decide +kernel
theorem dX11_numberOf_27 : decode cX11_numberOf 27 = .ok (.iload_n 2, 1) := by decide +kernel
theorem dX11_numberOf_28 : decode cX11_numberOf 28 = .ok (.iastore, 1) := by decide +kernel
theorem dX11_numberOf_29 : decode cX11_numberOf 29 = .ok (.aload_n 0, 1) := by decide +kernel
theorem dX11_numberOf_30 : decode cX11_numberOf 30 = .ok (.getfield 61, 3) := by decide +kernel
theorem dX11_numberOf_33 : decode cX11_numberOf 33 = .ok (.iconst 2, 1) := by decide +kernel
theorem dX11_numberOf_34 : decode cX11_numberOf 34 = .ok (.iload_n 3, 1) := by decide +kernel
theorem dX11_numberOf_35 : decode cX11_numberOf 35 = .ok (.iastore, 1) := by decide +kernel
theorem dX11_numberOf_36 : decode cX11_numberOf 36 = .ok (.aload_n 0, 1) := by decide +kernel
theorem dX11_numberOf_37 : decode cX11_numberOf 37 = .ok (.getfield 61, 3) := by decide +kernel
theorem dX11_numberOf_40 : decode cX11_numberOf 40 = .ok (.iconst 3, 1) := by decide +kernel
theorem dX11_numberOf_41 : decode cX11_numberOf 41 = .ok (.iload 4, 2) := by decide +kernel
theorem dX11_numberOf_43 : decode cX11_numberOf 43 = .ok (.iastore, 1) := by decide +kernel
theorem dX11_numberOf_44 : decode cX11_numberOf 44 = .ok (.aload_n 0, 1) := by decide +kernel
theorem dX11_numberOf_45 : decode cX11_numberOf 45 = .ok (.iconst 0, 1) := by decide +kernel
theorem dX11_numberOf_46 : decode cX11_numberOf 46 = .ok (.aload_n 0, 1) := by decide +kernel
theorem dX11_numberOf_47 : decode cX11_numberOf 47 = .ok (.getfield 114, 3) := by decide +kernel
theorem dX11_numberOf_50 : decode cX11_numberOf 50 = .ok (.invokevirtual 240, 3) := by decide +kernel
theorem dX11_numberOf_53 : decode cX11_numberOf 53 = .ok (.istore 5, 2) := by decide +kernel
theorem dX11_numberOf_55 : decode cX11_numberOf 55 = .ok (.iload 5, 2) := by decide +kernel
theorem dX11_numberOf_57 : decode cX11_numberOf 57 = .ok (.ifCond .ge 7, 3) := by decide +kernel
theorem dX11_numberOf_60 : decode cX11_numberOf 60 = .ok (.iconst 0, 1) := by decide +kernel
theorem dX11_numberOf_61 : decode cX11_numberOf 61 = .ok (.goto 17, 3) := by decide +kernel
theorem dX11_numberOf_64 : decode cX11_numberOf 64 = .ok (.iload 5, 2) := by decide +kernel
theorem dX11_numberOf_66 : decode cX11_numberOf 66 = .ok (.bipush 12, 2) := by decide +kernel
theorem dX11_numberOf_68 : decode cX11_numberOf 68 = .ok (.if_icmp .le 8, 3) := by decide +kernel
theorem dX11_numberOf_71 : decode cX11_numberOf 71 = .ok (.bipush 12, 2) := by decide +kernel
theorem dX11_numberOf_73 : decode cX11_numberOf 73 = .ok (.goto 5, 3) := by decide +kernel
theorem dX11_numberOf_76 : decode cX11_numberOf 76 = .ok (.iload 5, 2) := by decide +kernel
theorem dX11_numberOf_78 : decode cX11_numberOf 78 = .ok (.ireturn, 1) := by decide +kernel
theorem dX11_placeOf_0 : decode cX11_placeOf 0 = .ok (.iload_n 0, 1) := by decide +kernel
theorem dX11_placeOf_1 : decode cX11_placeOf 1 = .ok (.iconst 4, 1) := by decide +kernel
theorem dX11_placeOf_2 : decode cX11_placeOf 2 = .ok (.imul, 1) := by decide +kernel
theorem dX11_placeOf_3 : decode cX11_placeOf 3 = .ok (.iload_n 1, 1) := by decide +kernel
theorem dX11_placeOf_4 : decode cX11_placeOf 4 = .ok (.iadd, 1) := by decide +kernel
theorem dX11_placeOf_5 : decode cX11_placeOf 5 = .ok (.iconst 3, 1) := by decide +kernel
theorem dX11_placeOf_6 : decode cX11_placeOf 6 = .ok (.imul, 1) := by decide +kernel
theorem dX11_placeOf_7 : decode cX11_placeOf 7 = .ok (.iload_n 2, 1) := by decide +kernel
theorem dX11_placeOf_8 : decode cX11_placeOf 8 = .ok (.iadd, 1) := by decide +kernel
theorem dX11_placeOf_9 : decode cX11_placeOf 9 = .ok (.bipush 100, 2) := by decide +kernel
theorem dX11_placeOf_11 : decode cX11_placeOf 11 = .ok (.imul, 1) := by decide +kernel
theorem dX11_placeOf_12 : decode cX11_placeOf 12 = .ok (.iload_n 3, 1) := by decide +kernel
theorem dX11_placeOf_13 : decode cX11_placeOf 13 = .ok (.iadd, 1) := by decide +kernel
theorem dX11_placeOf_14 : decode cX11_placeOf 14 = .ok (.ireturn, 1) := by decide +kernel
theorem dX11_wearsAt_0 : decode cX11_wearsAt 0 = .ok (.aload_n 0, 1) := by decide +kernel
theorem dX11_wearsAt_1 : decode cX11_wearsAt 1 = .ok (.getfield 68, 3) := by decide +kernel
theorem dX11_wearsAt_4 : decode cX11_wearsAt 4 = .ok (.iload_n 1, 1) := by decide +kernel
theorem dX11_wearsAt_5 : decode cX11_wearsAt 5 = .ok (.iconst 2, 1) := by decide +kernel
theorem dX11_wearsAt_6 : decode cX11_wearsAt 6 = .ok (.imul, 1) := by decide +kernel
theorem dX11_wearsAt_7 : decode cX11_wearsAt 7 = .ok (.iload_n 2, 1) := by decide +kernel
theorem dX11_wearsAt_8 : decode cX11_wearsAt 8 = .ok (.iconst 2, 1) := by decide +kernel
theorem dX11_wearsAt_9 : decode cX11_wearsAt 9 = .ok (.if_icmp .ne 7, 3) := by decide +kernel
theorem dX11_wearsAt_12 : decode cX11_wearsAt 12 = .ok (.iconst 0, 1) := by decide +kernel
theorem dX11_wearsAt_13 : decode cX11_wearsAt 13 = .ok (.goto 4, 3) := by decide +kernel
theorem dX11_wearsAt_16 : decode cX11_wearsAt 16 = .ok (.iconst 1, 1) := by decide +kernel
theorem dX11_wearsAt_17 : decode cX11_wearsAt 17 = .ok (.iadd, 1) := by decide +kernel
theorem dX11_wearsAt_18 : decode cX11_wearsAt 18 = .ok (.bipush 100, 2) := by decide +kernel
theorem dX11_wearsAt_20 : decode cX11_wearsAt 20 = .ok (.imul, 1) := by decide +kernel
theorem dX11_wearsAt_21 : decode cX11_wearsAt 21 = .ok (.iload_n 3, 1) := by decide +kernel
theorem dX11_wearsAt_22 : decode cX11_wearsAt 22 = .ok (.iadd, 1) := by decide +kernel
theorem dX11_wearsAt_23 : decode cX11_wearsAt 23 = .ok (.iaload, 1) := by decide +kernel
theorem dX11_wearsAt_24 : decode cX11_wearsAt 24 = .ok (.ireturn, 1) := by decide +kernel
theorem dX11_thinksOf_0 : decode cX11_thinksOf 0 = .ok (.aload_n 0, 1) := by decide +kernel
theorem dX11_thinksOf_1 : decode cX11_thinksOf 1 = .ok (.getfield 64, 3) := by decide +kernel
theorem dX11_thinksOf_4 : decode cX11_thinksOf 4 = .ok (.iconst 0, 1) := by decide +kernel
theorem dX11_thinksOf_5 : decode cX11_thinksOf 5 = .ok (.lconst 1, 1) := by decide +kernel
theorem dX11_thinksOf_6 : decode cX11_thinksOf 6 = .ok (.lastore, 1) := by decide +kernel
theorem dX11_thinksOf_7 : decode cX11_thinksOf 7 = .ok (.iconst 1, 1) := by decide +kernel
theorem dX11_thinksOf_8 : decode cX11_thinksOf 8 = .ok (.istore 4, 2) := by decide +kernel
theorem dX11_thinksOf_10 : decode cX11_thinksOf 10 = .ok (.iload 4, 2) := by decide +kernel
theorem dX11_thinksOf_12 : decode cX11_thinksOf 12 = .ok (.bipush 6, 2) := by decide +kernel
theorem dX11_thinksOf_14 : decode cX11_thinksOf 14 = .ok (.if_icmp .gt 29, 3) := by decide +kernel
theorem dX11_thinksOf_17 : decode cX11_thinksOf 17 = .ok (.aload_n 0, 1) := by decide +kernel
theorem dX11_thinksOf_18 : decode cX11_thinksOf 18 = .ok (.getfield 64, 3) := by decide +kernel
theorem dX11_thinksOf_21 : decode cX11_thinksOf 21 = .ok (.iload 4, 2) := by decide +kernel
theorem dX11_thinksOf_23 : decode cX11_thinksOf 23 = .ok (.ldc2_w 243, 3) := by decide +kernel
theorem dX11_thinksOf_26 : decode cX11_thinksOf 26 = .ok (.aload_n 0, 1) := by decide +kernel
theorem dX11_thinksOf_27 : decode cX11_thinksOf 27 = .ok (.getfield 64, 3) := by decide +kernel
theorem dX11_thinksOf_30 : decode cX11_thinksOf 30 = .ok (.iload 4, 2) := by decide +kernel
theorem dX11_thinksOf_32 : decode cX11_thinksOf 32 = .ok (.iconst 1, 1) := by decide +kernel
theorem dX11_thinksOf_33 : decode cX11_thinksOf 33 = .ok (.isub, 1) := by decide +kernel
theorem dX11_thinksOf_34 : decode cX11_thinksOf 34 = .ok (.laload, 1) := by decide +kernel
theorem dX11_thinksOf_35 : decode cX11_thinksOf 35 = .ok (.lmul, 1) := by decide +kernel
theorem dX11_thinksOf_36 : decode cX11_thinksOf 36 = .ok (.lastore, 1) := by decide +kernel
theorem dX11_thinksOf_37 : decode cX11_thinksOf 37 = .ok (.iinc 4 1, 3) := by decide +kernel
theorem dX11_thinksOf_40 : decode cX11_thinksOf 40 = .ok (.goto (-30), 3) := by decide +kernel
theorem dX11_thinksOf_43 : decode cX11_thinksOf 43 = .ok (.iconst 1, 1) := by decide +kernel
theorem dX11_thinksOf_44 : decode cX11_thinksOf 44 = .ok (.istore 4, 2) := by decide +kernel
theorem dX11_thinksOf_46 : decode cX11_thinksOf 46 = .ok (.iload 4, 2) := by decide +kernel
theorem dX11_thinksOf_48 : decode cX11_thinksOf 48 = .ok (.iconst 4, 1) := by decide +kernel
theorem dX11_thinksOf_49 : decode cX11_thinksOf 49 = .ok (.if_icmp .ge 77, 3) := by decide +kernel
theorem dX11_thinksOf_52 : decode cX11_thinksOf 52 = .ok (.iconst 0, 1) := by decide +kernel
theorem dX11_thinksOf_53 : decode cX11_thinksOf 53 = .ok (.istore 5, 2) := by decide +kernel
theorem dX11_thinksOf_55 : decode cX11_thinksOf 55 = .ok (.iload 5, 2) := by decide +kernel
theorem dX11_thinksOf_57 : decode cX11_thinksOf 57 = .ok (.bipush 100, 2) := by decide +kernel
theorem dX11_thinksOf_59 : decode cX11_thinksOf 59 = .ok (.if_icmp .ge 61, 3) := by decide +kernel
theorem dX11_thinksOf_62 : decode cX11_thinksOf 62 = .ok (.aload_n 0, 1) := by decide +kernel
theorem dX11_thinksOf_63 : decode cX11_thinksOf 63 = .ok (.getfield 68, 3) := by decide +kernel
theorem dX11_thinksOf_66 : decode cX11_thinksOf 66 = .ok (.iload 4, 2) := by decide +kernel
theorem dX11_thinksOf_68 : decode cX11_thinksOf 68 = .ok (.iconst 2, 1) := by decide +kernel
theorem dX11_thinksOf_69 : decode cX11_thinksOf 69 = .ok (.imul, 1) := by decide +kernel
theorem dX11_thinksOf_70 : decode cX11_thinksOf 70 = .ok (.bipush 100, 2) := by decide +kernel
theorem dX11_thinksOf_72 : decode cX11_thinksOf 72 = .ok (.imul, 1) := by decide +kernel
theorem dX11_thinksOf_73 : decode cX11_thinksOf 73 = .ok (.iload 5, 2) := by decide +kernel
theorem dX11_thinksOf_75 : decode cX11_thinksOf 75 = .ok (.iadd, 1) := by decide +kernel
theorem dX11_thinksOf_76 : decode cX11_thinksOf 76 = .ok (.aload_n 0, 1) := by decide +kernel
theorem dX11_thinksOf_77 : decode cX11_thinksOf 77 = .ok (.iload 4, 2) := by decide +kernel
theorem dX11_thinksOf_79 : decode cX11_thinksOf 79 = .ok (.iload_n 1, 1) := by decide +kernel
theorem dX11_thinksOf_80 : decode cX11_thinksOf 80 = .ok (.iload 5, 2) := by decide +kernel
theorem dX11_thinksOf_82 : decode cX11_thinksOf 82 = .ok (.iconst 0, 1) := by decide +kernel
theorem dX11_thinksOf_83 : decode cX11_thinksOf 83 = .ok (.invokevirtual 173, 3) := by decide +kernel
theorem dX11_thinksOf_86 : decode cX11_thinksOf 86 = .ok (.iastore, 1) := by decide +kernel
theorem dX11_thinksOf_87 : decode cX11_thinksOf 87 = .ok (.aload_n 0, 1) := by decide +kernel
theorem dX11_thinksOf_88 : decode cX11_thinksOf 88 = .ok (.getfield 68, 3) := by decide +kernel
theorem dX11_thinksOf_91 : decode cX11_thinksOf 91 = .ok (.iload 4, 2) := by decide +kernel
theorem dX11_thinksOf_93 : decode cX11_thinksOf 93 = .ok (.iconst 2, 1) := by decide +kernel
theorem dX11_thinksOf_94 : decode cX11_thinksOf 94 = .ok (.imul, 1) := by decide +kernel
theorem dX11_thinksOf_95 : decode cX11_thinksOf 95 = .ok (.iconst 1, 1) := by decide +kernel
theorem dX11_thinksOf_96 : decode cX11_thinksOf 96 = .ok (.iadd, 1) := by decide +kernel
theorem dX11_thinksOf_97 : decode cX11_thinksOf 97 = .ok (.bipush 100, 2) := by decide +kernel
theorem dX11_thinksOf_99 : decode cX11_thinksOf 99 = .ok (.imul, 1) := by decide +kernel
theorem dX11_thinksOf_100 : decode cX11_thinksOf 100 = .ok (.iload 5, 2) := by decide +kernel
theorem dX11_thinksOf_102 : decode cX11_thinksOf 102 = .ok (.iadd, 1) := by decide +kernel
theorem dX11_thinksOf_103 : decode cX11_thinksOf 103 = .ok (.aload_n 0, 1) := by decide +kernel
theorem dX11_thinksOf_104 : decode cX11_thinksOf 104 = .ok (.iload 4, 2) := by decide +kernel
theorem dX11_thinksOf_106 : decode cX11_thinksOf 106 = .ok (.iload_n 1, 1) := by decide +kernel
theorem dX11_thinksOf_107 : decode cX11_thinksOf 107 = .ok (.iload 5, 2) := by decide +kernel
theorem dX11_thinksOf_109 : decode cX11_thinksOf 109 = .ok (.iconst 1, 1) := by decide +kernel
theorem dX11_thinksOf_110 : decode cX11_thinksOf 110 = .ok (.invokevirtual 173, 3) := by decide +kernel
theorem dX11_thinksOf_113 : decode cX11_thinksOf 113 = .ok (.iastore, 1) := by decide +kernel
theorem dX11_thinksOf_114 : decode cX11_thinksOf 114 = .ok (.iinc 5 1, 3) := by decide +kernel
theorem dX11_thinksOf_117 : decode cX11_thinksOf 117 = .ok (.goto (-62), 3) := by decide +kernel
theorem dX11_thinksOf_120 : decode cX11_thinksOf 120 = .ok (.iinc 4 1, 3) := by decide +kernel
theorem dX11_thinksOf_123 : decode cX11_thinksOf 123 = .ok (.goto (-77), 3) := by decide +kernel
theorem dX11_thinksOf_126 : decode cX11_thinksOf 126 = .ok (.aload_n 0, 1) := by decide +kernel
theorem dX11_thinksOf_127 : decode cX11_thinksOf 127 = .ok (.aload_n 0, 1) := by decide +kernel
theorem dX11_thinksOf_128 : decode cX11_thinksOf 128 = .ok (.getfield 9, 3) := by decide +kernel
theorem dX11_thinksOf_131 : decode cX11_thinksOf 131 = .ok (.iload_n 2, 1) := by decide +kernel
theorem dX11_thinksOf_132 : decode cX11_thinksOf 132 = .ok (.iaload, 1) := by decide +kernel
theorem dX11_thinksOf_133 : decode cX11_thinksOf 133 = .ok (.putfield 245, 3) := by decide +kernel
theorem dX11_thinksOf_136 : decode cX11_thinksOf 136 = .ok (.aload_n 0, 1) := by decide +kernel
theorem dX11_thinksOf_137 : decode cX11_thinksOf 137 = .ok (.aload_n 0, 1) := by decide +kernel
theorem dX11_thinksOf_138 : decode cX11_thinksOf 138 = .ok (.getfield 9, 3) := by decide +kernel
theorem dX11_thinksOf_141 : decode cX11_thinksOf 141 = .ok (.iconst 5, 1) := by decide +kernel
theorem dX11_thinksOf_142 : decode cX11_thinksOf 142 = .ok (.iload_n 2, 1) := by decide +kernel
theorem dX11_thinksOf_143 : decode cX11_thinksOf 143 = .ok (.iadd, 1) := by decide +kernel
theorem dX11_thinksOf_144 : decode cX11_thinksOf 144 = .ok (.iaload, 1) := by decide +kernel
theorem dX11_thinksOf_145 : decode cX11_thinksOf 145 = .ok (.putfield 248, 3) := by decide +kernel
theorem dX11_thinksOf_148 : decode cX11_thinksOf 148 = .ok (.aload_n 0, 1) := by decide +kernel
theorem dX11_thinksOf_149 : decode cX11_thinksOf 149 = .ok (.iload_n 3, 1) := by decide +kernel
theorem dX11_thinksOf_150 : decode cX11_thinksOf 150 = .ok (.putfield 251, 3) := by decide +kernel
theorem dX11_thinksOf_153 : decode cX11_thinksOf 153 = .ok (.aload_n 0, 1) := by decide +kernel
theorem dX11_thinksOf_154 : decode cX11_thinksOf 154 = .ok (.aload_n 0, 1) := by decide +kernel
theorem dX11_thinksOf_155 : decode cX11_thinksOf 155 = .ok (.getfield 9, 3) := by decide +kernel
theorem dX11_thinksOf_158 : decode cX11_thinksOf 158 = .ok (.bipush 15, 2) := by decide +kernel
theorem dX11_thinksOf_160 : decode cX11_thinksOf 160 = .ok (.iload_n 1, 1) := by decide +kernel
theorem dX11_thinksOf_161 : decode cX11_thinksOf 161 = .ok (.iadd, 1) := by decide +kernel
theorem dX11_thinksOf_162 : decode cX11_thinksOf 162 = .ok (.iaload, 1) := by decide +kernel
theorem dX11_thinksOf_163 : decode cX11_thinksOf 163 = .ok (.putfield 254, 3) := by decide +kernel
theorem dX11_thinksOf_166 : decode cX11_thinksOf 166 = .ok (.aload_n 0, 1) := by decide +kernel
theorem dX11_thinksOf_167 : decode cX11_thinksOf 167 = .ok (.aload_n 0, 1) := by decide +kernel
theorem dX11_thinksOf_168 : decode cX11_thinksOf 168 = .ok (.getfield 9, 3) := by decide +kernel
theorem dX11_thinksOf_171 : decode cX11_thinksOf 171 = .ok (.bipush 21, 2) := by decide +kernel
theorem dX11_thinksOf_173 : decode cX11_thinksOf 173 = .ok (.iload_n 1, 1) := by decide +kernel
theorem dX11_thinksOf_174 : decode cX11_thinksOf 174 = .ok (.iadd, 1) := by decide +kernel
theorem dX11_thinksOf_175 : decode cX11_thinksOf 175 = .ok (.iaload, 1) := by decide +kernel
theorem dX11_thinksOf_176 : decode cX11_thinksOf 176 = .ok (.putfield 257, 3) := by decide +kernel
theorem dX11_thinksOf_179 : decode cX11_thinksOf 179 = .ok (.return_, 1) := by decide +kernel
theorem dX11_isForgotten_0 : decode cX11_isForgotten 0 = .ok (.aload_n 0, 1) := by decide +kernel
theorem dX11_isForgotten_1 : decode cX11_isForgotten 1 = .ok (.getfield 153, 3) := by decide +kernel
theorem dX11_isForgotten_4 : decode cX11_isForgotten 4 = .ok (.ifCond .le 15, 3) := by decide +kernel
theorem dX11_isForgotten_7 : decode cX11_isForgotten 7 = .ok (.iload_n 1, 1) := by decide +kernel
theorem dX11_isForgotten_8 : decode cX11_isForgotten 8 = .ok (.aload_n 0, 1) := by decide +kernel
theorem dX11_isForgotten_9 : decode cX11_isForgotten 9 = .ok (.getfield 153, 3) := by decide +kernel
theorem dX11_isForgotten_12 : decode cX11_isForgotten 12 = .ok (.if_icmp .lt 7, 3) := by decide +kernel
theorem dX11_isForgotten_15 : decode cX11_isForgotten 15 = .ok (.iconst 1, 1) := by decide +kernel
theorem dX11_isForgotten_16 : decode cX11_isForgotten 16 = .ok (.goto 4, 3) := by decide +kernel
theorem dX11_isForgotten_19 : decode cX11_isForgotten 19 = .ok (.iconst 0, 1) := by decide +kernel
theorem dX11_isForgotten_20 : decode cX11_isForgotten 20 = .ok (.ireturn, 1) := by decide +kernel
theorem dX11_goes_0 : decode cX11_goes 0 = .ok (.aload_n 0, 1) := by decide +kernel
theorem dX11_goes_1 : decode cX11_goes 1 = .ok (.iload_n 2, 1) := by decide +kernel
theorem dX11_goes_2 : decode cX11_goes 2 = .ok (.iload_n 3, 1) := by decide +kernel
theorem dX11_goes_3 : decode cX11_goes 3 = .ok (.iload 4, 2) := by decide +kernel
theorem dX11_goes_5 : decode cX11_goes 5 = .ok (.invokevirtual 260, 3) := by decide +kernel
theorem dX11_goes_8 : decode cX11_goes 8 = .ok (.istore 5, 2) := by decide +kernel
theorem dX11_goes_10 : decode cX11_goes 10 = .ok (.iload 4, 2) := by decide +kernel
theorem dX11_goes_12 : decode cX11_goes 12 = .ok (.bipush 99, 2) := by decide +kernel
theorem dX11_goes_14 : decode cX11_goes 14 = .ok (.if_icmp .ge 10, 3) := by decide +kernel
theorem dX11_goes_17 : decode cX11_goes 17 = .ok (.iload 4, 2) := by decide +kernel
theorem dX11_goes_19 : decode cX11_goes 19 = .ok (.iconst 1, 1) := by decide +kernel
theorem dX11_goes_20 : decode cX11_goes 20 = .ok (.iadd, 1) := by decide +kernel
theorem dX11_goes_21 : decode cX11_goes 21 = .ok (.goto 5, 3) := by decide +kernel
theorem dX11_goes_24 : decode cX11_goes 24 = .ok (.iload 4, 2) := by decide +kernel
theorem dX11_goes_26 : decode cX11_goes 26 = .ok (.istore 6, 2) := by decide +kernel
theorem dX11_goes_28 : decode cX11_goes 28 = .ok (.aload_n 0, 1) := by decide +kernel
theorem dX11_goes_29 : decode cX11_goes 29 = .ok (.getfield 254, 3) := by decide +kernel
theorem dX11_goes_32 : decode cX11_goes 32 = .ok (.i2l, 1) := by decide +kernel
theorem dX11_goes_33 : decode cX11_goes 33 = .ok (.aload_n 0, 1) := by decide +kernel
theorem dX11_goes_34 : decode cX11_goes 34 = .ok (.getfield 64, 3) := by decide +kernel
theorem dX11_goes_37 : decode cX11_goes 37 = .ok (.iload_n 1, 1) := by decide +kernel
theorem dX11_goes_38 : decode cX11_goes 38 = .ok (.iconst 1, 1) := by decide +kernel
theorem dX11_goes_39 : decode cX11_goes 39 = .ok (.isub, 1) := by decide +kernel
theorem dX11_goes_40 : decode cX11_goes 40 = .ok (.laload, 1) := by decide +kernel
theorem dX11_goes_41 : decode cX11_goes 41 = .ok (.lmul, 1) := by decide +kernel
theorem dX11_goes_42 : decode cX11_goes 42 = .ok (.aload_n 0, 1) := by decide +kernel
theorem dX11_goes_43 : decode cX11_goes 43 = .ok (.getfield 71, 3) := by decide +kernel
theorem dX11_goes_46 : decode cX11_goes 46 = .ok (.iload_n 1, 1) := by decide +kernel
theorem dX11_goes_47 : decode cX11_goes 47 = .ok (.iconst 1, 1) := by decide +kernel
theorem dX11_goes_48 : decode cX11_goes 48 = .ok (.isub, 1) := by decide +kernel
theorem dX11_goes_49 : decode cX11_goes 49 = .ok (.iload_n 2, 1) := by decide +kernel
theorem dX11_goes_50 : decode cX11_goes 50 = .ok (.iload_n 3, 1) := by decide +kernel
theorem dX11_goes_51 : decode cX11_goes 51 = .ok (.iload 6, 2) := by decide +kernel
theorem dX11_goes_53 : decode cX11_goes 53 = .ok (.invokestatic 264, 3) := by decide +kernel
theorem dX11_goes_56 : decode cX11_goes 56 = .ok (.laload, 1) := by decide +kernel
theorem dX11_goes_57 : decode cX11_goes 57 = .ok (.ladd, 1) := by decide +kernel
theorem dX11_goes_58 : decode cX11_goes 58 = .ok (.lstore 7, 2) := by decide +kernel
theorem dX11_goes_60 : decode cX11_goes 60 = .ok (.iload_n 2, 1) := by decide +kernel
theorem dX11_goes_61 : decode cX11_goes 61 = .ok (.iconst 1, 1) := by decide +kernel
theorem dX11_goes_62 : decode cX11_goes 62 = .ok (.if_icmp .le 40, 3) := by decide +kernel
theorem dX11_goes_65 : decode cX11_goes 65 = .ok (.aload_n 0, 1) := by decide +kernel
theorem dX11_goes_66 : decode cX11_goes 66 = .ok (.getfield 254, 3) := by decide +kernel
theorem dX11_goes_69 : decode cX11_goes 69 = .ok (.i2l, 1) := by decide +kernel
theorem dX11_goes_70 : decode cX11_goes 70 = .ok (.aload_n 0, 1) := by decide +kernel
theorem dX11_goes_71 : decode cX11_goes 71 = .ok (.getfield 64, 3) := by decide +kernel
theorem dX11_goes_74 : decode cX11_goes 74 = .ok (.iload_n 1, 1) := by decide +kernel
theorem dX11_goes_75 : decode cX11_goes 75 = .ok (.iconst 1, 1) := by decide +kernel
theorem dX11_goes_76 : decode cX11_goes 76 = .ok (.isub, 1) := by decide +kernel
theorem dX11_goes_77 : decode cX11_goes 77 = .ok (.laload, 1) := by decide +kernel
theorem dX11_goes_78 : decode cX11_goes 78 = .ok (.lmul, 1) := by decide +kernel
theorem dX11_goes_79 : decode cX11_goes 79 = .ok (.aload_n 0, 1) := by decide +kernel
theorem dX11_goes_80 : decode cX11_goes 80 = .ok (.getfield 71, 3) := by decide +kernel
theorem dX11_goes_83 : decode cX11_goes 83 = .ok (.iload_n 1, 1) := by decide +kernel
theorem dX11_goes_84 : decode cX11_goes 84 = .ok (.iconst 1, 1) := by decide +kernel
theorem dX11_goes_85 : decode cX11_goes 85 = .ok (.isub, 1) := by decide +kernel
theorem dX11_goes_86 : decode cX11_goes 86 = .ok (.iload_n 2, 1) := by decide +kernel
theorem dX11_goes_87 : decode cX11_goes 87 = .ok (.iconst 1, 1) := by decide +kernel
theorem dX11_goes_88 : decode cX11_goes 88 = .ok (.isub, 1) := by decide +kernel
theorem dX11_goes_89 : decode cX11_goes 89 = .ok (.iload_n 3, 1) := by decide +kernel
theorem dX11_goes_90 : decode cX11_goes 90 = .ok (.iload 6, 2) := by decide +kernel
theorem dX11_goes_92 : decode cX11_goes 92 = .ok (.invokestatic 264, 3) := by decide +kernel
theorem dX11_goes_95 : decode cX11_goes 95 = .ok (.laload, 1) := by decide +kernel
theorem dX11_goes_96 : decode cX11_goes 96 = .ok (.ladd, 1) := by decide +kernel
theorem dX11_goes_97 : decode cX11_goes 97 = .ok (.lstore 9, 2) := by decide +kernel
theorem dX11_goes_99 : decode cX11_goes 99 = .ok (.goto 65, 3) := by decide +kernel
theorem dX11_goes_102 : decode cX11_goes 102 = .ok (.iload_n 3, 1) := by decide +kernel
theorem dX11_goes_103 : decode cX11_goes 103 = .ok (.iconst 1, 1) := by decide +kernel
theorem dX11_goes_104 : decode cX11_goes 104 = .ok (.if_icmp .ne 12, 3) := by decide +kernel
theorem dX11_goes_107 : decode cX11_goes 107 = .ok (.aload_n 0, 1) := by decide +kernel
theorem dX11_goes_108 : decode cX11_goes 108 = .ok (.iload 4, 2) := by decide +kernel
theorem dX11_goes_110 : decode cX11_goes 110 = .ok (.invokevirtual 267, 3) := by decide +kernel
theorem dX11_goes_113 : decode cX11_goes 113 = .ok (.ifCond .eq 7, 3) := by decide +kernel
theorem dX11_goes_116 : decode cX11_goes 116 = .ok (.iconst 1, 1) := by decide +kernel
theorem dX11_goes_117 : decode cX11_goes 117 = .ok (.goto 4, 3) := by decide +kernel
theorem dX11_goes_120 : decode cX11_goes 120 = .ok (.iconst 0, 1) := by decide +kernel
theorem dX11_goes_121 : decode cX11_goes 121 = .ok (.istore 11, 2) := by decide +kernel
theorem dX11_goes_123 : decode cX11_goes 123 = .ok (.iload 11, 2) := by decide +kernel
theorem dX11_goes_125 : decode cX11_goes 125 = .ok (.ifCond .eq 21, 3) := by decide +kernel
theorem dX11_goes_128 : decode cX11_goes 128 = .ok (.aload_n 0, 1) := by decide +kernel
theorem dX11_goes_129 : decode cX11_goes 129 = .ok (.getfield 257, 3) := by decide +kernel
theorem dX11_goes_132 : decode cX11_goes 132 = .ok (.ineg, 1) := by decide +kernel
theorem dX11_goes_133 : decode cX11_goes 133 = .ok (.i2l, 1) := by decide +kernel
theorem dX11_goes_134 : decode cX11_goes 134 = .ok (.aload_n 0, 1) := by decide +kernel
theorem dX11_goes_135 : decode cX11_goes 135 = .ok (.getfield 64, 3) := by decide +kernel
theorem dX11_goes_138 : decode cX11_goes 138 = .ok (.iload_n 1, 1) := by decide +kernel
theorem dX11_goes_139 : decode cX11_goes 139 = .ok (.iconst 1, 1) := by decide +kernel
theorem dX11_goes_140 : decode cX11_goes 140 = .ok (.isub, 1) := by decide +kernel
theorem dX11_goes_141 : decode cX11_goes 141 = .ok (.laload, 1) := by decide +kernel
theorem dX11_goes_142 : decode cX11_goes 142 = .ok (.lmul, 1) := by decide +kernel
theorem dX11_goes_143 : decode cX11_goes 143 = .ok (.goto 4, 3) := by decide +kernel
theorem dX11_goes_146 : decode cX11_goes 146 = .ok (.lconst 0, 1) := by decide +kernel
theorem dX11_goes_147 : decode cX11_goes 147 = .ok (.aload_n 0, 1) := by decide +kernel
theorem dX11_goes_148 : decode cX11_goes 148 = .ok (.getfield 71, 3) := by decide +kernel
theorem dX11_goes_151 : decode cX11_goes 151 = .ok (.iload_n 1, 1) := by decide +kernel
theorem dX11_goes_152 : decode cX11_goes 152 = .ok (.iconst 1, 1) := by decide +kernel
theorem dX11_goes_153 : decode cX11_goes 153 = .ok (.isub, 1) := by decide +kernel
theorem dX11_goes_154 : decode cX11_goes 154 = .ok (.iconst 3, 1) := by decide +kernel
theorem dX11_goes_155 : decode cX11_goes 155 = .ok (.iconst 2, 1) := by decide +kernel
theorem dX11_goes_156 : decode cX11_goes 156 = .ok (.iconst 0, 1) := by decide +kernel
theorem dX11_goes_157 : decode cX11_goes 157 = .ok (.invokestatic 264, 3) := by decide +kernel
theorem dX11_goes_160 : decode cX11_goes 160 = .ok (.laload, 1) := by decide +kernel
theorem dX11_goes_161 : decode cX11_goes 161 = .ok (.ladd, 1) := by decide +kernel
theorem dX11_goes_162 : decode cX11_goes 162 = .ok (.lstore 9, 2) := by decide +kernel
theorem dX11_goes_164 : decode cX11_goes 164 = .ok (.iload 5, 2) := by decide +kernel
theorem dX11_goes_166 : decode cX11_goes 166 = .ok (.i2l, 1) := by decide +kernel
theorem dX11_goes_167 : decode cX11_goes 167 = .ok (.lload 9, 2) := by decide +kernel
theorem dX11_goes_169 : decode cX11_goes 169 = .ok (.lmul, 1) := by decide +kernel
theorem dX11_goes_170 : decode cX11_goes 170 = .ok (.bipush 12, 2) := by decide +kernel
theorem dX11_goes_172 : decode cX11_goes 172 = .ok (.iload 5, 2) := by decide +kernel
theorem dX11_goes_174 : decode cX11_goes 174 = .ok (.isub, 1) := by decide +kernel
theorem dX11_goes_175 : decode cX11_goes 175 = .ok (.i2l, 1) := by decide +kernel
theorem dX11_goes_176 : decode cX11_goes 176 = .ok (.lload 7, 2) := by decide +kernel
theorem dX11_goes_178 : decode cX11_goes 178 = .ok (.lmul, 1) := by decide +kernel
theorem dX11_goes_179 : decode cX11_goes 179 = .ok (.ladd, 1) := by decide +kernel
theorem dX11_goes_180 : decode cX11_goes 180 = .ok (.lreturn, 1) := by decide +kernel
theorem dX11_worksOut_0 : decode cX11_worksOut 0 = .ok (.iconst 1, 1) := by decide +kernel
theorem dX11_worksOut_1 : decode cX11_worksOut 1 = .ok (.istore_n 2, 1) := by decide +kernel
theorem dX11_worksOut_2 : decode cX11_worksOut 2 = .ok (.iload_n 2, 1) := by decide +kernel
theorem dX11_worksOut_3 : decode cX11_worksOut 3 = .ok (.iconst 4, 1) := by decide +kernel
theorem dX11_worksOut_4 : decode cX11_worksOut 4 = .ok (.if_icmp .ge 66, 3) := by decide +kernel
theorem dX11_worksOut_7 : decode cX11_worksOut 7 = .ok (.iconst 0, 1) := by decide +kernel
theorem dX11_worksOut_8 : decode cX11_worksOut 8 = .ok (.istore_n 3, 1) := by decide +kernel
theorem dX11_worksOut_9 : decode cX11_worksOut 9 = .ok (.iload_n 3, 1) := by decide +kernel
theorem dX11_worksOut_10 : decode cX11_worksOut 10 = .ok (.iconst 3, 1) := by decide +kernel
theorem dX11_worksOut_11 : decode cX11_worksOut 11 = .ok (.if_icmp .ge 53, 3) := by decide +kernel
theorem dX11_worksOut_14 : decode cX11_worksOut 14 = .ok (.iconst 0, 1) := by decide +kernel
theorem dX11_worksOut_15 : decode cX11_worksOut 15 = .ok (.istore 4, 2) := by decide +kernel
theorem dX11_worksOut_17 : decode cX11_worksOut 17 = .ok (.iload 4, 2) := by decide +kernel
theorem dX11_worksOut_19 : decode cX11_worksOut 19 = .ok (.bipush 100, 2) := by decide +kernel
theorem dX11_worksOut_21 : decode cX11_worksOut 21 = .ok (.if_icmp .ge 37, 3) := by decide +kernel
theorem dX11_worksOut_24 : decode cX11_worksOut 24 = .ok (.aload_n 0, 1) := by decide +kernel
theorem dX11_worksOut_25 : decode cX11_worksOut 25 = .ok (.getfield 71, 3) := by decide +kernel
theorem dX11_worksOut_28 : decode cX11_worksOut 28 = .ok (.iconst 0, 1) := by decide +kernel
theorem dX11_worksOut_29 : decode cX11_worksOut 29 = .ok (.iload_n 2, 1) := by decide +kernel
theorem dX11_worksOut_30 : decode cX11_worksOut 30 = .ok (.iload_n 3, 1) := by decide +kernel
theorem dX11_worksOut_31 : decode cX11_worksOut 31 = .ok (.iload 4, 2) := by decide +kernel
theorem dX11_worksOut_33 : decode cX11_worksOut 33 = .ok (.invokestatic 264, 3) := by decide +kernel
theorem dX11_worksOut_36 : decode cX11_worksOut 36 = .ok (.lconst 0, 1) := by decide +kernel
theorem dX11_worksOut_37 : decode cX11_worksOut 37 = .ok (.lastore, 1) := by decide +kernel
theorem dX11_worksOut_38 : decode cX11_worksOut 38 = .ok (.aload_n 0, 1) := by decide +kernel
theorem dX11_worksOut_39 : decode cX11_worksOut 39 = .ok (.getfield 74, 3) := by decide +kernel
theorem dX11_worksOut_42 : decode cX11_worksOut 42 = .ok (.iconst 0, 1) := by decide +kernel
theorem dX11_worksOut_43 : decode cX11_worksOut 43 = .ok (.iload_n 2, 1) := by decide +kernel
theorem dX11_worksOut_44 : decode cX11_worksOut 44 = .ok (.iload_n 3, 1) := by decide +kernel
theorem dX11_worksOut_45 : decode cX11_worksOut 45 = .ok (.iload 4, 2) := by decide +kernel
theorem dX11_worksOut_47 : decode cX11_worksOut 47 = .ok (.invokestatic 264, 3) := by decide +kernel
theorem dX11_worksOut_50 : decode cX11_worksOut 50 = .ok (.iconst 0, 1) := by decide +kernel
theorem dX11_worksOut_51 : decode cX11_worksOut 51 = .ok (.bastore, 1) := by decide +kernel
theorem dX11_worksOut_52 : decode cX11_worksOut 52 = .ok (.iinc 4 1, 3) := by decide +kernel
theorem dX11_worksOut_55 : decode cX11_worksOut 55 = .ok (.goto (-38), 3) := by decide +kernel
theorem dX11_worksOut_58 : decode cX11_worksOut 58 = .ok (.iinc 3 1, 3) := by decide +kernel
theorem dX11_worksOut_61 : decode cX11_worksOut 61 = .ok (.goto (-52), 3) := by decide +kernel
theorem dX11_worksOut_64 : decode cX11_worksOut 64 = .ok (.iinc 2 1, 3) := by decide +kernel
theorem dX11_worksOut_67 : decode cX11_worksOut 67 = .ok (.goto (-65), 3) := by decide +kernel
theorem dX11_worksOut_70 : decode cX11_worksOut 70 = .ok (.iconst 1, 1) := by decide +kernel
theorem dX11_worksOut_71 : decode cX11_worksOut 71 = .ok (.istore_n 2, 1) := by decide +kernel
theorem dX11_worksOut_72 : decode cX11_worksOut 72 = .ok (.iload_n 2, 1) := by decide +kernel
theorem dX11_worksOut_73 : decode cX11_worksOut 73 = .ok (.iload_n 1, 1) := by decide +kernel
theorem dX11_worksOut_74 : decode cX11_worksOut 74 = .ok (.if_icmp .gt 188, 3) := by decide +kernel
theorem dX11_worksOut_77 : decode cX11_worksOut 77 = .ok (.iconst 1, 1) := by decide +kernel
theorem dX11_worksOut_78 : decode cX11_worksOut 78 = .ok (.istore_n 3, 1) := by decide +kernel
theorem dX11_worksOut_79 : decode cX11_worksOut 79 = .ok (.iload_n 3, 1) := by decide +kernel
theorem dX11_worksOut_80 : decode cX11_worksOut 80 = .ok (.iconst 4, 1) := by decide +kernel
theorem dX11_worksOut_81 : decode cX11_worksOut 81 = .ok (.if_icmp .ge 175, 3) := by decide +kernel
theorem dX11_worksOut_84 : decode cX11_worksOut 84 = .ok (.aload_n 0, 1) := by decide +kernel
theorem dX11_worksOut_85 : decode cX11_worksOut 85 = .ok (.getfield 245, 3) := by decide +kernel
theorem dX11_worksOut_88 : decode cX11_worksOut 88 = .ok (.iload_n 3, 1) := by decide +kernel
theorem dX11_worksOut_89 : decode cX11_worksOut 89 = .ok (.if_icmp .le 10, 3) := by decide +kernel
theorem dX11_worksOut_92 : decode cX11_worksOut 92 = .ok (.aload_n 0, 1) := by decide +kernel
theorem dX11_worksOut_93 : decode cX11_worksOut 93 = .ok (.getfield 245, 3) := by decide +kernel
theorem dX11_worksOut_96 : decode cX11_worksOut 96 = .ok (.goto 4, 3) := by decide +kernel
theorem dX11_worksOut_99 : decode cX11_worksOut 99 = .ok (.iload_n 3, 1) := by decide +kernel
theorem dX11_worksOut_100 : decode cX11_worksOut 100 = .ok (.istore 4, 2) := by decide +kernel
theorem dX11_worksOut_102 : decode cX11_worksOut 102 = .ok (.aload_n 0, 1) := by decide +kernel
theorem dX11_worksOut_103 : decode cX11_worksOut 103 = .ok (.iload_n 2, 1) := by decide +kernel
theorem dX11_worksOut_104 : decode cX11_worksOut 104 = .ok (.iload 4, 2) := by decide +kernel
theorem dX11_worksOut_106 : decode cX11_worksOut 106 = .ok (.iconst 0, 1) := by decide +kernel
theorem dX11_worksOut_107 : decode cX11_worksOut 107 = .ok (.iconst 0, 1) := by decide +kernel
theorem dX11_worksOut_108 : decode cX11_worksOut 108 = .ok (.invokevirtual 270, 3) := by decide +kernel
theorem dX11_worksOut_111 : decode cX11_worksOut 111 = .ok (.aload_n 0, 1) := by decide +kernel
theorem dX11_worksOut_112 : decode cX11_worksOut 112 = .ok (.getfield 248, 3) := by decide +kernel
theorem dX11_worksOut_115 : decode cX11_worksOut 115 = .ok (.i2l, 1) := by decide +kernel
theorem dX11_worksOut_116 : decode cX11_worksOut 116 = .ok (.aload_n 0, 1) := by decide +kernel
theorem dX11_worksOut_117 : decode cX11_worksOut 117 = .ok (.getfield 64, 3) := by decide +kernel
theorem dX11_worksOut_120 : decode cX11_worksOut 120 = .ok (.iload_n 2, 1) := by decide +kernel
theorem dX11_worksOut_121 : decode cX11_worksOut 121 = .ok (.laload, 1) := by decide +kernel
theorem dX11_worksOut_122 : decode cX11_worksOut 122 = .ok (.lmul, 1) := by decide +kernel
theorem dX11_worksOut_123 : decode cX11_worksOut 123 = .ok (.lsub, 1) := by decide +kernel
theorem dX11_worksOut_124 : decode cX11_worksOut 124 = .ok (.lstore 5, 2) := by decide +kernel
theorem dX11_worksOut_126 : decode cX11_worksOut 126 = .ok (.iconst 0, 1) := by decide +kernel
theorem dX11_worksOut_127 : decode cX11_worksOut 127 = .ok (.istore 7, 2) := by decide +kernel
theorem dX11_worksOut_129 : decode cX11_worksOut 129 = .ok (.iload 7, 2) := by decide +kernel
theorem dX11_worksOut_131 : decode cX11_worksOut 131 = .ok (.iconst 3, 1) := by decide +kernel
theorem dX11_worksOut_132 : decode cX11_worksOut 132 = .ok (.if_icmp .ge 118, 3) := by decide +kernel
theorem dX11_worksOut_135 : decode cX11_worksOut 135 = .ok (.iconst 0, 1) := by decide +kernel
theorem dX11_worksOut_136 : decode cX11_worksOut 136 = .ok (.istore 8, 2) := by decide +kernel
theorem dX11_worksOut_138 : decode cX11_worksOut 138 = .ok (.iload 8, 2) := by decide +kernel
theorem dX11_worksOut_140 : decode cX11_worksOut 140 = .ok (.bipush 100, 2) := by decide +kernel
theorem dX11_worksOut_142 : decode cX11_worksOut 142 = .ok (.if_icmp .ge 102, 3) := by decide +kernel
theorem dX11_worksOut_145 : decode cX11_worksOut 145 = .ok (.aload_n 0, 1) := by decide +kernel
theorem dX11_worksOut_146 : decode cX11_worksOut 146 = .ok (.iload_n 2, 1) := by decide +kernel
theorem dX11_worksOut_147 : decode cX11_worksOut 147 = .ok (.iload_n 3, 1) := by decide +kernel
theorem dX11_worksOut_148 : decode cX11_worksOut 148 = .ok (.iload 7, 2) := by decide +kernel
theorem dX11_worksOut_150 : decode cX11_worksOut 150 = .ok (.iload 8, 2) := by decide +kernel
theorem dX11_worksOut_152 : decode cX11_worksOut 152 = .ok (.invokevirtual 270, 3) := by decide +kernel
theorem dX11_worksOut_155 : decode cX11_worksOut 155 = .ok (.lstore 9, 2) := by decide +kernel
theorem dX11_worksOut_157 : decode cX11_worksOut 157 = .ok (.aload_n 0, 1) := by decide +kernel
theorem dX11_worksOut_158 : decode cX11_worksOut 158 = .ok (.getfield 251, 3) := by decide +kernel
theorem dX11_worksOut_161 : decode cX11_worksOut 161 = .ok (.iconst 4, 1) := by decide +kernel
theorem dX11_worksOut_162 : decode cX11_worksOut 162 = .ok (.if_icmp .ne 19, 3) := by decide +kernel
theorem dX11_worksOut_165 : decode cX11_worksOut 165 = .ok (.lload 5, 2) := by decide +kernel
theorem dX11_worksOut_167 : decode cX11_worksOut 167 = .ok (.lload 9, 2) := by decide +kernel
theorem dX11_worksOut_169 : decode cX11_worksOut 169 = .ok (.lcmp, 1) := by decide +kernel
theorem dX11_worksOut_170 : decode cX11_worksOut 170 = .ok (.ifCond .le 7, 3) := by decide +kernel
theorem dX11_worksOut_173 : decode cX11_worksOut 173 = .ok (.iconst 1, 1) := by decide +kernel
theorem dX11_worksOut_174 : decode cX11_worksOut 174 = .ok (.goto 20, 3) := by decide +kernel
theorem dX11_worksOut_177 : decode cX11_worksOut 177 = .ok (.iconst 0, 1) := by decide +kernel
theorem dX11_worksOut_178 : decode cX11_worksOut 178 = .ok (.goto 16, 3) := by decide +kernel
theorem dX11_worksOut_181 : decode cX11_worksOut 181 = .ok (.iload_n 3, 1) := by decide +kernel
theorem dX11_worksOut_182 : decode cX11_worksOut 182 = .ok (.aload_n 0, 1) := by decide +kernel
theorem dX11_worksOut_183 : decode cX11_worksOut 183 = .ok (.getfield 251, 3) := by decide +kernel
theorem dX11_worksOut_186 : decode cX11_worksOut 186 = .ok (.if_icmp .gt 7, 3) := by decide +kernel
theorem dX11_worksOut_189 : decode cX11_worksOut 189 = .ok (.iconst 1, 1) := by decide +kernel
theorem dX11_worksOut_190 : decode cX11_worksOut 190 = .ok (.goto 4, 3) := by decide +kernel
theorem dX11_worksOut_193 : decode cX11_worksOut 193 = .ok (.iconst 0, 1) := by decide +kernel
theorem dX11_worksOut_194 : decode cX11_worksOut 194 = .ok (.istore 11, 2) := by decide +kernel
theorem dX11_worksOut_196 : decode cX11_worksOut 196 = .ok (.aload_n 0, 1) := by decide +kernel
theorem dX11_worksOut_197 : decode cX11_worksOut 197 = .ok (.getfield 74, 3) := by decide +kernel
theorem dX11_worksOut_200 : decode cX11_worksOut 200 = .ok (.iload_n 2, 1) := by decide +kernel
theorem dX11_worksOut_201 : decode cX11_worksOut 201 = .ok (.iload_n 3, 1) := by decide +kernel
theorem dX11_worksOut_202 : decode cX11_worksOut 202 = .ok (.iload 7, 2) := by decide +kernel
theorem dX11_worksOut_204 : decode cX11_worksOut 204 = .ok (.iload 8, 2) := by decide +kernel
theorem dX11_worksOut_206 : decode cX11_worksOut 206 = .ok (.invokestatic 264, 3) := by decide +kernel
theorem dX11_worksOut_209 : decode cX11_worksOut 209 = .ok (.iload 11, 2) := by decide +kernel
theorem dX11_worksOut_211 : decode cX11_worksOut 211 = .ok (.bastore, 1) := by decide +kernel
theorem dX11_worksOut_212 : decode cX11_worksOut 212 = .ok (.aload_n 0, 1) := by decide +kernel
theorem dX11_worksOut_213 : decode cX11_worksOut 213 = .ok (.getfield 71, 3) := by decide +kernel
theorem dX11_worksOut_216 : decode cX11_worksOut 216 = .ok (.iload_n 2, 1) := by decide +kernel
theorem dX11_worksOut_217 : decode cX11_worksOut 217 = .ok (.iload_n 3, 1) := by decide +kernel
theorem dX11_worksOut_218 : decode cX11_worksOut 218 = .ok (.iload 7, 2) := by decide +kernel
theorem dX11_worksOut_220 : decode cX11_worksOut 220 = .ok (.iload 8, 2) := by decide +kernel
theorem dX11_worksOut_222 : decode cX11_worksOut 222 = .ok (.invokestatic 264, 3) := by decide +kernel
theorem dX11_worksOut_225 : decode cX11_worksOut 225 = .ok (.iload 11, 2) := by decide +kernel
theorem dX11_worksOut_227 : decode cX11_worksOut 227 = .ok (.ifCond .eq 8, 3) := by decide +kernel
theorem dX11_worksOut_230 : decode cX11_worksOut 230 = .ok (.lload 5, 2) := by decide +kernel
theorem dX11_worksOut_232 : decode cX11_worksOut 232 = .ok (.goto 5, 3) := by decide +kernel
theorem dX11_worksOut_235 : decode cX11_worksOut 235 = .ok (.lload 9, 2) := by decide +kernel
theorem dX11_worksOut_237 : decode cX11_worksOut 237 = .ok (.lastore, 1) := by decide +kernel
theorem dX11_worksOut_238 : decode cX11_worksOut 238 = .ok (.iinc 8 1, 3) := by decide +kernel
theorem dX11_worksOut_241 : decode cX11_worksOut 241 = .ok (.goto (-103), 3) := by decide +kernel
theorem dX11_worksOut_244 : decode cX11_worksOut 244 = .ok (.iinc 7 1, 3) := by decide +kernel
theorem dX11_worksOut_247 : decode cX11_worksOut 247 = .ok (.goto (-118), 3) := by decide +kernel
theorem dX11_worksOut_250 : decode cX11_worksOut 250 = .ok (.iinc 3 1, 3) := by decide +kernel
theorem dX11_worksOut_253 : decode cX11_worksOut 253 = .ok (.goto (-174), 3) := by decide +kernel
theorem dX11_worksOut_256 : decode cX11_worksOut 256 = .ok (.iinc 2 1, 3) := by decide +kernel
theorem dX11_worksOut_259 : decode cX11_worksOut 259 = .ok (.goto (-187), 3) := by decide +kernel
theorem dX11_worksOut_262 : decode cX11_worksOut 262 = .ok (.return_, 1) := by decide +kernel
theorem dX11_sortFor_0 : decode cX11_sortFor 0 = .ok (.aload_n 0, 1) := by decide +kernel
theorem dX11_sortFor_1 : decode cX11_sortFor 1 = .ok (.getfield 37, 3) := by decide +kernel
theorem dX11_sortFor_4 : decode cX11_sortFor 4 = .ok (.iload_n 1, 1) := by decide +kernel
theorem dX11_sortFor_5 : decode cX11_sortFor 5 = .ok (.iaload, 1) := by decide +kernel
theorem dX11_sortFor_6 : decode cX11_sortFor 6 = .ok (.ifCond .ge 7, 3) := by decide +kernel
theorem dX11_sortFor_9 : decode cX11_sortFor 9 = .ok (.iconst 2, 1) := by decide +kernel
theorem dX11_sortFor_10 : decode cX11_sortFor 10 = .ok (.goto 18, 3) := by decide +kernel
theorem dX11_sortFor_13 : decode cX11_sortFor 13 = .ok (.aload_n 0, 1) := by decide +kernel
theorem dX11_sortFor_14 : decode cX11_sortFor 14 = .ok (.getfield 37, 3) := by decide +kernel
theorem dX11_sortFor_17 : decode cX11_sortFor 17 = .ok (.iload_n 1, 1) := by decide +kernel
theorem dX11_sortFor_18 : decode cX11_sortFor 18 = .ok (.iaload, 1) := by decide +kernel
theorem dX11_sortFor_19 : decode cX11_sortFor 19 = .ok (.iload_n 2, 1) := by decide +kernel
theorem dX11_sortFor_20 : decode cX11_sortFor 20 = .ok (.if_icmp .ne 7, 3) := by decide +kernel
theorem dX11_sortFor_23 : decode cX11_sortFor 23 = .ok (.iconst 0, 1) := by decide +kernel
theorem dX11_sortFor_24 : decode cX11_sortFor 24 = .ok (.goto 4, 3) := by decide +kernel
theorem dX11_sortFor_27 : decode cX11_sortFor 27 = .ok (.iconst 1, 1) := by decide +kernel
theorem dX11_sortFor_28 : decode cX11_sortFor 28 = .ok (.ireturn, 1) := by decide +kernel
theorem dX11_isTy_0 : decode cX11_isTy 0 = .ok (.iload_n 1, 1) := by decide +kernel
theorem dX11_isTy_1 : decode cX11_isTy 1 = .ok (.ifCond .lt 27, 3) := by decide +kernel
theorem dX11_isTy_4 : decode cX11_isTy 4 = .ok (.aload_n 0, 1) := by decide +kernel
theorem dX11_isTy_5 : decode cX11_isTy 5 = .ok (.iload_n 1, 1) := by decide +kernel
theorem dX11_isTy_6 : decode cX11_isTy 6 = .ok (.bipush 10, 2) := by decide +kernel
theorem dX11_isTy_8 : decode cX11_isTy 8 = .ok (.idiv, 1) := by decide +kernel
theorem dX11_isTy_9 : decode cX11_isTy 9 = .ok (.invokevirtual 168, 3) := by decide +kernel
theorem dX11_isTy_12 : decode cX11_isTy 12 = .ok (.ifCond .eq 16, 3) := by decide +kernel
theorem dX11_isTy_15 : decode cX11_isTy 15 = .ok (.iload_n 1, 1) := by decide +kernel
theorem dX11_isTy_16 : decode cX11_isTy 16 = .ok (.bipush 10, 2) := by decide +kernel
theorem dX11_isTy_18 : decode cX11_isTy 18 = .ok (.irem, 1) := by decide +kernel
theorem dX11_isTy_19 : decode cX11_isTy 19 = .ok (.bipush 6, 2) := by decide +kernel
theorem dX11_isTy_21 : decode cX11_isTy 21 = .ok (.if_icmp .gt 7, 3) := by decide +kernel
theorem dX11_isTy_24 : decode cX11_isTy 24 = .ok (.iconst 1, 1) := by decide +kernel
theorem dX11_isTy_25 : decode cX11_isTy 25 = .ok (.goto 4, 3) := by decide +kernel
theorem dX11_isTy_28 : decode cX11_isTy 28 = .ok (.iconst 0, 1) := by decide +kernel
theorem dX11_isTy_29 : decode cX11_isTy 29 = .ok (.ireturn, 1) := by decide +kernel
theorem dX11_common_0 : decode cX11_common 0 = .ok (.lload_n 0, 1) := by decide +kernel
theorem dX11_common_1 : decode cX11_common 1 = .ok (.lconst 0, 1) := by decide +kernel
theorem dX11_common_2 : decode cX11_common 2 = .ok (.lcmp, 1) := by decide +kernel
theorem dX11_common_3 : decode cX11_common 3 = .ok (.ifCond .ge 8, 3) := by decide +kernel
theorem dX11_common_6 : decode cX11_common 6 = .ok (.lload_n 0, 1) := by decide +kernel
theorem dX11_common_7 : decode cX11_common 7 = .ok (.lneg, 1) := by decide +kernel
theorem dX11_common_8 : decode cX11_common 8 = .ok (.goto 4, 3) := by decide +kernel
theorem dX11_common_11 : decode cX11_common 11 = .ok (.lload_n 0, 1) := by decide +kernel
theorem dX11_common_12 : decode cX11_common 12 = .ok (.lstore 4, 2) := by decide +kernel
theorem dX11_common_14 : decode cX11_common 14 = .ok (.lload_n 2, 1) := by decide +kernel
theorem dX11_common_15 : decode cX11_common 15 = .ok (.lstore 6, 2) := by decide +kernel
theorem dX11_common_17 : decode cX11_common 17 = .ok (.lload 6, 2) := by decide +kernel
theorem dX11_common_19 : decode cX11_common 19 = .ok (.lconst 0, 1) := by decide +kernel
theorem dX11_common_20 : decode cX11_common 20 = .ok (.lcmp, 1) := by decide +kernel
theorem dX11_common_21 : decode cX11_common 21 = .ok (.ifCond .eq 21, 3) := by decide +kernel
theorem dX11_common_24 : decode cX11_common 24 = .ok (.lload 4, 2) := by decide +kernel
theorem dX11_common_26 : decode cX11_common 26 = .ok (.lload 6, 2) := by decide +kernel
theorem dX11_common_28 : decode cX11_common 28 = .ok (.lrem, 1) := by decide +kernel
theorem dX11_common_29 : decode cX11_common 29 = .ok (.lstore 8, 2) := by decide +kernel
theorem dX11_common_31 : decode cX11_common 31 = .ok (.lload 6, 2) := by decide +kernel
theorem dX11_common_33 : decode cX11_common 33 = .ok (.lstore 4, 2) := by decide +kernel
theorem dX11_common_35 : decode cX11_common 35 = .ok (.lload 8, 2) := by decide +kernel
theorem dX11_common_37 : decode cX11_common 37 = .ok (.lstore 6, 2) := by decide +kernel
theorem dX11_common_39 : decode cX11_common 39 = .ok (.goto (-22), 3) := by decide +kernel
theorem dX11_common_42 : decode cX11_common 42 = .ok (.lload 4, 2) := by decide +kernel
theorem dX11_common_44 : decode cX11_common 44 = .ok (.lreturn, 1) := by decide +kernel
theorem dX11_partOf_0 : decode cX11_partOf 0 = .ok (.lload_n 0, 1) := by decide +kernel
theorem dX11_partOf_1 : decode cX11_partOf 1 = .ok (.lconst 0, 1) := by decide +kernel
theorem dX11_partOf_2 : decode cX11_partOf 2 = .ok (.lcmp, 1) := by decide +kernel
theorem dX11_partOf_3 : decode cX11_partOf 3 = .ok (.ifCond .ne 7, 3) := by decide +kernel
theorem dX11_partOf_6 : decode cX11_partOf 6 = .ok (.iload 4, 2) := by decide +kernel
theorem dX11_partOf_8 : decode cX11_partOf 8 = .ok (.i2l, 1) := by decide +kernel
theorem dX11_partOf_9 : decode cX11_partOf 9 = .ok (.lreturn, 1) := by decide +kernel
theorem dX11_partOf_10 : decode cX11_partOf 10 = .ok (.lload_n 0, 1) := by decide +kernel
theorem dX11_partOf_11 : decode cX11_partOf 11 = .ok (.lload_n 2, 1) := by decide +kernel
theorem dX11_partOf_12 : decode cX11_partOf 12 = .ok (.invokestatic 274, 3) := by decide +kernel
theorem dX11_partOf_15 : decode cX11_partOf 15 = .ok (.lstore 5, 2) := by decide +kernel
theorem dX11_partOf_17 : decode cX11_partOf 17 = .ok (.iload 4, 2) := by decide +kernel
theorem dX11_partOf_19 : decode cX11_partOf 19 = .ok (.ifCond .ne 10, 3) := by decide +kernel
theorem dX11_partOf_22 : decode cX11_partOf 22 = .ok (.lload_n 0, 1) := by decide +kernel
theorem dX11_partOf_23 : decode cX11_partOf 23 = .ok (.lload 5, 2) := by decide +kernel
theorem dX11_partOf_25 : decode cX11_partOf 25 = .ok (.ldiv, 1) := by decide +kernel
theorem dX11_partOf_26 : decode cX11_partOf 26 = .ok (.goto 7, 3) := by decide +kernel
theorem dX11_partOf_29 : decode cX11_partOf 29 = .ok (.lload_n 2, 1) := by decide +kernel
theorem dX11_partOf_30 : decode cX11_partOf 30 = .ok (.lload 5, 2) := by decide +kernel
theorem dX11_partOf_32 : decode cX11_partOf 32 = .ok (.ldiv, 1) := by decide +kernel
theorem dX11_partOf_33 : decode cX11_partOf 33 = .ok (.lreturn, 1) := by decide +kernel
theorem dX11_bestOf_0 : decode cX11_bestOf 0 = .ok (.aload_n 0, 1) := by decide +kernel
theorem dX11_bestOf_1 : decode cX11_bestOf 1 = .ok (.iload_n 1, 1) := by decide +kernel
theorem dX11_bestOf_2 : decode cX11_bestOf 2 = .ok (.iload_n 2, 1) := by decide +kernel
theorem dX11_bestOf_3 : decode cX11_bestOf 3 = .ok (.iload 4, 2) := by decide +kernel
theorem dX11_bestOf_5 : decode cX11_bestOf 5 = .ok (.invokevirtual 278, 3) := by decide +kernel
theorem dX11_bestOf_8 : decode cX11_bestOf 8 = .ok (.aload_n 0, 1) := by decide +kernel
theorem dX11_bestOf_9 : decode cX11_bestOf 9 = .ok (.iload_n 3, 1) := by decide +kernel
theorem dX11_bestOf_10 : decode cX11_bestOf 10 = .ok (.invokevirtual 281, 3) := by decide +kernel
theorem dX11_bestOf_13 : decode cX11_bestOf 13 = .ok (.aload_n 0, 1) := by decide +kernel
theorem dX11_bestOf_14 : decode cX11_bestOf 14 = .ok (.getfield 71, 3) := by decide +kernel
theorem dX11_bestOf_17 : decode cX11_bestOf 17 = .ok (.iload_n 3, 1) := by decide +kernel
theorem dX11_bestOf_18 : decode cX11_bestOf 18 = .ok (.aload_n 0, 1) := by decide +kernel
theorem dX11_bestOf_19 : decode cX11_bestOf 19 = .ok (.getfield 34, 3) := by decide +kernel
theorem dX11_bestOf_22 : decode cX11_bestOf 22 = .ok (.iload_n 1, 1) := by decide +kernel
theorem dX11_bestOf_23 : decode cX11_bestOf 23 = .ok (.iaload, 1) := by decide +kernel
theorem dX11_bestOf_24 : decode cX11_bestOf 24 = .ok (.aload_n 0, 1) := by decide +kernel
theorem dX11_bestOf_25 : decode cX11_bestOf 25 = .ok (.iload_n 1, 1) := by decide +kernel
theorem dX11_bestOf_26 : decode cX11_bestOf 26 = .ok (.iload_n 2, 1) := by decide +kernel
theorem dX11_bestOf_27 : decode cX11_bestOf 27 = .ok (.invokevirtual 285, 3) := by decide +kernel
theorem dX11_bestOf_30 : decode cX11_bestOf 30 = .ok (.aload_n 0, 1) := by decide +kernel
theorem dX11_bestOf_31 : decode cX11_bestOf 31 = .ok (.getfield 43, 3) := by decide +kernel
theorem dX11_bestOf_34 : decode cX11_bestOf 34 = .ok (.iload_n 1, 1) := by decide +kernel
theorem dX11_bestOf_35 : decode cX11_bestOf 35 = .ok (.iaload, 1) := by decide +kernel
theorem dX11_bestOf_36 : decode cX11_bestOf 36 = .ok (.invokestatic 264, 3) := by decide +kernel
theorem dX11_bestOf_39 : decode cX11_bestOf 39 = .ok (.laload, 1) := by decide +kernel
theorem dX11_bestOf_40 : decode cX11_bestOf 40 = .ok (.lreturn, 1) := by decide +kernel
theorem dX11_worth_0 : decode cX11_worth 0 = .ok (.aload_n 0, 1) := by decide +kernel
theorem dX11_worth_1 : decode cX11_worth 1 = .ok (.iload_n 1, 1) := by decide +kernel
theorem dX11_worth_2 : decode cX11_worth 2 = .ok (.invokevirtual 288, 3) := by decide +kernel
theorem dX11_worth_5 : decode cX11_worth 5 = .ok (.ifCond .eq 23, 3) := by decide +kernel
theorem dX11_worth_8 : decode cX11_worth 8 = .ok (.iload_n 2, 1) := by decide +kernel
theorem dX11_worth_9 : decode cX11_worth 9 = .ok (.i2l, 1) := by decide +kernel
theorem dX11_worth_10 : decode cX11_worth 10 = .ok (.lconst 0, 1) := by decide +kernel
theorem dX11_worth_11 : decode cX11_worth 11 = .ok (.lconst 1, 1) := by decide +kernel
theorem dX11_worth_12 : decode cX11_worth 12 = .ok (.invokestatic 127, 3) := by decide +kernel
theorem dX11_worth_15 : decode cX11_worth 15 = .ok (.ifCond .eq 13, 3) := by decide +kernel
theorem dX11_worth_18 : decode cX11_worth 18 = .ok (.iload_n 3, 1) := by decide +kernel
theorem dX11_worth_19 : decode cX11_worth 19 = .ok (.i2l, 1) := by decide +kernel
theorem dX11_worth_20 : decode cX11_worth 20 = .ok (.lconst 0, 1) := by decide +kernel
theorem dX11_worth_21 : decode cX11_worth 21 = .ok (.lconst 1, 1) := by decide +kernel
theorem dX11_worth_22 : decode cX11_worth 22 = .ok (.invokestatic 127, 3) := by decide +kernel
theorem dX11_worth_25 : decode cX11_worth 25 = .ok (.ifCond .ne 7, 3) := by decide +kernel
theorem dX11_worth_28 : decode cX11_worth 28 = .ok (.ldc2_w 293, 3) := by decide +kernel
theorem dX11_worth_31 : decode cX11_worth 31 = .ok (.lreturn, 1) := by decide +kernel
theorem dX11_worth_32 : decode cX11_worth 32 = .ok (.iload_n 1, 1) := by decide +kernel
theorem dX11_worth_33 : decode cX11_worth 33 = .ok (.bipush 10, 2) := by decide +kernel
theorem dX11_worth_35 : decode cX11_worth 35 = .ok (.idiv, 1) := by decide +kernel
theorem dX11_worth_36 : decode cX11_worth 36 = .ok (.istore 4, 2) := by decide +kernel
theorem dX11_worth_38 : decode cX11_worth 38 = .ok (.aload_n 0, 1) := by decide +kernel
theorem dX11_worth_39 : decode cX11_worth 39 = .ok (.iload 4, 2) := by decide +kernel
theorem dX11_worth_41 : decode cX11_worth 41 = .ok (.aload_n 0, 1) := by decide +kernel
theorem dX11_worth_42 : decode cX11_worth 42 = .ok (.getfield 31, 3) := by decide +kernel
theorem dX11_worth_45 : decode cX11_worth 45 = .ok (.iload 4, 2) := by decide +kernel
theorem dX11_worth_47 : decode cX11_worth 47 = .ok (.iaload, 1) := by decide +kernel
theorem dX11_worth_48 : decode cX11_worth 48 = .ok (.iload_n 1, 1) := by decide +kernel
theorem dX11_worth_49 : decode cX11_worth 49 = .ok (.bipush 10, 2) := by decide +kernel
theorem dX11_worth_51 : decode cX11_worth 51 = .ok (.irem, 1) := by decide +kernel
theorem dX11_worth_52 : decode cX11_worth 52 = .ok (.iload_n 2, 1) := by decide +kernel
theorem dX11_worth_53 : decode cX11_worth 53 = .ok (.iconst 1, 1) := by decide +kernel
theorem dX11_worth_54 : decode cX11_worth 54 = .ok (.if_icmp .ne 7, 3) := by decide +kernel
theorem dX11_worth_57 : decode cX11_worth 57 = .ok (.iconst 4, 1) := by decide +kernel
theorem dX11_worth_58 : decode cX11_worth 58 = .ok (.goto 18, 3) := by decide +kernel
theorem dX11_worth_61 : decode cX11_worth 61 = .ok (.aload_n 0, 1) := by decide +kernel
theorem dX11_worth_62 : decode cX11_worth 62 = .ok (.getfield 9, 3) := by decide +kernel
theorem dX11_worth_65 : decode cX11_worth 65 = .ok (.bipush 10, 2) := by decide +kernel
theorem dX11_worth_67 : decode cX11_worth 67 = .ok (.aload_n 0, 1) := by decide +kernel
theorem dX11_worth_68 : decode cX11_worth 68 = .ok (.getfield 31, 3) := by decide +kernel
theorem dX11_worth_71 : decode cX11_worth 71 = .ok (.iload 4, 2) := by decide +kernel
theorem dX11_worth_73 : decode cX11_worth 73 = .ok (.iaload, 1) := by decide +kernel
theorem dX11_worth_74 : decode cX11_worth 74 = .ok (.iadd, 1) := by decide +kernel
theorem dX11_worth_75 : decode cX11_worth 75 = .ok (.iaload, 1) := by decide +kernel
theorem dX11_worth_76 : decode cX11_worth 76 = .ok (.invokevirtual 295, 3) := by decide +kernel
theorem dX11_worth_79 : decode cX11_worth 79 = .ok (.lstore 5, 2) := by decide +kernel
theorem dX11_worth_81 : decode cX11_worth 81 = .ok (.lload 5, 2) := by decide +kernel
theorem dX11_worth_83 : decode cX11_worth 83 = .ok (.aload_n 0, 1) := by decide +kernel
theorem dX11_worth_84 : decode cX11_worth 84 = .ok (.getfield 64, 3) := by decide +kernel
theorem dX11_worth_87 : decode cX11_worth 87 = .ok (.iload_n 1, 1) := by decide +kernel
theorem dX11_worth_88 : decode cX11_worth 88 = .ok (.bipush 10, 2) := by decide +kernel
theorem dX11_worth_90 : decode cX11_worth 90 = .ok (.irem, 1) := by decide +kernel
theorem dX11_worth_91 : decode cX11_worth 91 = .ok (.laload, 1) := by decide +kernel
theorem dX11_worth_92 : decode cX11_worth 92 = .ok (.iload_n 3, 1) := by decide +kernel
theorem dX11_worth_93 : decode cX11_worth 93 = .ok (.invokestatic 298, 3) := by decide +kernel
theorem dX11_worth_96 : decode cX11_worth 96 = .ok (.lreturn, 1) := by decide +kernel
theorem dX11_now_0 : decode cX11_now 0 = .ok (.aload_n 0, 1) := by decide +kernel
theorem dX11_now_1 : decode cX11_now 1 = .ok (.iload_n 1, 1) := by decide +kernel
theorem dX11_now_2 : decode cX11_now 2 = .ok (.invokevirtual 288, 3) := by decide +kernel
theorem dX11_now_5 : decode cX11_now 5 = .ok (.ifCond .eq 15, 3) := by decide +kernel
theorem dX11_now_8 : decode cX11_now 8 = .ok (.iload_n 2, 1) := by decide +kernel
theorem dX11_now_9 : decode cX11_now 9 = .ok (.i2l, 1) := by decide +kernel
theorem dX11_now_10 : decode cX11_now 10 = .ok (.lconst 0, 1) := by decide +kernel
theorem dX11_now_11 : decode cX11_now 11 = .ok (.ldc2_w 302, 3) := by decide +kernel
theorem dX11_now_14 : decode cX11_now 14 = .ok (.invokestatic 127, 3) := by decide +kernel
theorem dX11_now_17 : decode cX11_now 17 = .ok (.ifCond .ne 5, 3) := by decide +kernel
theorem dX11_now_20 : decode cX11_now 20 = .ok (.iconst (-1), 1) := by decide +kernel
theorem dX11_now_21 : decode cX11_now 21 = .ok (.ireturn, 1) := by decide +kernel
theorem dX11_now_22 : decode cX11_now 22 = .ok (.iload_n 1, 1) := by decide +kernel
theorem dX11_now_23 : decode cX11_now 23 = .ok (.bipush 10, 2) := by decide +kernel
theorem dX11_now_25 : decode cX11_now 25 = .ok (.idiv, 1) := by decide +kernel
theorem dX11_now_26 : decode cX11_now 26 = .ok (.istore_n 3, 1) := by decide +kernel
theorem dX11_now_27 : decode cX11_now 27 = .ok (.iload_n 1, 1) := by decide +kernel
theorem dX11_now_28 : decode cX11_now 28 = .ok (.bipush 10, 2) := by decide +kernel
theorem dX11_now_30 : decode cX11_now 30 = .ok (.irem, 1) := by decide +kernel
theorem dX11_now_31 : decode cX11_now 31 = .ok (.istore 4, 2) := by decide +kernel
theorem dX11_now_33 : decode cX11_now 33 = .ok (.aload_n 0, 1) := by decide +kernel
theorem dX11_now_34 : decode cX11_now 34 = .ok (.iload_n 3, 1) := by decide +kernel
theorem dX11_now_35 : decode cX11_now 35 = .ok (.aload_n 0, 1) := by decide +kernel
theorem dX11_now_36 : decode cX11_now 36 = .ok (.getfield 31, 3) := by decide +kernel
theorem dX11_now_39 : decode cX11_now 39 = .ok (.iload_n 3, 1) := by decide +kernel
theorem dX11_now_40 : decode cX11_now 40 = .ok (.iaload, 1) := by decide +kernel
theorem dX11_now_41 : decode cX11_now 41 = .ok (.invokevirtual 285, 3) := by decide +kernel
theorem dX11_now_44 : decode cX11_now 44 = .ok (.istore 5, 2) := by decide +kernel
theorem dX11_now_46 : decode cX11_now 46 = .ok (.aload_n 0, 1) := by decide +kernel
theorem dX11_now_47 : decode cX11_now 47 = .ok (.iload_n 3, 1) := by decide +kernel
theorem dX11_now_48 : decode cX11_now 48 = .ok (.aload_n 0, 1) := by decide +kernel
theorem dX11_now_49 : decode cX11_now 49 = .ok (.getfield 31, 3) := by decide +kernel
theorem dX11_now_52 : decode cX11_now 52 = .ok (.iload_n 3, 1) := by decide +kernel
theorem dX11_now_53 : decode cX11_now 53 = .ok (.iaload, 1) := by decide +kernel
theorem dX11_now_54 : decode cX11_now 54 = .ok (.iconst 4, 1) := by decide +kernel
theorem dX11_now_55 : decode cX11_now 55 = .ok (.invokevirtual 278, 3) := by decide +kernel
theorem dX11_now_58 : decode cX11_now 58 = .ok (.iload_n 2, 1) := by decide +kernel
theorem dX11_now_59 : decode cX11_now 59 = .ok (.iconst 2, 1) := by decide +kernel
theorem dX11_now_60 : decode cX11_now 60 = .ok (.if_icmp .ne 63, 3) := by decide +kernel
theorem dX11_now_63 : decode cX11_now 63 = .ok (.iconst 1, 1) := by decide +kernel
theorem dX11_now_64 : decode cX11_now 64 = .ok (.istore 6, 2) := by decide +kernel
theorem dX11_now_66 : decode cX11_now 66 = .ok (.iload 6, 2) := by decide +kernel
theorem dX11_now_68 : decode cX11_now 68 = .ok (.iconst 4, 1) := by decide +kernel
theorem dX11_now_69 : decode cX11_now 69 = .ok (.if_icmp .ge 51, 3) := by decide +kernel
theorem dX11_now_72 : decode cX11_now 72 = .ok (.aload_n 0, 1) := by decide +kernel
theorem dX11_now_73 : decode cX11_now 73 = .ok (.iload 6, 2) := by decide +kernel
theorem dX11_now_75 : decode cX11_now 75 = .ok (.putfield 245, 3) := by decide +kernel
theorem dX11_now_78 : decode cX11_now 78 = .ok (.aload_n 0, 1) := by decide +kernel
theorem dX11_now_79 : decode cX11_now 79 = .ok (.iload 4, 2) := by decide +kernel
theorem dX11_now_81 : decode cX11_now 81 = .ok (.invokevirtual 281, 3) := by decide +kernel
theorem dX11_now_84 : decode cX11_now 84 = .ok (.aload_n 0, 1) := by decide +kernel
theorem dX11_now_85 : decode cX11_now 85 = .ok (.getfield 74, 3) := by decide +kernel
theorem dX11_now_88 : decode cX11_now 88 = .ok (.iload 4, 2) := by decide +kernel
theorem dX11_now_90 : decode cX11_now 90 = .ok (.aload_n 0, 1) := by decide +kernel
theorem dX11_now_91 : decode cX11_now 91 = .ok (.getfield 34, 3) := by decide +kernel
theorem dX11_now_94 : decode cX11_now 94 = .ok (.iload_n 3, 1) := by decide +kernel
theorem dX11_now_95 : decode cX11_now 95 = .ok (.iaload, 1) := by decide +kernel
theorem dX11_now_96 : decode cX11_now 96 = .ok (.iload 5, 2) := by decide +kernel
theorem dX11_now_98 : decode cX11_now 98 = .ok (.aload_n 0, 1) := by decide +kernel
theorem dX11_now_99 : decode cX11_now 99 = .ok (.getfield 43, 3) := by decide +kernel
theorem dX11_now_102 : decode cX11_now 102 = .ok (.iload_n 3, 1) := by decide +kernel
theorem dX11_now_103 : decode cX11_now 103 = .ok (.iaload, 1) := by decide +kernel
theorem dX11_now_104 : decode cX11_now 104 = .ok (.invokestatic 264, 3) := by decide +kernel
theorem dX11_now_107 : decode cX11_now 107 = .ok (.baload, 1) := by decide +kernel
theorem dX11_now_108 : decode cX11_now 108 = .ok (.ifCond .eq 6, 3) := by decide +kernel
theorem dX11_now_111 : decode cX11_now 111 = .ok (.iload 6, 2) := by decide +kernel
theorem dX11_now_113 : decode cX11_now 113 = .ok (.ireturn, 1) := by decide +kernel
theorem dX11_now_114 : decode cX11_now 114 = .ok (.iinc 6 1, 3) := by decide +kernel
theorem dX11_now_117 : decode cX11_now 117 = .ok (.goto (-51), 3) := by decide +kernel
theorem dX11_now_120 : decode cX11_now 120 = .ok (.bipush (-2), 2) := by decide +kernel
theorem dX11_now_122 : decode cX11_now 122 = .ok (.ireturn, 1) := by decide +kernel
theorem dX11_now_123 : decode cX11_now 123 = .ok (.aload_n 0, 1) := by decide +kernel
theorem dX11_now_124 : decode cX11_now 124 = .ok (.iload 4, 2) := by decide +kernel
theorem dX11_now_126 : decode cX11_now 126 = .ok (.invokevirtual 281, 3) := by decide +kernel
theorem dX11_now_129 : decode cX11_now 129 = .ok (.iload_n 2, 1) := by decide +kernel
theorem dX11_now_130 : decode cX11_now 130 = .ok (.ifCond .ne 36, 3) := by decide +kernel
theorem dX11_now_133 : decode cX11_now 133 = .ok (.aload_n 0, 1) := by decide +kernel
theorem dX11_now_134 : decode cX11_now 134 = .ok (.getfield 74, 3) := by decide +kernel
theorem dX11_now_137 : decode cX11_now 137 = .ok (.iload 4, 2) := by decide +kernel
theorem dX11_now_139 : decode cX11_now 139 = .ok (.aload_n 0, 1) := by decide +kernel
theorem dX11_now_140 : decode cX11_now 140 = .ok (.getfield 34, 3) := by decide +kernel
theorem dX11_now_143 : decode cX11_now 143 = .ok (.iload_n 3, 1) := by decide +kernel
theorem dX11_now_144 : decode cX11_now 144 = .ok (.iaload, 1) := by decide +kernel
theorem dX11_now_145 : decode cX11_now 145 = .ok (.iload 5, 2) := by decide +kernel
theorem dX11_now_147 : decode cX11_now 147 = .ok (.aload_n 0, 1) := by decide +kernel
theorem dX11_now_148 : decode cX11_now 148 = .ok (.getfield 43, 3) := by decide +kernel
theorem dX11_now_151 : decode cX11_now 151 = .ok (.iload_n 3, 1) := by decide +kernel
theorem dX11_now_152 : decode cX11_now 152 = .ok (.iaload, 1) := by decide +kernel
theorem dX11_now_153 : decode cX11_now 153 = .ok (.invokestatic 264, 3) := by decide +kernel
theorem dX11_now_156 : decode cX11_now 156 = .ok (.baload, 1) := by decide +kernel
theorem dX11_now_157 : decode cX11_now 157 = .ok (.ifCond .eq 7, 3) := by decide +kernel
theorem dX11_now_160 : decode cX11_now 160 = .ok (.iconst 1, 1) := by decide +kernel
theorem dX11_now_161 : decode cX11_now 161 = .ok (.goto 4, 3) := by decide +kernel
theorem dX11_now_164 : decode cX11_now 164 = .ok (.iconst 0, 1) := by decide +kernel
theorem dX11_now_165 : decode cX11_now 165 = .ok (.ireturn, 1) := by decide +kernel
theorem dX11_now_166 : decode cX11_now 166 = .ok (.iconst 0, 1) := by decide +kernel
theorem dX11_now_167 : decode cX11_now 167 = .ok (.istore 6, 2) := by decide +kernel
theorem dX11_now_169 : decode cX11_now 169 = .ok (.iconst 1, 1) := by decide +kernel
theorem dX11_now_170 : decode cX11_now 170 = .ok (.istore 7, 2) := by decide +kernel
theorem dX11_now_172 : decode cX11_now 172 = .ok (.iload 7, 2) := by decide +kernel
theorem dX11_now_174 : decode cX11_now 174 = .ok (.iconst 4, 1) := by decide +kernel
theorem dX11_now_175 : decode cX11_now 175 = .ok (.if_icmp .ge 47, 3) := by decide +kernel
theorem dX11_now_178 : decode cX11_now 178 = .ok (.iload 6, 2) := by decide +kernel
theorem dX11_now_180 : decode cX11_now 180 = .ok (.aload_n 0, 1) := by decide +kernel
theorem dX11_now_181 : decode cX11_now 181 = .ok (.getfield 74, 3) := by decide +kernel
theorem dX11_now_184 : decode cX11_now 184 = .ok (.iload 4, 2) := by decide +kernel
theorem dX11_now_186 : decode cX11_now 186 = .ok (.iload 7, 2) := by decide +kernel
theorem dX11_now_188 : decode cX11_now 188 = .ok (.iload 5, 2) := by decide +kernel
theorem dX11_now_190 : decode cX11_now 190 = .ok (.aload_n 0, 1) := by decide +kernel
theorem dX11_now_191 : decode cX11_now 191 = .ok (.getfield 43, 3) := by decide +kernel
theorem dX11_now_194 : decode cX11_now 194 = .ok (.iload_n 3, 1) := by decide +kernel
theorem dX11_now_195 : decode cX11_now 195 = .ok (.iaload, 1) := by decide +kernel
theorem dX11_now_196 : decode cX11_now 196 = .ok (.invokestatic 264, 3) := by decide +kernel
theorem dX11_now_199 : decode cX11_now 199 = .ok (.baload, 1) := by decide +kernel
theorem dX11_now_200 : decode cX11_now 200 = .ok (.ifCond .eq 12, 3) := by decide +kernel
theorem dX11_now_203 : decode cX11_now 203 = .ok (.iconst 1, 1) := by decide +kernel
theorem dX11_now_204 : decode cX11_now 204 = .ok (.iload 7, 2) := by decide +kernel
theorem dX11_now_206 : decode cX11_now 206 = .ok (.iconst 1, 1) := by decide +kernel
theorem dX11_now_207 : decode cX11_now 207 = .ok (.isub, 1) := by decide +kernel
theorem dX11_now_208 : decode cX11_now 208 = .ok (.ishl, 1) := by decide +kernel
theorem dX11_now_209 : decode cX11_now 209 = .ok (.goto 4, 3) := by decide +kernel
theorem dX11_now_212 : decode cX11_now 212 = .ok (.iconst 0, 1) := by decide +kernel
theorem dX11_now_213 : decode cX11_now 213 = .ok (.ior, 1) := by decide +kernel
theorem dX11_now_214 : decode cX11_now 214 = .ok (.istore 6, 2) := by decide +kernel
theorem dX11_now_216 : decode cX11_now 216 = .ok (.iinc 7 1, 3) := by decide +kernel
theorem dX11_now_219 : decode cX11_now 219 = .ok (.goto (-47), 3) := by decide +kernel
theorem dX11_now_222 : decode cX11_now 222 = .ok (.iload 6, 2) := by decide +kernel
theorem dX11_now_224 : decode cX11_now 224 = .ok (.ireturn, 1) := by decide +kernel
theorem dX11_payAt_0 : decode cX11_payAt 0 = .ok (.iload_n 0, 1) := by decide +kernel
theorem dX11_payAt_1 : decode cX11_payAt 1 = .ok (.iconst 4, 1) := by decide +kernel
theorem dX11_payAt_2 : decode cX11_payAt 2 = .ok (.imul, 1) := by decide +kernel
theorem dX11_payAt_3 : decode cX11_payAt 3 = .ok (.iload_n 1, 1) := by decide +kernel
theorem dX11_payAt_4 : decode cX11_payAt 4 = .ok (.iadd, 1) := by decide +kernel
theorem dX11_payAt_5 : decode cX11_payAt 5 = .ok (.bipush 100, 2) := by decide +kernel
theorem dX11_payAt_7 : decode cX11_payAt 7 = .ok (.imul, 1) := by decide +kernel
theorem dX11_payAt_8 : decode cX11_payAt 8 = .ok (.iload_n 2, 1) := by decide +kernel
theorem dX11_payAt_9 : decode cX11_payAt 9 = .ok (.iadd, 1) := by decide +kernel
theorem dX11_payAt_10 : decode cX11_payAt 10 = .ok (.ireturn, 1) := by decide +kernel
theorem dX11_paysFrom_0 : decode cX11_paysFrom 0 = .ok (.iconst 1, 1) := by decide +kernel
theorem dX11_paysFrom_1 : decode cX11_paysFrom 1 = .ok (.istore 5, 2) := by decide +kernel
theorem dX11_paysFrom_3 : decode cX11_paysFrom 3 = .ok (.iload 5, 2) := by decide +kernel
theorem dX11_paysFrom_5 : decode cX11_paysFrom 5 = .ok (.iconst 4, 1) := by decide +kernel
theorem dX11_paysFrom_6 : decode cX11_paysFrom 6 = .ok (.if_icmp .ge 39, 3) := by decide +kernel
theorem dX11_paysFrom_9 : decode cX11_paysFrom 9 = .ok (.iconst 0, 1) := by decide +kernel
theorem dX11_paysFrom_10 : decode cX11_paysFrom 10 = .ok (.istore 6, 2) := by decide +kernel
theorem dX11_paysFrom_12 : decode cX11_paysFrom 12 = .ok (.iload 6, 2) := by decide +kernel
theorem dX11_paysFrom_14 : decode cX11_paysFrom 14 = .ok (.bipush 100, 2) := by decide +kernel
theorem dX11_paysFrom_16 : decode cX11_paysFrom 16 = .ok (.if_icmp .ge 23, 3) := by decide +kernel
theorem dX11_paysFrom_19 : decode cX11_paysFrom 19 = .ok (.aload_n 0, 1) := by decide +kernel
theorem dX11_paysFrom_20 : decode cX11_paysFrom 20 = .ok (.getfield 78, 3) := by decide +kernel
theorem dX11_paysFrom_23 : decode cX11_paysFrom 23 = .ok (.iconst 0, 1) := by decide +kernel
theorem dX11_paysFrom_24 : decode cX11_paysFrom 24 = .ok (.iload 5, 2) := by decide +kernel
theorem dX11_paysFrom_26 : decode cX11_paysFrom 26 = .ok (.iload 6, 2) := by decide +kernel
theorem dX11_paysFrom_28 : decode cX11_paysFrom 28 = .ok (.invokestatic 304, 3) := by decide +kernel
theorem dX11_paysFrom_31 : decode cX11_paysFrom 31 = .ok (.lconst 0, 1) := by decide +kernel
theorem dX11_paysFrom_32 : decode cX11_paysFrom 32 = .ok (.lastore, 1) := by decide +kernel
theorem dX11_paysFrom_33 : decode cX11_paysFrom 33 = .ok (.iinc 6 1, 3) := by decide +kernel
theorem dX11_paysFrom_36 : decode cX11_paysFrom 36 = .ok (.goto (-24), 3) := by decide +kernel
theorem dX11_paysFrom_39 : decode cX11_paysFrom 39 = .ok (.iinc 5 1, 3) := by decide +kernel
theorem dX11_paysFrom_42 : decode cX11_paysFrom 42 = .ok (.goto (-39), 3) := by decide +kernel
theorem dX11_paysFrom_45 : decode cX11_paysFrom 45 = .ok (.iconst 1, 1) := by decide +kernel
theorem dX11_paysFrom_46 : decode cX11_paysFrom 46 = .ok (.istore 5, 2) := by decide +kernel
theorem dX11_paysFrom_48 : decode cX11_paysFrom 48 = .ok (.iload 5, 2) := by decide +kernel
theorem dX11_paysFrom_50 : decode cX11_paysFrom 50 = .ok (.iload_n 2, 1) := by decide +kernel
theorem dX11_paysFrom_51 : decode cX11_paysFrom 51 = .ok (.if_icmp .gt 164, 3) := by decide +kernel
theorem dX11_paysFrom_54 : decode cX11_paysFrom 54 = .ok (.iconst 1, 1) := by decide +kernel
theorem dX11_paysFrom_55 : decode cX11_paysFrom 55 = .ok (.istore 6, 2) := by decide +kernel
theorem dX11_paysFrom_57 : decode cX11_paysFrom 57 = .ok (.iload 6, 2) := by decide +kernel
theorem dX11_paysFrom_59 : decode cX11_paysFrom 59 = .ok (.iconst 4, 1) := by decide +kernel
theorem dX11_paysFrom_60 : decode cX11_paysFrom 60 = .ok (.if_icmp .ge 149, 3) := by decide +kernel
theorem dX11_paysFrom_63 : decode cX11_paysFrom 63 = .ok (.iconst 0, 1) := by decide +kernel
theorem dX11_paysFrom_64 : decode cX11_paysFrom 64 = .ok (.istore 7, 2) := by decide +kernel
theorem dX11_paysFrom_66 : decode cX11_paysFrom 66 = .ok (.iload 7, 2) := by decide +kernel
theorem dX11_paysFrom_68 : decode cX11_paysFrom 68 = .ok (.bipush 100, 2) := by decide +kernel
theorem dX11_paysFrom_70 : decode cX11_paysFrom 70 = .ok (.if_icmp .ge 133, 3) := by decide +kernel
theorem dX11_paysFrom_73 : decode cX11_paysFrom 73 = .ok (.aload_n 0, 1) := by decide +kernel
theorem dX11_paysFrom_74 : decode cX11_paysFrom 74 = .ok (.iload 6, 2) := by decide +kernel
theorem dX11_paysFrom_76 : decode cX11_paysFrom 76 = .ok (.iconst 0, 1) := by decide +kernel
theorem dX11_paysFrom_77 : decode cX11_paysFrom 77 = .ok (.iload 7, 2) := by decide +kernel
theorem dX11_paysFrom_79 : decode cX11_paysFrom 79 = .ok (.invokevirtual 260, 3) := by decide +kernel
theorem dX11_paysFrom_82 : decode cX11_paysFrom 82 = .ok (.istore 8, 2) := by decide +kernel
theorem dX11_paysFrom_84 : decode cX11_paysFrom 84 = .ok (.iload 7, 2) := by decide +kernel
theorem dX11_paysFrom_86 : decode cX11_paysFrom 86 = .ok (.bipush 99, 2) := by decide +kernel
theorem dX11_paysFrom_88 : decode cX11_paysFrom 88 = .ok (.if_icmp .ge 10, 3) := by decide +kernel
theorem dX11_paysFrom_91 : decode cX11_paysFrom 91 = .ok (.iload 7, 2) := by decide +kernel
theorem dX11_paysFrom_93 : decode cX11_paysFrom 93 = .ok (.iconst 1, 1) := by decide +kernel
theorem dX11_paysFrom_94 : decode cX11_paysFrom 94 = .ok (.iadd, 1) := by decide +kernel
theorem dX11_paysFrom_95 : decode cX11_paysFrom 95 = .ok (.goto 5, 3) := by decide +kernel
theorem dX11_paysFrom_98 : decode cX11_paysFrom 98 = .ok (.iload 7, 2) := by decide +kernel
theorem dX11_paysFrom_100 : decode cX11_paysFrom 100 = .ok (.istore 9, 2) := by decide +kernel
theorem dX11_paysFrom_102 : decode cX11_paysFrom 102 = .ok (.iload 6, 2) := by decide +kernel
theorem dX11_paysFrom_104 : decode cX11_paysFrom 104 = .ok (.iconst 1, 1) := by decide +kernel
theorem dX11_paysFrom_105 : decode cX11_paysFrom 105 = .ok (.if_icmp .le 24, 3) := by decide +kernel
theorem dX11_paysFrom_108 : decode cX11_paysFrom 108 = .ok (.aload_n 0, 1) := by decide +kernel
theorem dX11_paysFrom_109 : decode cX11_paysFrom 109 = .ok (.getfield 78, 3) := by decide +kernel
theorem dX11_paysFrom_112 : decode cX11_paysFrom 112 = .ok (.iload 5, 2) := by decide +kernel
theorem dX11_paysFrom_114 : decode cX11_paysFrom 114 = .ok (.iconst 1, 1) := by decide +kernel
theorem dX11_paysFrom_115 : decode cX11_paysFrom 115 = .ok (.isub, 1) := by decide +kernel
theorem dX11_paysFrom_116 : decode cX11_paysFrom 116 = .ok (.iload 6, 2) := by decide +kernel
theorem dX11_paysFrom_118 : decode cX11_paysFrom 118 = .ok (.iconst 1, 1) := by decide +kernel
theorem dX11_paysFrom_119 : decode cX11_paysFrom 119 = .ok (.isub, 1) := by decide +kernel
theorem dX11_paysFrom_120 : decode cX11_paysFrom 120 = .ok (.iload 9, 2) := by decide +kernel
theorem dX11_paysFrom_122 : decode cX11_paysFrom 122 = .ok (.invokestatic 304, 3) := by decide +kernel
theorem dX11_paysFrom_125 : decode cX11_paysFrom 125 = .ok (.laload, 1) := by decide +kernel
theorem dX11_paysFrom_126 : decode cX11_paysFrom 126 = .ok (.goto 25, 3) := by decide +kernel
theorem dX11_paysFrom_129 : decode cX11_paysFrom 129 = .ok (.aload_n 0, 1) := by decide +kernel
theorem dX11_paysFrom_130 : decode cX11_paysFrom 130 = .ok (.iload 7, 2) := by decide +kernel
theorem dX11_paysFrom_132 : decode cX11_paysFrom 132 = .ok (.invokevirtual 267, 3) := by decide +kernel
theorem dX11_paysFrom_135 : decode cX11_paysFrom 135 = .ok (.ifCond .eq 7, 3) := by decide +kernel
theorem dX11_paysFrom_138 : decode cX11_paysFrom 138 = .ok (.lconst 0, 1) := by decide +kernel
theorem dX11_paysFrom_139 : decode cX11_paysFrom 139 = .ok (.goto 12, 3) := by decide +kernel
theorem dX11_paysFrom_142 : decode cX11_paysFrom 142 = .ok (.aload_n 0, 1) := by decide +kernel
theorem dX11_paysFrom_143 : decode cX11_paysFrom 143 = .ok (.getfield 64, 3) := by decide +kernel
theorem dX11_paysFrom_146 : decode cX11_paysFrom 146 = .ok (.iload 5, 2) := by decide +kernel
theorem dX11_paysFrom_148 : decode cX11_paysFrom 148 = .ok (.iconst 1, 1) := by decide +kernel
theorem dX11_paysFrom_149 : decode cX11_paysFrom 149 = .ok (.isub, 1) := by decide +kernel
theorem dX11_paysFrom_150 : decode cX11_paysFrom 150 = .ok (.laload, 1) := by decide +kernel
theorem dX11_paysFrom_151 : decode cX11_paysFrom 151 = .ok (.lstore 10, 2) := by decide +kernel
theorem dX11_paysFrom_153 : decode cX11_paysFrom 153 = .ok (.aload_n 0, 1) := by decide +kernel
theorem dX11_paysFrom_154 : decode cX11_paysFrom 154 = .ok (.getfield 78, 3) := by decide +kernel
theorem dX11_paysFrom_157 : decode cX11_paysFrom 157 = .ok (.iload 5, 2) := by decide +kernel
theorem dX11_paysFrom_159 : decode cX11_paysFrom 159 = .ok (.iload 6, 2) := by decide +kernel
theorem dX11_paysFrom_161 : decode cX11_paysFrom 161 = .ok (.iload 7, 2) := by decide +kernel
theorem dX11_paysFrom_163 : decode cX11_paysFrom 163 = .ok (.invokestatic 304, 3) := by decide +kernel
theorem dX11_paysFrom_166 : decode cX11_paysFrom 166 = .ok (.iload 8, 2) := by decide +kernel
theorem dX11_paysFrom_168 : decode cX11_paysFrom 168 = .ok (.i2l, 1) := by decide +kernel
theorem dX11_paysFrom_169 : decode cX11_paysFrom 169 = .ok (.lload 10, 2) := by decide +kernel
theorem dX11_paysFrom_171 : decode cX11_paysFrom 171 = .ok (.lmul, 1) := by decide +kernel
theorem dX11_paysFrom_172 : decode cX11_paysFrom 172 = .ok (.bipush 12, 2) := by decide +kernel
theorem dX11_paysFrom_174 : decode cX11_paysFrom 174 = .ok (.iload 8, 2) := by decide +kernel
theorem dX11_paysFrom_176 : decode cX11_paysFrom 176 = .ok (.isub, 1) := by decide +kernel
theorem dX11_paysFrom_177 : decode cX11_paysFrom 177 = .ok (.i2l, 1) := by decide +kernel
theorem dX11_paysFrom_178 : decode cX11_paysFrom 178 = .ok (.aload_n 0, 1) := by decide +kernel
theorem dX11_paysFrom_179 : decode cX11_paysFrom 179 = .ok (.getfield 78, 3) := by decide +kernel
theorem dX11_paysFrom_182 : decode cX11_paysFrom 182 = .ok (.iload 5, 2) := by decide +kernel
theorem dX11_paysFrom_184 : decode cX11_paysFrom 184 = .ok (.iconst 1, 1) := by decide +kernel
theorem dX11_paysFrom_185 : decode cX11_paysFrom 185 = .ok (.isub, 1) := by decide +kernel
theorem dX11_paysFrom_186 : decode cX11_paysFrom 186 = .ok (.iload 6, 2) := by decide +kernel
theorem dX11_paysFrom_188 : decode cX11_paysFrom 188 = .ok (.iload 9, 2) := by decide +kernel
theorem dX11_paysFrom_190 : decode cX11_paysFrom 190 = .ok (.invokestatic 304, 3) := by decide +kernel
theorem dX11_paysFrom_193 : decode cX11_paysFrom 193 = .ok (.laload, 1) := by decide +kernel
theorem dX11_paysFrom_194 : decode cX11_paysFrom 194 = .ok (.lmul, 1) := by decide +kernel
theorem dX11_paysFrom_195 : decode cX11_paysFrom 195 = .ok (.ladd, 1) := by decide +kernel
theorem dX11_paysFrom_196 : decode cX11_paysFrom 196 = .ok (.lastore, 1) := by decide +kernel
theorem dX11_paysFrom_197 : decode cX11_paysFrom 197 = .ok (.iinc 7 1, 3) := by decide +kernel
theorem dX11_paysFrom_200 : decode cX11_paysFrom 200 = .ok (.goto (-134), 3) := by decide +kernel
theorem dX11_paysFrom_203 : decode cX11_paysFrom 203 = .ok (.iinc 6 1, 3) := by decide +kernel
theorem dX11_paysFrom_206 : decode cX11_paysFrom 206 = .ok (.goto (-149), 3) := by decide +kernel
theorem dX11_paysFrom_209 : decode cX11_paysFrom 209 = .ok (.iinc 5 1, 3) := by decide +kernel
theorem dX11_paysFrom_212 : decode cX11_paysFrom 212 = .ok (.goto (-164), 3) := by decide +kernel
theorem dX11_paysFrom_215 : decode cX11_paysFrom 215 = .ok (.aload_n 0, 1) := by decide +kernel
theorem dX11_paysFrom_216 : decode cX11_paysFrom 216 = .ok (.getfield 78, 3) := by decide +kernel
theorem dX11_paysFrom_219 : decode cX11_paysFrom 219 = .ok (.iload_n 2, 1) := by decide +kernel
theorem dX11_paysFrom_220 : decode cX11_paysFrom 220 = .ok (.iload_n 3, 1) := by decide +kernel
theorem dX11_paysFrom_221 : decode cX11_paysFrom 221 = .ok (.iload 4, 2) := by decide +kernel
theorem dX11_paysFrom_223 : decode cX11_paysFrom 223 = .ok (.invokestatic 304, 3) := by decide +kernel
theorem dX11_paysFrom_226 : decode cX11_paysFrom 226 = .ok (.laload, 1) := by decide +kernel
theorem dX11_paysFrom_227 : decode cX11_paysFrom 227 = .ok (.lreturn, 1) := by decide +kernel
theorem dX11_smith_0 : decode cX11_smith 0 = .ok (.aload_n 0, 1) := by decide +kernel
theorem dX11_smith_1 : decode cX11_smith 1 = .ok (.iload_n 1, 1) := by decide +kernel
theorem dX11_smith_2 : decode cX11_smith 2 = .ok (.invokevirtual 288, 3) := by decide +kernel
theorem dX11_smith_5 : decode cX11_smith 5 = .ok (.ifCond .eq 45, 3) := by decide +kernel
theorem dX11_smith_8 : decode cX11_smith 8 = .ok (.aload_n 0, 1) := by decide +kernel
theorem dX11_smith_9 : decode cX11_smith 9 = .ok (.iload_n 2, 1) := by decide +kernel
theorem dX11_smith_10 : decode cX11_smith 10 = .ok (.invokevirtual 159, 3) := by decide +kernel
theorem dX11_smith_13 : decode cX11_smith 13 = .ok (.ifCond .eq 37, 3) := by decide +kernel
theorem dX11_smith_16 : decode cX11_smith 16 = .ok (.iload_n 2, 1) := by decide +kernel
theorem dX11_smith_17 : decode cX11_smith 17 = .ok (.aload_n 0, 1) := by decide +kernel
theorem dX11_smith_18 : decode cX11_smith 18 = .ok (.getfield 31, 3) := by decide +kernel
theorem dX11_smith_21 : decode cX11_smith 21 = .ok (.iload_n 1, 1) := by decide +kernel
theorem dX11_smith_22 : decode cX11_smith 22 = .ok (.bipush 10, 2) := by decide +kernel
theorem dX11_smith_24 : decode cX11_smith 24 = .ok (.idiv, 1) := by decide +kernel
theorem dX11_smith_25 : decode cX11_smith 25 = .ok (.iaload, 1) := by decide +kernel
theorem dX11_smith_26 : decode cX11_smith 26 = .ok (.if_icmp .eq 24, 3) := by decide +kernel
theorem dX11_smith_29 : decode cX11_smith 29 = .ok (.iload_n 3, 1) := by decide +kernel
theorem dX11_smith_30 : decode cX11_smith 30 = .ok (.i2l, 1) := by decide +kernel
theorem dX11_smith_31 : decode cX11_smith 31 = .ok (.lconst 0, 1) := by decide +kernel
theorem dX11_smith_32 : decode cX11_smith 32 = .ok (.lconst 1, 1) := by decide +kernel
theorem dX11_smith_33 : decode cX11_smith 33 = .ok (.invokestatic 127, 3) := by decide +kernel
theorem dX11_smith_36 : decode cX11_smith 36 = .ok (.ifCond .eq 14, 3) := by decide +kernel
theorem dX11_smith_39 : decode cX11_smith 39 = .ok (.iload 4, 2) := by decide +kernel
theorem dX11_smith_41 : decode cX11_smith 41 = .ok (.i2l, 1) := by decide +kernel
theorem dX11_smith_42 : decode cX11_smith 42 = .ok (.lconst 0, 1) := by decide +kernel
theorem dX11_smith_43 : decode cX11_smith 43 = .ok (.lconst 1, 1) := by decide +kernel
theorem dX11_smith_44 : decode cX11_smith 44 = .ok (.invokestatic 127, 3) := by decide +kernel
theorem dX11_smith_47 : decode cX11_smith 47 = .ok (.ifCond .ne 7, 3) := by decide +kernel
theorem dX11_smith_50 : decode cX11_smith 50 = .ok (.ldc2_w 293, 3) := by decide +kernel
theorem dX11_smith_53 : decode cX11_smith 53 = .ok (.lreturn, 1) := by decide +kernel
theorem dX11_smith_54 : decode cX11_smith 54 = .ok (.iload_n 1, 1) := by decide +kernel
theorem dX11_smith_55 : decode cX11_smith 55 = .ok (.bipush 10, 2) := by decide +kernel
theorem dX11_smith_57 : decode cX11_smith 57 = .ok (.idiv, 1) := by decide +kernel
theorem dX11_smith_58 : decode cX11_smith 58 = .ok (.istore 5, 2) := by decide +kernel
theorem dX11_smith_60 : decode cX11_smith 60 = .ok (.iload_n 1, 1) := by decide +kernel
theorem dX11_smith_61 : decode cX11_smith 61 = .ok (.bipush 10, 2) := by decide +kernel
theorem dX11_smith_63 : decode cX11_smith 63 = .ok (.irem, 1) := by decide +kernel
theorem dX11_smith_64 : decode cX11_smith 64 = .ok (.istore 6, 2) := by decide +kernel
theorem dX11_smith_66 : decode cX11_smith 66 = .ok (.aload_n 0, 1) := by decide +kernel
theorem dX11_smith_67 : decode cX11_smith 67 = .ok (.getfield 9, 3) := by decide +kernel
theorem dX11_smith_70 : decode cX11_smith 70 = .ok (.iload_n 2, 1) := by decide +kernel
theorem dX11_smith_71 : decode cX11_smith 71 = .ok (.iaload, 1) := by decide +kernel
theorem dX11_smith_72 : decode cX11_smith 72 = .ok (.aload_n 0, 1) := by decide +kernel
theorem dX11_smith_73 : decode cX11_smith 73 = .ok (.getfield 34, 3) := by decide +kernel
theorem dX11_smith_76 : decode cX11_smith 76 = .ok (.iload 5, 2) := by decide +kernel
theorem dX11_smith_78 : decode cX11_smith 78 = .ok (.iaload, 1) := by decide +kernel
theorem dX11_smith_79 : decode cX11_smith 79 = .ok (.if_icmp .le 12, 3) := by decide +kernel
theorem dX11_smith_82 : decode cX11_smith 82 = .ok (.aload_n 0, 1) := by decide +kernel
theorem dX11_smith_83 : decode cX11_smith 83 = .ok (.getfield 9, 3) := by decide +kernel
theorem dX11_smith_86 : decode cX11_smith 86 = .ok (.iload_n 2, 1) := by decide +kernel
theorem dX11_smith_87 : decode cX11_smith 87 = .ok (.iaload, 1) := by decide +kernel
theorem dX11_smith_88 : decode cX11_smith 88 = .ok (.goto 10, 3) := by decide +kernel
theorem dX11_smith_91 : decode cX11_smith 91 = .ok (.aload_n 0, 1) := by decide +kernel
theorem dX11_smith_92 : decode cX11_smith 92 = .ok (.getfield 34, 3) := by decide +kernel
theorem dX11_smith_95 : decode cX11_smith 95 = .ok (.iload 5, 2) := by decide +kernel
theorem dX11_smith_97 : decode cX11_smith 97 = .ok (.iaload, 1) := by decide +kernel
theorem dX11_smith_98 : decode cX11_smith 98 = .ok (.istore 7, 2) := by decide +kernel
theorem dX11_smith_100 : decode cX11_smith 100 = .ok (.aload_n 0, 1) := by decide +kernel
theorem dX11_smith_101 : decode cX11_smith 101 = .ok (.iload 5, 2) := by decide +kernel
theorem dX11_smith_103 : decode cX11_smith 103 = .ok (.aload_n 0, 1) := by decide +kernel
theorem dX11_smith_104 : decode cX11_smith 104 = .ok (.getfield 31, 3) := by decide +kernel
theorem dX11_smith_107 : decode cX11_smith 107 = .ok (.iload 5, 2) := by decide +kernel
theorem dX11_smith_109 : decode cX11_smith 109 = .ok (.iaload, 1) := by decide +kernel
theorem dX11_smith_110 : decode cX11_smith 110 = .ok (.iconst 4, 1) := by decide +kernel
theorem dX11_smith_111 : decode cX11_smith 111 = .ok (.invokevirtual 278, 3) := by decide +kernel
theorem dX11_smith_114 : decode cX11_smith 114 = .ok (.iload_n 3, 1) := by decide +kernel
theorem dX11_smith_115 : decode cX11_smith 115 = .ok (.iconst 1, 1) := by decide +kernel
theorem dX11_smith_116 : decode cX11_smith 116 = .ok (.if_icmp .ne 39, 3) := by decide +kernel
theorem dX11_smith_119 : decode cX11_smith 119 = .ok (.aload_n 0, 1) := by decide +kernel
theorem dX11_smith_120 : decode cX11_smith 120 = .ok (.getfield 9, 3) := by decide +kernel
theorem dX11_smith_123 : decode cX11_smith 123 = .ok (.bipush 21, 2) := by decide +kernel
theorem dX11_smith_125 : decode cX11_smith 125 = .ok (.iload 5, 2) := by decide +kernel
theorem dX11_smith_127 : decode cX11_smith 127 = .ok (.iadd, 1) := by decide +kernel
theorem dX11_smith_128 : decode cX11_smith 128 = .ok (.iaload, 1) := by decide +kernel
theorem dX11_smith_129 : decode cX11_smith 129 = .ok (.i2l, 1) := by decide +kernel
theorem dX11_smith_130 : decode cX11_smith 130 = .ok (.aload_n 0, 1) := by decide +kernel
theorem dX11_smith_131 : decode cX11_smith 131 = .ok (.iload 5, 2) := by decide +kernel
theorem dX11_smith_133 : decode cX11_smith 133 = .ok (.iload 6, 2) := by decide +kernel
theorem dX11_smith_135 : decode cX11_smith 135 = .ok (.iload 7, 2) := by decide +kernel
theorem dX11_smith_137 : decode cX11_smith 137 = .ok (.iconst 0, 1) := by decide +kernel
theorem dX11_smith_138 : decode cX11_smith 138 = .ok (.invokevirtual 307, 3) := by decide +kernel
theorem dX11_smith_141 : decode cX11_smith 141 = .ok (.lmul, 1) := by decide +kernel
theorem dX11_smith_142 : decode cX11_smith 142 = .ok (.aload_n 0, 1) := by decide +kernel
theorem dX11_smith_143 : decode cX11_smith 143 = .ok (.getfield 64, 3) := by decide +kernel
theorem dX11_smith_146 : decode cX11_smith 146 = .ok (.iload 6, 2) := by decide +kernel
theorem dX11_smith_148 : decode cX11_smith 148 = .ok (.laload, 1) := by decide +kernel
theorem dX11_smith_149 : decode cX11_smith 149 = .ok (.iload 4, 2) := by decide +kernel
theorem dX11_smith_151 : decode cX11_smith 151 = .ok (.invokestatic 298, 3) := by decide +kernel
theorem dX11_smith_154 : decode cX11_smith 154 = .ok (.lreturn, 1) := by decide +kernel
theorem dX11_smith_155 : decode cX11_smith 155 = .ok (.iload 6, 2) := by decide +kernel
theorem dX11_smith_157 : decode cX11_smith 157 = .ok (.ifCond .ne 7, 3) := by decide +kernel
theorem dX11_smith_160 : decode cX11_smith 160 = .ok (.iload 4, 2) := by decide +kernel
theorem dX11_smith_162 : decode cX11_smith 162 = .ok (.i2l, 1) := by decide +kernel
theorem dX11_smith_163 : decode cX11_smith 163 = .ok (.lreturn, 1) := by decide +kernel
theorem dX11_smith_164 : decode cX11_smith 164 = .ok (.aload_n 0, 1) := by decide +kernel
theorem dX11_smith_165 : decode cX11_smith 165 = .ok (.iload 6, 2) := by decide +kernel
theorem dX11_smith_167 : decode cX11_smith 167 = .ok (.invokevirtual 281, 3) := by decide +kernel
theorem dX11_smith_170 : decode cX11_smith 170 = .ok (.aload_n 0, 1) := by decide +kernel
theorem dX11_smith_171 : decode cX11_smith 171 = .ok (.iload 6, 2) := by decide +kernel
theorem dX11_smith_173 : decode cX11_smith 173 = .ok (.iload 7, 2) := by decide +kernel
theorem dX11_smith_175 : decode cX11_smith 175 = .ok (.iconst 1, 1) := by decide +kernel
theorem dX11_smith_176 : decode cX11_smith 176 = .ok (.iconst 0, 1) := by decide +kernel
theorem dX11_smith_177 : decode cX11_smith 177 = .ok (.invokevirtual 270, 3) := by decide +kernel
theorem dX11_smith_180 : decode cX11_smith 180 = .ok (.aload_n 0, 1) := by decide +kernel
theorem dX11_smith_181 : decode cX11_smith 181 = .ok (.iload 6, 2) := by decide +kernel
theorem dX11_smith_183 : decode cX11_smith 183 = .ok (.aload_n 0, 1) := by decide +kernel
theorem dX11_smith_184 : decode cX11_smith 184 = .ok (.getfield 34, 3) := by decide +kernel
theorem dX11_smith_187 : decode cX11_smith 187 = .ok (.iload 5, 2) := by decide +kernel
theorem dX11_smith_189 : decode cX11_smith 189 = .ok (.iaload, 1) := by decide +kernel
theorem dX11_smith_190 : decode cX11_smith 190 = .ok (.aload_n 0, 1) := by decide +kernel
theorem dX11_smith_191 : decode cX11_smith 191 = .ok (.iload 5, 2) := by decide +kernel
theorem dX11_smith_193 : decode cX11_smith 193 = .ok (.aload_n 0, 1) := by decide +kernel
theorem dX11_smith_194 : decode cX11_smith 194 = .ok (.getfield 31, 3) := by decide +kernel
theorem dX11_smith_197 : decode cX11_smith 197 = .ok (.iload 5, 2) := by decide +kernel
theorem dX11_smith_199 : decode cX11_smith 199 = .ok (.iaload, 1) := by decide +kernel
theorem dX11_smith_200 : decode cX11_smith 200 = .ok (.invokevirtual 285, 3) := by decide +kernel
theorem dX11_smith_203 : decode cX11_smith 203 = .ok (.aload_n 0, 1) := by decide +kernel
theorem dX11_smith_204 : decode cX11_smith 204 = .ok (.getfield 43, 3) := by decide +kernel
theorem dX11_smith_207 : decode cX11_smith 207 = .ok (.iload 5, 2) := by decide +kernel
theorem dX11_smith_209 : decode cX11_smith 209 = .ok (.iaload, 1) := by decide +kernel
theorem dX11_smith_210 : decode cX11_smith 210 = .ok (.invokevirtual 270, 3) := by decide +kernel
theorem dX11_smith_213 : decode cX11_smith 213 = .ok (.lsub, 1) := by decide +kernel
theorem dX11_smith_214 : decode cX11_smith 214 = .ok (.lstore 8, 2) := by decide +kernel
theorem dX11_smith_216 : decode cX11_smith 216 = .ok (.lload 8, 2) := by decide +kernel
theorem dX11_smith_218 : decode cX11_smith 218 = .ok (.aload_n 0, 1) := by decide +kernel
theorem dX11_smith_219 : decode cX11_smith 219 = .ok (.getfield 64, 3) := by decide +kernel
theorem dX11_smith_222 : decode cX11_smith 222 = .ok (.iload 6, 2) := by decide +kernel
theorem dX11_smith_224 : decode cX11_smith 224 = .ok (.laload, 1) := by decide +kernel
theorem dX11_smith_225 : decode cX11_smith 225 = .ok (.iload 4, 2) := by decide +kernel
theorem dX11_smith_227 : decode cX11_smith 227 = .ok (.invokestatic 298, 3) := by decide +kernel
theorem dX11_smith_230 : decode cX11_smith 230 = .ok (.lreturn, 1) := by decide +kernel
theorem dX11_gift_0 : decode cX11_gift 0 = .ok (.aload_n 0, 1) := by decide +kernel
theorem dX11_gift_1 : decode cX11_gift 1 = .ok (.iload_n 1, 1) := by decide +kernel
theorem dX11_gift_2 : decode cX11_gift 2 = .ok (.invokevirtual 288, 3) := by decide +kernel
theorem dX11_gift_5 : decode cX11_gift 5 = .ok (.ifCond .eq 34, 3) := by decide +kernel
theorem dX11_gift_8 : decode cX11_gift 8 = .ok (.aload_n 0, 1) := by decide +kernel
theorem dX11_gift_9 : decode cX11_gift 9 = .ok (.iload_n 2, 1) := by decide +kernel
theorem dX11_gift_10 : decode cX11_gift 10 = .ok (.invokevirtual 159, 3) := by decide +kernel
theorem dX11_gift_13 : decode cX11_gift 13 = .ok (.ifCond .eq 26, 3) := by decide +kernel
theorem dX11_gift_16 : decode cX11_gift 16 = .ok (.iload_n 2, 1) := by decide +kernel
theorem dX11_gift_17 : decode cX11_gift 17 = .ok (.aload_n 0, 1) := by decide +kernel
theorem dX11_gift_18 : decode cX11_gift 18 = .ok (.getfield 31, 3) := by decide +kernel
theorem dX11_gift_21 : decode cX11_gift 21 = .ok (.iload_n 1, 1) := by decide +kernel
theorem dX11_gift_22 : decode cX11_gift 22 = .ok (.bipush 10, 2) := by decide +kernel
theorem dX11_gift_24 : decode cX11_gift 24 = .ok (.idiv, 1) := by decide +kernel
theorem dX11_gift_25 : decode cX11_gift 25 = .ok (.iaload, 1) := by decide +kernel
theorem dX11_gift_26 : decode cX11_gift 26 = .ok (.if_icmp .eq 13, 3) := by decide +kernel
theorem dX11_gift_29 : decode cX11_gift 29 = .ok (.iload_n 3, 1) := by decide +kernel
theorem dX11_gift_30 : decode cX11_gift 30 = .ok (.i2l, 1) := by decide +kernel
theorem dX11_gift_31 : decode cX11_gift 31 = .ok (.lconst 0, 1) := by decide +kernel
theorem dX11_gift_32 : decode cX11_gift 32 = .ok (.lconst 1, 1) := by decide +kernel
theorem dX11_gift_33 : decode cX11_gift 33 = .ok (.invokestatic 127, 3) := by decide +kernel
theorem dX11_gift_36 : decode cX11_gift 36 = .ok (.ifCond .ne 7, 3) := by decide +kernel
theorem dX11_gift_39 : decode cX11_gift 39 = .ok (.ldc2_w 293, 3) := by decide +kernel
theorem dX11_gift_42 : decode cX11_gift 42 = .ok (.lreturn, 1) := by decide +kernel
theorem dX11_gift_43 : decode cX11_gift 43 = .ok (.aload_n 0, 1) := by decide +kernel
theorem dX11_gift_44 : decode cX11_gift 44 = .ok (.iload_n 1, 1) := by decide +kernel
theorem dX11_gift_45 : decode cX11_gift 45 = .ok (.bipush 10, 2) := by decide +kernel
theorem dX11_gift_47 : decode cX11_gift 47 = .ok (.idiv, 1) := by decide +kernel
theorem dX11_gift_48 : decode cX11_gift 48 = .ok (.iload_n 2, 1) := by decide +kernel
theorem dX11_gift_49 : decode cX11_gift 49 = .ok (.iload_n 1, 1) := by decide +kernel
theorem dX11_gift_50 : decode cX11_gift 50 = .ok (.bipush 10, 2) := by decide +kernel
theorem dX11_gift_52 : decode cX11_gift 52 = .ok (.irem, 1) := by decide +kernel
theorem dX11_gift_53 : decode cX11_gift 53 = .ok (.iconst 4, 1) := by decide +kernel
theorem dX11_gift_54 : decode cX11_gift 54 = .ok (.invokevirtual 295, 3) := by decide +kernel
theorem dX11_gift_57 : decode cX11_gift 57 = .ok (.lstore 4, 2) := by decide +kernel
theorem dX11_gift_59 : decode cX11_gift 59 = .ok (.lload 4, 2) := by decide +kernel
theorem dX11_gift_61 : decode cX11_gift 61 = .ok (.aload_n 0, 1) := by decide +kernel
theorem dX11_gift_62 : decode cX11_gift 62 = .ok (.getfield 64, 3) := by decide +kernel
theorem dX11_gift_65 : decode cX11_gift 65 = .ok (.iload_n 1, 1) := by decide +kernel
theorem dX11_gift_66 : decode cX11_gift 66 = .ok (.bipush 10, 2) := by decide +kernel
theorem dX11_gift_68 : decode cX11_gift 68 = .ok (.irem, 1) := by decide +kernel
theorem dX11_gift_69 : decode cX11_gift 69 = .ok (.laload, 1) := by decide +kernel
theorem dX11_gift_70 : decode cX11_gift 70 = .ok (.iload_n 3, 1) := by decide +kernel
theorem dX11_gift_71 : decode cX11_gift 71 = .ok (.invokestatic 298, 3) := by decide +kernel
theorem dX11_gift_74 : decode cX11_gift 74 = .ok (.lreturn, 1) := by decide +kernel
theorem dX11_debts_0 : decode cX11_debts 0 = .ok (.iload_n 1, 1) := by decide +kernel
theorem dX11_debts_1 : decode cX11_debts 1 = .ok (.ifCond .lt 33, 3) := by decide +kernel
theorem dX11_debts_4 : decode cX11_debts 4 = .ok (.aload_n 0, 1) := by decide +kernel
theorem dX11_debts_5 : decode cX11_debts 5 = .ok (.iload_n 1, 1) := by decide +kernel
theorem dX11_debts_6 : decode cX11_debts 6 = .ok (.bipush 10, 2) := by decide +kernel
theorem dX11_debts_8 : decode cX11_debts 8 = .ok (.idiv, 1) := by decide +kernel
theorem dX11_debts_9 : decode cX11_debts 9 = .ok (.invokevirtual 159, 3) := by decide +kernel
theorem dX11_debts_12 : decode cX11_debts 12 = .ok (.ifCond .eq 22, 3) := by decide +kernel
theorem dX11_debts_15 : decode cX11_debts 15 = .ok (.iload_n 1, 1) := by decide +kernel
theorem dX11_debts_16 : decode cX11_debts 16 = .ok (.bipush 10, 2) := by decide +kernel
theorem dX11_debts_18 : decode cX11_debts 18 = .ok (.irem, 1) := by decide +kernel
theorem dX11_debts_19 : decode cX11_debts 19 = .ok (.bipush 6, 2) := by decide +kernel
theorem dX11_debts_21 : decode cX11_debts 21 = .ok (.if_icmp .gt 13, 3) := by decide +kernel
theorem dX11_debts_24 : decode cX11_debts 24 = .ok (.iload_n 2, 1) := by decide +kernel
theorem dX11_debts_25 : decode cX11_debts 25 = .ok (.i2l, 1) := by decide +kernel
theorem dX11_debts_26 : decode cX11_debts 26 = .ok (.lconst 0, 1) := by decide +kernel
theorem dX11_debts_27 : decode cX11_debts 27 = .ok (.lconst 1, 1) := by decide +kernel
theorem dX11_debts_28 : decode cX11_debts 28 = .ok (.invokestatic 127, 3) := by decide +kernel
theorem dX11_debts_31 : decode cX11_debts 31 = .ok (.ifCond .ne 7, 3) := by decide +kernel
theorem dX11_debts_34 : decode cX11_debts 34 = .ok (.ldc2_w 293, 3) := by decide +kernel
theorem dX11_debts_37 : decode cX11_debts 37 = .ok (.lreturn, 1) := by decide +kernel
theorem dX11_debts_38 : decode cX11_debts 38 = .ok (.lconst 0, 1) := by decide +kernel
theorem dX11_debts_39 : decode cX11_debts 39 = .ok (.lstore_n 3, 1) := by decide +kernel
theorem dX11_debts_40 : decode cX11_debts 40 = .ok (.iconst 0, 1) := by decide +kernel
theorem dX11_debts_41 : decode cX11_debts 41 = .ok (.istore 5, 2) := by decide +kernel
theorem dX11_debts_43 : decode cX11_debts 43 = .ok (.iload 5, 2) := by decide +kernel
theorem dX11_debts_45 : decode cX11_debts 45 = .ok (.aload_n 0, 1) := by decide +kernel
theorem dX11_debts_46 : decode cX11_debts 46 = .ok (.getfield 131, 3) := by decide +kernel
theorem dX11_debts_49 : decode cX11_debts 49 = .ok (.if_icmp .ge 76, 3) := by decide +kernel
theorem dX11_debts_52 : decode cX11_debts 52 = .ok (.aload_n 0, 1) := by decide +kernel
theorem dX11_debts_53 : decode cX11_debts 53 = .ok (.getfield 37, 3) := by decide +kernel
theorem dX11_debts_56 : decode cX11_debts 56 = .ok (.iload 5, 2) := by decide +kernel
theorem dX11_debts_58 : decode cX11_debts 58 = .ok (.iaload, 1) := by decide +kernel
theorem dX11_debts_59 : decode cX11_debts 59 = .ok (.iload_n 1, 1) := by decide +kernel
theorem dX11_debts_60 : decode cX11_debts 60 = .ok (.bipush 10, 2) := by decide +kernel
theorem dX11_debts_62 : decode cX11_debts 62 = .ok (.idiv, 1) := by decide +kernel
theorem dX11_debts_63 : decode cX11_debts 63 = .ok (.if_icmp .ne 56, 3) := by decide +kernel
theorem dX11_debts_66 : decode cX11_debts 66 = .ok (.aload_n 0, 1) := by decide +kernel
theorem dX11_debts_67 : decode cX11_debts 67 = .ok (.iload 5, 2) := by decide +kernel
theorem dX11_debts_69 : decode cX11_debts 69 = .ok (.aload_n 0, 1) := by decide +kernel
theorem dX11_debts_70 : decode cX11_debts 70 = .ok (.getfield 31, 3) := by decide +kernel
theorem dX11_debts_73 : decode cX11_debts 73 = .ok (.iload 5, 2) := by decide +kernel
theorem dX11_debts_75 : decode cX11_debts 75 = .ok (.iaload, 1) := by decide +kernel
theorem dX11_debts_76 : decode cX11_debts 76 = .ok (.iconst 0, 1) := by decide +kernel
theorem dX11_debts_77 : decode cX11_debts 77 = .ok (.invokevirtual 278, 3) := by decide +kernel
theorem dX11_debts_80 : decode cX11_debts 80 = .ok (.lload_n 3, 1) := by decide +kernel
theorem dX11_debts_81 : decode cX11_debts 81 = .ok (.aload_n 0, 1) := by decide +kernel
theorem dX11_debts_82 : decode cX11_debts 82 = .ok (.getfield 9, 3) := by decide +kernel
theorem dX11_debts_85 : decode cX11_debts 85 = .ok (.bipush 21, 2) := by decide +kernel
theorem dX11_debts_87 : decode cX11_debts 87 = .ok (.iload 5, 2) := by decide +kernel
theorem dX11_debts_89 : decode cX11_debts 89 = .ok (.iadd, 1) := by decide +kernel
theorem dX11_debts_90 : decode cX11_debts 90 = .ok (.iaload, 1) := by decide +kernel
theorem dX11_debts_91 : decode cX11_debts 91 = .ok (.i2l, 1) := by decide +kernel
theorem dX11_debts_92 : decode cX11_debts 92 = .ok (.aload_n 0, 1) := by decide +kernel
theorem dX11_debts_93 : decode cX11_debts 93 = .ok (.iload 5, 2) := by decide +kernel
theorem dX11_debts_95 : decode cX11_debts 95 = .ok (.iload_n 1, 1) := by decide +kernel
theorem dX11_debts_96 : decode cX11_debts 96 = .ok (.bipush 10, 2) := by decide +kernel
theorem dX11_debts_98 : decode cX11_debts 98 = .ok (.irem, 1) := by decide +kernel
theorem dX11_debts_99 : decode cX11_debts 99 = .ok (.aload_n 0, 1) := by decide +kernel
theorem dX11_debts_100 : decode cX11_debts 100 = .ok (.getfield 34, 3) := by decide +kernel
theorem dX11_debts_103 : decode cX11_debts 103 = .ok (.iload 5, 2) := by decide +kernel
theorem dX11_debts_105 : decode cX11_debts 105 = .ok (.iaload, 1) := by decide +kernel
theorem dX11_debts_106 : decode cX11_debts 106 = .ok (.aload_n 0, 1) := by decide +kernel
theorem dX11_debts_107 : decode cX11_debts 107 = .ok (.getfield 43, 3) := by decide +kernel
theorem dX11_debts_110 : decode cX11_debts 110 = .ok (.iload 5, 2) := by decide +kernel
theorem dX11_debts_112 : decode cX11_debts 112 = .ok (.iaload, 1) := by decide +kernel
theorem dX11_debts_113 : decode cX11_debts 113 = .ok (.invokevirtual 307, 3) := by decide +kernel
theorem dX11_debts_116 : decode cX11_debts 116 = .ok (.lmul, 1) := by decide +kernel
theorem dX11_debts_117 : decode cX11_debts 117 = .ok (.ladd, 1) := by decide +kernel
theorem dX11_debts_118 : decode cX11_debts 118 = .ok (.lstore_n 3, 1) := by decide +kernel
theorem dX11_debts_119 : decode cX11_debts 119 = .ok (.iinc 5 1, 3) := by decide +kernel
theorem dX11_debts_122 : decode cX11_debts 122 = .ok (.goto (-79), 3) := by decide +kernel
theorem dX11_debts_125 : decode cX11_debts 125 = .ok (.lload_n 3, 1) := by decide +kernel
theorem dX11_debts_126 : decode cX11_debts 126 = .ok (.lload_n 3, 1) := by decide +kernel
theorem dX11_debts_127 : decode cX11_debts 127 = .ok (.lconst 0, 1) := by decide +kernel
theorem dX11_debts_128 : decode cX11_debts 128 = .ok (.lcmp, 1) := by decide +kernel
theorem dX11_debts_129 : decode cX11_debts 129 = .ok (.ifCond .ne 7, 3) := by decide +kernel
theorem dX11_debts_132 : decode cX11_debts 132 = .ok (.lconst 1, 1) := by decide +kernel
theorem dX11_debts_133 : decode cX11_debts 133 = .ok (.goto 12, 3) := by decide +kernel
theorem dX11_debts_136 : decode cX11_debts 136 = .ok (.aload_n 0, 1) := by decide +kernel
theorem dX11_debts_137 : decode cX11_debts 137 = .ok (.getfield 64, 3) := by decide +kernel
theorem dX11_debts_140 : decode cX11_debts 140 = .ok (.iload_n 1, 1) := by decide +kernel
theorem dX11_debts_141 : decode cX11_debts 141 = .ok (.bipush 10, 2) := by decide +kernel
theorem dX11_debts_143 : decode cX11_debts 143 = .ok (.irem, 1) := by decide +kernel
theorem dX11_debts_144 : decode cX11_debts 144 = .ok (.laload, 1) := by decide +kernel
theorem dX11_debts_145 : decode cX11_debts 145 = .ok (.iload_n 2, 1) := by decide +kernel
theorem dX11_debts_146 : decode cX11_debts 146 = .ok (.invokestatic 298, 3) := by decide +kernel
theorem dX11_debts_149 : decode cX11_debts 149 = .ok (.lreturn, 1) := by decide +kernel
theorem dX11_asksBest_0 : decode cX11_asksBest 0 = .ok (.iconst 0, 1) := by decide +kernel
theorem dX11_asksBest_1 : decode cX11_asksBest 1 = .ok (.istore_n 1, 1) := by decide +kernel
theorem dX11_asksBest_2 : decode cX11_asksBest 2 = .ok (.iload_n 1, 1) := by decide +kernel
theorem dX11_asksBest_3 : decode cX11_asksBest 3 = .ok (.aload_n 0, 1) := by decide +kernel
theorem dX11_asksBest_4 : decode cX11_asksBest 4 = .ok (.getfield 131, 3) := by decide +kernel
theorem dX11_asksBest_7 : decode cX11_asksBest 7 = .ok (.if_icmp .ge 84, 3) := by decide +kernel
theorem dX11_asksBest_10 : decode cX11_asksBest 10 = .ok (.aload_n 0, 1) := by decide +kernel
theorem dX11_asksBest_11 : decode cX11_asksBest 11 = .ok (.getfield 9, 3) := by decide +kernel
theorem dX11_asksBest_14 : decode cX11_asksBest 14 = .ok (.bipush 10, 2) := by decide +kernel
theorem dX11_asksBest_16 : decode cX11_asksBest 16 = .ok (.aload_n 0, 1) := by decide +kernel
theorem dX11_asksBest_17 : decode cX11_asksBest 17 = .ok (.getfield 31, 3) := by decide +kernel
theorem dX11_asksBest_20 : decode cX11_asksBest 20 = .ok (.iload_n 1, 1) := by decide +kernel
theorem dX11_asksBest_21 : decode cX11_asksBest 21 = .ok (.iaload, 1) := by decide +kernel
theorem dX11_asksBest_22 : decode cX11_asksBest 22 = .ok (.iadd, 1) := by decide +kernel
theorem dX11_asksBest_23 : decode cX11_asksBest 23 = .ok (.iaload, 1) := by decide +kernel
theorem dX11_asksBest_24 : decode cX11_asksBest 24 = .ok (.iconst 4, 1) := by decide +kernel
theorem dX11_asksBest_25 : decode cX11_asksBest 25 = .ok (.if_icmp .eq 6, 3) := by decide +kernel
theorem dX11_asksBest_28 : decode cX11_asksBest 28 = .ok (.goto 57, 3) := by decide +kernel
theorem dX11_asksBest_31 : decode cX11_asksBest 31 = .ok (.aload_n 0, 1) := by decide +kernel
theorem dX11_asksBest_32 : decode cX11_asksBest 32 = .ok (.iload_n 1, 1) := by decide +kernel
theorem dX11_asksBest_33 : decode cX11_asksBest 33 = .ok (.aload_n 0, 1) := by decide +kernel
theorem dX11_asksBest_34 : decode cX11_asksBest 34 = .ok (.getfield 31, 3) := by decide +kernel
theorem dX11_asksBest_37 : decode cX11_asksBest 37 = .ok (.iload_n 1, 1) := by decide +kernel
theorem dX11_asksBest_38 : decode cX11_asksBest 38 = .ok (.iaload, 1) := by decide +kernel
theorem dX11_asksBest_39 : decode cX11_asksBest 39 = .ok (.iconst 4, 1) := by decide +kernel
theorem dX11_asksBest_40 : decode cX11_asksBest 40 = .ok (.invokevirtual 278, 3) := by decide +kernel
theorem dX11_asksBest_43 : decode cX11_asksBest 43 = .ok (.aload_n 0, 1) := by decide +kernel
theorem dX11_asksBest_44 : decode cX11_asksBest 44 = .ok (.iconst 4, 1) := by decide +kernel
theorem dX11_asksBest_45 : decode cX11_asksBest 45 = .ok (.invokevirtual 281, 3) := by decide +kernel
theorem dX11_asksBest_48 : decode cX11_asksBest 48 = .ok (.iconst 0, 1) := by decide +kernel
theorem dX11_asksBest_49 : decode cX11_asksBest 49 = .ok (.istore_n 2, 1) := by decide +kernel
theorem dX11_asksBest_50 : decode cX11_asksBest 50 = .ok (.iload_n 2, 1) := by decide +kernel
theorem dX11_asksBest_51 : decode cX11_asksBest 51 = .ok (.sipush 1200, 3) := by decide +kernel
theorem dX11_asksBest_54 : decode cX11_asksBest 54 = .ok (.if_icmp .ge 31, 3) := by decide +kernel
theorem dX11_asksBest_57 : decode cX11_asksBest 57 = .ok (.aload_n 0, 1) := by decide +kernel
theorem dX11_asksBest_58 : decode cX11_asksBest 58 = .ok (.getfield 81, 3) := by decide +kernel
theorem dX11_asksBest_61 : decode cX11_asksBest 61 = .ok (.sipush 1200, 3) := by decide +kernel
theorem dX11_asksBest_64 : decode cX11_asksBest 64 = .ok (.iload_n 1, 1) := by decide +kernel
theorem dX11_asksBest_65 : decode cX11_asksBest 65 = .ok (.imul, 1) := by decide +kernel
theorem dX11_asksBest_66 : decode cX11_asksBest 66 = .ok (.iload_n 2, 1) := by decide +kernel
theorem dX11_asksBest_67 : decode cX11_asksBest 67 = .ok (.iadd, 1) := by decide +kernel
theorem dX11_asksBest_68 : decode cX11_asksBest 68 = .ok (.aload_n 0, 1) := by decide +kernel
theorem dX11_asksBest_69 : decode cX11_asksBest 69 = .ok (.getfield 74, 3) := by decide +kernel
theorem dX11_asksBest_72 : decode cX11_asksBest 72 = .ok (.sipush 4800, 3) := by decide +kernel
theorem dX11_asksBest_75 : decode cX11_asksBest 75 = .ok (.iload_n 2, 1) := by decide +kernel
theorem dX11_asksBest_76 : decode cX11_asksBest 76 = .ok (.iadd, 1) := by decide +kernel
theorem dX11_asksBest_77 : decode cX11_asksBest 77 = .ok (.baload, 1) := by decide +kernel
theorem dX11_asksBest_78 : decode cX11_asksBest 78 = .ok (.bastore, 1) := by decide +kernel
theorem dX11_asksBest_79 : decode cX11_asksBest 79 = .ok (.iinc 2 1, 3) := by decide +kernel
theorem dX11_asksBest_82 : decode cX11_asksBest 82 = .ok (.goto (-32), 3) := by decide +kernel
theorem dX11_asksBest_85 : decode cX11_asksBest 85 = .ok (.iinc 1 1, 3) := by decide +kernel
theorem dX11_asksBest_88 : decode cX11_asksBest 88 = .ok (.goto (-86), 3) := by decide +kernel
theorem dX11_asksBest_91 : decode cX11_asksBest 91 = .ok (.return_, 1) := by decide +kernel
theorem dX11_mendsNow_0 : decode cX11_mendsNow 0 = .ok (.aload_n 0, 1) := by decide +kernel
theorem dX11_mendsNow_1 : decode cX11_mendsNow 1 = .ok (.getfield 9, 3) := by decide +kernel
theorem dX11_mendsNow_4 : decode cX11_mendsNow 4 = .ok (.bipush 10, 2) := by decide +kernel
theorem dX11_mendsNow_6 : decode cX11_mendsNow 6 = .ok (.aload_n 0, 1) := by decide +kernel
theorem dX11_mendsNow_7 : decode cX11_mendsNow 7 = .ok (.getfield 31, 3) := by decide +kernel
theorem dX11_mendsNow_10 : decode cX11_mendsNow 10 = .ok (.iload_n 1, 1) := by decide +kernel
theorem dX11_mendsNow_11 : decode cX11_mendsNow 11 = .ok (.iaload, 1) := by decide +kernel
theorem dX11_mendsNow_12 : decode cX11_mendsNow 12 = .ok (.iadd, 1) := by decide +kernel
theorem dX11_mendsNow_13 : decode cX11_mendsNow 13 = .ok (.iaload, 1) := by decide +kernel
theorem dX11_mendsNow_14 : decode cX11_mendsNow 14 = .ok (.istore_n 2, 1) := by decide +kernel
theorem dX11_mendsNow_15 : decode cX11_mendsNow 15 = .ok (.iload_n 2, 1) := by decide +kernel
theorem dX11_mendsNow_16 : decode cX11_mendsNow 16 = .ok (.iconst 4, 1) := by decide +kernel
theorem dX11_mendsNow_17 : decode cX11_mendsNow 17 = .ok (.if_icmp .eq 19, 3) := by decide +kernel
theorem dX11_mendsNow_20 : decode cX11_mendsNow 20 = .ok (.aload_n 0, 1) := by decide +kernel
theorem dX11_mendsNow_21 : decode cX11_mendsNow 21 = .ok (.getfield 34, 3) := by decide +kernel
theorem dX11_mendsNow_24 : decode cX11_mendsNow 24 = .ok (.iload_n 1, 1) := by decide +kernel
theorem dX11_mendsNow_25 : decode cX11_mendsNow 25 = .ok (.iaload, 1) := by decide +kernel
theorem dX11_mendsNow_26 : decode cX11_mendsNow 26 = .ok (.iload_n 2, 1) := by decide +kernel
theorem dX11_mendsNow_27 : decode cX11_mendsNow 27 = .ok (.if_icmp .gt 7, 3) := by decide +kernel
theorem dX11_mendsNow_30 : decode cX11_mendsNow 30 = .ok (.iconst 1, 1) := by decide +kernel
theorem dX11_mendsNow_31 : decode cX11_mendsNow 31 = .ok (.goto 4, 3) := by decide +kernel
theorem dX11_mendsNow_34 : decode cX11_mendsNow 34 = .ok (.iconst 0, 1) := by decide +kernel
theorem dX11_mendsNow_35 : decode cX11_mendsNow 35 = .ok (.ireturn, 1) := by decide +kernel
theorem dX11_mendsNow_36 : decode cX11_mendsNow 36 = .ok (.aload_n 0, 1) := by decide +kernel
theorem dX11_mendsNow_37 : decode cX11_mendsNow 37 = .ok (.getfield 81, 3) := by decide +kernel
theorem dX11_mendsNow_40 : decode cX11_mendsNow 40 = .ok (.sipush 1200, 3) := by decide +kernel
theorem dX11_mendsNow_43 : decode cX11_mendsNow 43 = .ok (.iload_n 1, 1) := by decide +kernel
theorem dX11_mendsNow_44 : decode cX11_mendsNow 44 = .ok (.imul, 1) := by decide +kernel
theorem dX11_mendsNow_45 : decode cX11_mendsNow 45 = .ok (.iconst 0, 1) := by decide +kernel
theorem dX11_mendsNow_46 : decode cX11_mendsNow 46 = .ok (.aload_n 0, 1) := by decide +kernel
theorem dX11_mendsNow_47 : decode cX11_mendsNow 47 = .ok (.getfield 34, 3) := by decide +kernel
theorem dX11_mendsNow_50 : decode cX11_mendsNow 50 = .ok (.iload_n 1, 1) := by decide +kernel
theorem dX11_mendsNow_51 : decode cX11_mendsNow 51 = .ok (.iaload, 1) := by decide +kernel
theorem dX11_mendsNow_52 : decode cX11_mendsNow 52 = .ok (.aload_n 0, 1) := by decide +kernel
theorem dX11_mendsNow_53 : decode cX11_mendsNow 53 = .ok (.iload_n 1, 1) := by decide +kernel
theorem dX11_mendsNow_54 : decode cX11_mendsNow 54 = .ok (.aload_n 0, 1) := by decide +kernel
theorem dX11_mendsNow_55 : decode cX11_mendsNow 55 = .ok (.getfield 31, 3) := by decide +kernel
theorem dX11_mendsNow_58 : decode cX11_mendsNow 58 = .ok (.iload_n 1, 1) := by decide +kernel
theorem dX11_mendsNow_59 : decode cX11_mendsNow 59 = .ok (.iaload, 1) := by decide +kernel
theorem dX11_mendsNow_60 : decode cX11_mendsNow 60 = .ok (.invokevirtual 285, 3) := by decide +kernel
theorem dX11_mendsNow_63 : decode cX11_mendsNow 63 = .ok (.aload_n 0, 1) := by decide +kernel
theorem dX11_mendsNow_64 : decode cX11_mendsNow 64 = .ok (.getfield 43, 3) := by decide +kernel
theorem dX11_mendsNow_67 : decode cX11_mendsNow 67 = .ok (.iload_n 1, 1) := by decide +kernel
theorem dX11_mendsNow_68 : decode cX11_mendsNow 68 = .ok (.iaload, 1) := by decide +kernel
theorem dX11_mendsNow_69 : decode cX11_mendsNow 69 = .ok (.invokestatic 264, 3) := by decide +kernel
theorem dX11_mendsNow_72 : decode cX11_mendsNow 72 = .ok (.iadd, 1) := by decide +kernel
theorem dX11_mendsNow_73 : decode cX11_mendsNow 73 = .ok (.baload, 1) := by decide +kernel
theorem dX11_mendsNow_74 : decode cX11_mendsNow 74 = .ok (.ireturn, 1) := by decide +kernel
theorem dX11_mended_0 : decode cX11_mended 0 = .ok (.aload_n 0, 1) := by decide +kernel
theorem dX11_mended_1 : decode cX11_mended 1 = .ok (.getfield 34, 3) := by decide +kernel
theorem dX11_mended_4 : decode cX11_mended 4 = .ok (.iload_n 1, 1) := by decide +kernel
theorem dX11_mended_5 : decode cX11_mended 5 = .ok (.aload_n 0, 1) := by decide +kernel
theorem dX11_mended_6 : decode cX11_mended 6 = .ok (.getfield 9, 3) := by decide +kernel
theorem dX11_mended_9 : decode cX11_mended 9 = .ok (.iload_n 2, 1) := by decide +kernel
theorem dX11_mended_10 : decode cX11_mended 10 = .ok (.iaload, 1) := by decide +kernel
theorem dX11_mended_11 : decode cX11_mended 11 = .ok (.aload_n 0, 1) := by decide +kernel
theorem dX11_mended_12 : decode cX11_mended 12 = .ok (.getfield 34, 3) := by decide +kernel
theorem dX11_mended_15 : decode cX11_mended 15 = .ok (.iload_n 1, 1) := by decide +kernel
theorem dX11_mended_16 : decode cX11_mended 16 = .ok (.iaload, 1) := by decide +kernel
theorem dX11_mended_17 : decode cX11_mended 17 = .ok (.if_icmp .le 12, 3) := by decide +kernel
theorem dX11_mended_20 : decode cX11_mended 20 = .ok (.aload_n 0, 1) := by decide +kernel
theorem dX11_mended_21 : decode cX11_mended 21 = .ok (.getfield 9, 3) := by decide +kernel
theorem dX11_mended_24 : decode cX11_mended 24 = .ok (.iload_n 2, 1) := by decide +kernel
theorem dX11_mended_25 : decode cX11_mended 25 = .ok (.iaload, 1) := by decide +kernel
theorem dX11_mended_26 : decode cX11_mended 26 = .ok (.goto 9, 3) := by decide +kernel
theorem dX11_mended_29 : decode cX11_mended 29 = .ok (.aload_n 0, 1) := by decide +kernel
theorem dX11_mended_30 : decode cX11_mended 30 = .ok (.getfield 34, 3) := by decide +kernel
theorem dX11_mended_33 : decode cX11_mended 33 = .ok (.iload_n 1, 1) := by decide +kernel
theorem dX11_mended_34 : decode cX11_mended 34 = .ok (.iaload, 1) := by decide +kernel
theorem dX11_mended_35 : decode cX11_mended 35 = .ok (.iastore, 1) := by decide +kernel
theorem dX11_mended_36 : decode cX11_mended 36 = .ok (.aload_n 0, 1) := by decide +kernel
theorem dX11_mended_37 : decode cX11_mended 37 = .ok (.getfield 40, 3) := by decide +kernel
theorem dX11_mended_40 : decode cX11_mended 40 = .ok (.iload_n 1, 1) := by decide +kernel
theorem dX11_mended_41 : decode cX11_mended 41 = .ok (.aload_n 0, 1) := by decide +kernel
theorem dX11_mended_42 : decode cX11_mended 42 = .ok (.getfield 37, 3) := by decide +kernel
theorem dX11_mended_45 : decode cX11_mended 45 = .ok (.iload_n 1, 1) := by decide +kernel
theorem dX11_mended_46 : decode cX11_mended 46 = .ok (.iaload, 1) := by decide +kernel
theorem dX11_mended_47 : decode cX11_mended 47 = .ok (.iastore, 1) := by decide +kernel
theorem dX11_mended_48 : decode cX11_mended 48 = .ok (.aload_n 0, 1) := by decide +kernel
theorem dX11_mended_49 : decode cX11_mended 49 = .ok (.getfield 37, 3) := by decide +kernel
theorem dX11_mended_52 : decode cX11_mended 52 = .ok (.iload_n 1, 1) := by decide +kernel
theorem dX11_mended_53 : decode cX11_mended 53 = .ok (.iload_n 2, 1) := by decide +kernel
theorem dX11_mended_54 : decode cX11_mended 54 = .ok (.iastore, 1) := by decide +kernel
theorem dX11_mended_55 : decode cX11_mended 55 = .ok (.aload_n 0, 1) := by decide +kernel
theorem dX11_mended_56 : decode cX11_mended 56 = .ok (.getfield 43, 3) := by decide +kernel
theorem dX11_mended_59 : decode cX11_mended 59 = .ok (.iload_n 1, 1) := by decide +kernel
theorem dX11_mended_60 : decode cX11_mended 60 = .ok (.iconst 0, 1) := by decide +kernel
theorem dX11_mended_61 : decode cX11_mended 61 = .ok (.iastore, 1) := by decide +kernel
theorem dX11_mended_62 : decode cX11_mended 62 = .ok (.aload_n 0, 1) := by decide +kernel
theorem dX11_mended_63 : decode cX11_mended 63 = .ok (.getfield 22, 3) := by decide +kernel
theorem dX11_mended_66 : decode cX11_mended 66 = .ok (.iload_n 2, 1) := by decide +kernel
theorem dX11_mended_67 : decode cX11_mended 67 = .ok (.dup2, 1) := by decide +kernel
theorem dX11_mended_68 : decode cX11_mended 68 = .ok (.iaload, 1) := by decide +kernel
theorem dX11_mended_69 : decode cX11_mended 69 = .ok (.aload_n 0, 1) := by decide +kernel
theorem dX11_mended_70 : decode cX11_mended 70 = .ok (.getfield 9, 3) := by decide +kernel
theorem dX11_mended_73 : decode cX11_mended 73 = .ok (.iconst 5, 1) := by decide +kernel
theorem dX11_mended_74 : decode cX11_mended 74 = .ok (.iload_n 2, 1) := by decide +kernel
theorem dX11_mended_75 : decode cX11_mended 75 = .ok (.iadd, 1) := by decide +kernel
theorem dX11_mended_76 : decode cX11_mended 76 = .ok (.iaload, 1) := by decide +kernel
theorem dX11_mended_77 : decode cX11_mended 77 = .ok (.isub, 1) := by decide +kernel
theorem dX11_mended_78 : decode cX11_mended 78 = .ok (.iastore, 1) := by decide +kernel
theorem dX11_mended_79 : decode cX11_mended 79 = .ok (.aload_n 0, 1) := by decide +kernel
theorem dX11_mended_80 : decode cX11_mended 80 = .ok (.getfield 28, 3) := by decide +kernel
theorem dX11_mended_83 : decode cX11_mended 83 = .ok (.iload_n 2, 1) := by decide +kernel
theorem dX11_mended_84 : decode cX11_mended 84 = .ok (.dup2, 1) := by decide +kernel
theorem dX11_mended_85 : decode cX11_mended 85 = .ok (.iaload, 1) := by decide +kernel
theorem dX11_mended_86 : decode cX11_mended 86 = .ok (.aload_n 0, 1) := by decide +kernel
theorem dX11_mended_87 : decode cX11_mended 87 = .ok (.getfield 9, 3) := by decide +kernel
theorem dX11_mended_90 : decode cX11_mended 90 = .ok (.iconst 5, 1) := by decide +kernel
theorem dX11_mended_91 : decode cX11_mended 91 = .ok (.iload_n 2, 1) := by decide +kernel
theorem dX11_mended_92 : decode cX11_mended 92 = .ok (.iadd, 1) := by decide +kernel
theorem dX11_mended_93 : decode cX11_mended 93 = .ok (.iaload, 1) := by decide +kernel
theorem dX11_mended_94 : decode cX11_mended 94 = .ok (.iadd, 1) := by decide +kernel
theorem dX11_mended_95 : decode cX11_mended 95 = .ok (.iastore, 1) := by decide +kernel
theorem dX11_mended_96 : decode cX11_mended 96 = .ok (.aload_n 0, 1) := by decide +kernel
theorem dX11_mended_97 : decode cX11_mended 97 = .ok (.getfield 49, 3) := by decide +kernel
theorem dX11_mended_100 : decode cX11_mended 100 = .ok (.iload_n 1, 1) := by decide +kernel
theorem dX11_mended_101 : decode cX11_mended 101 = .ok (.iaload, 1) := by decide +kernel
theorem dX11_mended_102 : decode cX11_mended 102 = .ok (.bipush 8, 2) := by decide +kernel
theorem dX11_mended_104 : decode cX11_mended 104 = .ok (.if_icmp .ne 51, 3) := by decide +kernel
theorem dX11_mended_107 : decode cX11_mended 107 = .ok (.iconst 1, 1) := by decide +kernel
theorem dX11_mended_108 : decode cX11_mended 108 = .ok (.istore_n 3, 1) := by decide +kernel
theorem dX11_mended_109 : decode cX11_mended 109 = .ok (.iload_n 3, 1) := by decide +kernel
theorem dX11_mended_110 : decode cX11_mended 110 = .ok (.bipush 8, 2) := by decide +kernel
theorem dX11_mended_112 : decode cX11_mended 112 = .ok (.if_icmp .ge 33, 3) := by decide +kernel
theorem dX11_mended_115 : decode cX11_mended 115 = .ok (.aload_n 0, 1) := by decide +kernel
theorem dX11_mended_116 : decode cX11_mended 116 = .ok (.getfield 46, 3) := by decide +kernel
theorem dX11_mended_119 : decode cX11_mended 119 = .ok (.bipush 8, 2) := by decide +kernel
theorem dX11_mended_121 : decode cX11_mended 121 = .ok (.iload_n 1, 1) := by decide +kernel
theorem dX11_mended_122 : decode cX11_mended 122 = .ok (.imul, 1) := by decide +kernel
theorem dX11_mended_123 : decode cX11_mended 123 = .ok (.iload_n 3, 1) := by decide +kernel
theorem dX11_mended_124 : decode cX11_mended 124 = .ok (.iadd, 1) := by decide +kernel
theorem dX11_mended_125 : decode cX11_mended 125 = .ok (.iconst 1, 1) := by decide +kernel
theorem dX11_mended_126 : decode cX11_mended 126 = .ok (.isub, 1) := by decide +kernel
theorem dX11_mended_127 : decode cX11_mended 127 = .ok (.aload_n 0, 1) := by decide +kernel
theorem dX11_mended_128 : decode cX11_mended 128 = .ok (.getfield 46, 3) := by decide +kernel
theorem dX11_mended_131 : decode cX11_mended 131 = .ok (.bipush 8, 2) := by decide +kernel
theorem dX11_mended_133 : decode cX11_mended 133 = .ok (.iload_n 1, 1) := by decide +kernel
theorem dX11_mended_134 : decode cX11_mended 134 = .ok (.imul, 1) := by decide +kernel
theorem dX11_mended_135 : decode cX11_mended 135 = .ok (.iload_n 3, 1) := by decide +kernel
theorem dX11_mended_136 : decode cX11_mended 136 = .ok (.iadd, 1) := by decide +kernel
theorem dX11_mended_137 : decode cX11_mended 137 = .ok (.iaload, 1) := by decide +kernel
theorem dX11_mended_138 : decode cX11_mended 138 = .ok (.iastore, 1) := by decide +kernel
theorem dX11_mended_139 : decode cX11_mended 139 = .ok (.iinc 3 1, 3) := by decide +kernel
theorem dX11_mended_142 : decode cX11_mended 142 = .ok (.goto (-33), 3) := by decide +kernel
theorem dX11_mended_145 : decode cX11_mended 145 = .ok (.aload_n 0, 1) := by decide +kernel
theorem dX11_mended_146 : decode cX11_mended 146 = .ok (.getfield 49, 3) := by decide +kernel
theorem dX11_mended_149 : decode cX11_mended 149 = .ok (.iload_n 1, 1) := by decide +kernel
theorem dX11_mended_150 : decode cX11_mended 150 = .ok (.dup2, 1) := by decide +kernel
theorem dX11_mended_151 : decode cX11_mended 151 = .ok (.iaload, 1) := by decide +kernel
theorem dX11_mended_152 : decode cX11_mended 152 = .ok (.iconst 1, 1) := by decide +kernel
theorem dX11_mended_153 : decode cX11_mended 153 = .ok (.isub, 1) := by decide +kernel
theorem dX11_mended_154 : decode cX11_mended 154 = .ok (.iastore, 1) := by decide +kernel
theorem dX11_mended_155 : decode cX11_mended 155 = .ok (.aload_n 0, 1) := by decide +kernel
theorem dX11_mended_156 : decode cX11_mended 156 = .ok (.getfield 46, 3) := by decide +kernel
theorem dX11_mended_159 : decode cX11_mended 159 = .ok (.bipush 8, 2) := by decide +kernel
theorem dX11_mended_161 : decode cX11_mended 161 = .ok (.iload_n 1, 1) := by decide +kernel
theorem dX11_mended_162 : decode cX11_mended 162 = .ok (.imul, 1) := by decide +kernel
theorem dX11_mended_163 : decode cX11_mended 163 = .ok (.aload_n 0, 1) := by decide +kernel
theorem dX11_mended_164 : decode cX11_mended 164 = .ok (.getfield 49, 3) := by decide +kernel
theorem dX11_mended_167 : decode cX11_mended 167 = .ok (.iload_n 1, 1) := by decide +kernel
theorem dX11_mended_168 : decode cX11_mended 168 = .ok (.iaload, 1) := by decide +kernel
theorem dX11_mended_169 : decode cX11_mended 169 = .ok (.iadd, 1) := by decide +kernel
theorem dX11_mended_170 : decode cX11_mended 170 = .ok (.iload_n 2, 1) := by decide +kernel
theorem dX11_mended_171 : decode cX11_mended 171 = .ok (.iastore, 1) := by decide +kernel
theorem dX11_mended_172 : decode cX11_mended 172 = .ok (.aload_n 0, 1) := by decide +kernel
theorem dX11_mended_173 : decode cX11_mended 173 = .ok (.getfield 49, 3) := by decide +kernel
theorem dX11_mended_176 : decode cX11_mended 176 = .ok (.iload_n 1, 1) := by decide +kernel
theorem dX11_mended_177 : decode cX11_mended 177 = .ok (.dup2, 1) := by decide +kernel
theorem dX11_mended_178 : decode cX11_mended 178 = .ok (.iaload, 1) := by decide +kernel
theorem dX11_mended_179 : decode cX11_mended 179 = .ok (.iconst 1, 1) := by decide +kernel
theorem dX11_mended_180 : decode cX11_mended 180 = .ok (.iadd, 1) := by decide +kernel
theorem dX11_mended_181 : decode cX11_mended 181 = .ok (.iastore, 1) := by decide +kernel
theorem dX11_mended_182 : decode cX11_mended 182 = .ok (.return_, 1) := by decide +kernel
theorem dX11_pays_0 : decode cX11_pays 0 = .ok (.aload_n 0, 1) := by decide +kernel
theorem dX11_pays_1 : decode cX11_pays 1 = .ok (.getfield 22, 3) := by decide +kernel
theorem dX11_pays_4 : decode cX11_pays 4 = .ok (.iload_n 1, 1) := by decide +kernel
theorem dX11_pays_5 : decode cX11_pays 5 = .ok (.dup2, 1) := by decide +kernel
theorem dX11_pays_6 : decode cX11_pays 6 = .ok (.iaload, 1) := by decide +kernel
theorem dX11_pays_7 : decode cX11_pays 7 = .ok (.iload_n 2, 1) := by decide +kernel
theorem dX11_pays_8 : decode cX11_pays 8 = .ok (.isub, 1) := by decide +kernel
theorem dX11_pays_9 : decode cX11_pays 9 = .ok (.iastore, 1) := by decide +kernel
theorem dX11_pays_10 : decode cX11_pays 10 = .ok (.aload_n 0, 1) := by decide +kernel
theorem dX11_pays_11 : decode cX11_pays 11 = .ok (.getfield 25, 3) := by decide +kernel
theorem dX11_pays_14 : decode cX11_pays 14 = .ok (.iload_n 1, 1) := by decide +kernel
theorem dX11_pays_15 : decode cX11_pays 15 = .ok (.dup2, 1) := by decide +kernel
theorem dX11_pays_16 : decode cX11_pays 16 = .ok (.iaload, 1) := by decide +kernel
theorem dX11_pays_17 : decode cX11_pays 17 = .ok (.iload_n 2, 1) := by decide +kernel
theorem dX11_pays_18 : decode cX11_pays 18 = .ok (.iadd, 1) := by decide +kernel
theorem dX11_pays_19 : decode cX11_pays 19 = .ok (.iastore, 1) := by decide +kernel
theorem dX11_pays_20 : decode cX11_pays 20 = .ok (.return_, 1) := by decide +kernel
theorem dX11_breaks_0 : decode cX11_breaks 0 = .ok (.aload_n 0, 1) := by decide +kernel
theorem dX11_breaks_1 : decode cX11_breaks 1 = .ok (.getfield 9, 3) := by decide +kernel
theorem dX11_breaks_4 : decode cX11_breaks 4 = .ok (.bipush 27, 2) := by decide +kernel
theorem dX11_breaks_6 : decode cX11_breaks 6 = .ok (.iload_n 1, 1) := by decide +kernel
theorem dX11_breaks_7 : decode cX11_breaks 7 = .ok (.iadd, 1) := by decide +kernel
theorem dX11_breaks_8 : decode cX11_breaks 8 = .ok (.iaload, 1) := by decide +kernel
theorem dX11_breaks_9 : decode cX11_breaks 9 = .ok (.istore_n 2, 1) := by decide +kernel
theorem dX11_breaks_10 : decode cX11_breaks 10 = .ok (.iload_n 2, 1) := by decide +kernel
theorem dX11_breaks_11 : decode cX11_breaks 11 = .ok (.aload_n 0, 1) := by decide +kernel
theorem dX11_breaks_12 : decode cX11_breaks 12 = .ok (.getfield 131, 3) := by decide +kernel
theorem dX11_breaks_15 : decode cX11_breaks 15 = .ok (.if_icmp .ge 28, 3) := by decide +kernel
theorem dX11_breaks_18 : decode cX11_breaks 18 = .ok (.iload_n 2, 1) := by decide +kernel
theorem dX11_breaks_19 : decode cX11_breaks 19 = .ok (.iload_n 1, 1) := by decide +kernel
theorem dX11_breaks_20 : decode cX11_breaks 20 = .ok (.if_icmp .eq 23, 3) := by decide +kernel
theorem dX11_breaks_23 : decode cX11_breaks 23 = .ok (.aload_n 0, 1) := by decide +kernel
theorem dX11_breaks_24 : decode cX11_breaks 24 = .ok (.getfield 34, 3) := by decide +kernel
theorem dX11_breaks_27 : decode cX11_breaks 27 = .ok (.iload_n 2, 1) := by decide +kernel
theorem dX11_breaks_28 : decode cX11_breaks 28 = .ok (.iaload, 1) := by decide +kernel
theorem dX11_breaks_29 : decode cX11_breaks 29 = .ok (.iconst 1, 1) := by decide +kernel
theorem dX11_breaks_30 : decode cX11_breaks 30 = .ok (.if_icmp .le 13, 3) := by decide +kernel
theorem dX11_breaks_33 : decode cX11_breaks 33 = .ok (.aload_n 0, 1) := by decide +kernel
theorem dX11_breaks_34 : decode cX11_breaks 34 = .ok (.getfield 34, 3) := by decide +kernel
theorem dX11_breaks_37 : decode cX11_breaks 37 = .ok (.iload_n 2, 1) := by decide +kernel
theorem dX11_breaks_38 : decode cX11_breaks 38 = .ok (.dup2, 1) := by decide +kernel
theorem dX11_breaks_39 : decode cX11_breaks 39 = .ok (.iaload, 1) := by decide +kernel
theorem dX11_breaks_40 : decode cX11_breaks 40 = .ok (.iconst 1, 1) := by decide +kernel
theorem dX11_breaks_41 : decode cX11_breaks 41 = .ok (.isub, 1) := by decide +kernel
theorem dX11_breaks_42 : decode cX11_breaks 42 = .ok (.iastore, 1) := by decide +kernel
theorem dX11_breaks_43 : decode cX11_breaks 43 = .ok (.aload_n 0, 1) := by decide +kernel
theorem dX11_breaks_44 : decode cX11_breaks 44 = .ok (.getfield 9, 3) := by decide +kernel
theorem dX11_breaks_47 : decode cX11_breaks 47 = .ok (.bipush 21, 2) := by decide +kernel
theorem dX11_breaks_49 : decode cX11_breaks 49 = .ok (.iload_n 1, 1) := by decide +kernel
theorem dX11_breaks_50 : decode cX11_breaks 50 = .ok (.iadd, 1) := by decide +kernel
theorem dX11_breaks_51 : decode cX11_breaks 51 = .ok (.iaload, 1) := by decide +kernel
theorem dX11_breaks_52 : decode cX11_breaks 52 = .ok (.istore_n 3, 1) := by decide +kernel
theorem dX11_breaks_53 : decode cX11_breaks 53 = .ok (.aload_n 0, 1) := by decide +kernel
theorem dX11_breaks_54 : decode cX11_breaks 54 = .ok (.getfield 37, 3) := by decide +kernel
theorem dX11_breaks_57 : decode cX11_breaks 57 = .ok (.iload_n 1, 1) := by decide +kernel
theorem dX11_breaks_58 : decode cX11_breaks 58 = .ok (.iaload, 1) := by decide +kernel
theorem dX11_breaks_59 : decode cX11_breaks 59 = .ok (.ifCond .lt 20, 3) := by decide +kernel
theorem dX11_breaks_62 : decode cX11_breaks 62 = .ok (.aload_n 0, 1) := by decide +kernel
theorem dX11_breaks_63 : decode cX11_breaks 63 = .ok (.aload_n 0, 1) := by decide +kernel
theorem dX11_breaks_64 : decode cX11_breaks 64 = .ok (.getfield 43, 3) := by decide +kernel
theorem dX11_breaks_67 : decode cX11_breaks 67 = .ok (.iload_n 1, 1) := by decide +kernel
theorem dX11_breaks_68 : decode cX11_breaks 68 = .ok (.iaload, 1) := by decide +kernel
theorem dX11_breaks_69 : decode cX11_breaks 69 = .ok (.invokevirtual 267, 3) := by decide +kernel
theorem dX11_breaks_72 : decode cX11_breaks 72 = .ok (.ifCond .ne 7, 3) := by decide +kernel
theorem dX11_breaks_75 : decode cX11_breaks 75 = .ok (.iconst 1, 1) := by decide +kernel
theorem dX11_breaks_76 : decode cX11_breaks 76 = .ok (.goto 4, 3) := by decide +kernel
theorem dX11_breaks_79 : decode cX11_breaks 79 = .ok (.iconst 0, 1) := by decide +kernel
theorem dX11_breaks_80 : decode cX11_breaks 80 = .ok (.istore 4, 2) := by decide +kernel
theorem dX11_breaks_82 : decode cX11_breaks 82 = .ok (.iload 4, 2) := by decide +kernel
theorem dX11_breaks_84 : decode cX11_breaks 84 = .ok (.ifCond .eq 12, 3) := by decide +kernel
theorem dX11_breaks_87 : decode cX11_breaks 87 = .ok (.aload_n 0, 1) := by decide +kernel
theorem dX11_breaks_88 : decode cX11_breaks 88 = .ok (.getfield 37, 3) := by decide +kernel
theorem dX11_breaks_91 : decode cX11_breaks 91 = .ok (.iload_n 1, 1) := by decide +kernel
theorem dX11_breaks_92 : decode cX11_breaks 92 = .ok (.iaload, 1) := by decide +kernel
theorem dX11_breaks_93 : decode cX11_breaks 93 = .ok (.goto 9, 3) := by decide +kernel
theorem dX11_breaks_96 : decode cX11_breaks 96 = .ok (.aload_n 0, 1) := by decide +kernel
theorem dX11_breaks_97 : decode cX11_breaks 97 = .ok (.getfield 31, 3) := by decide +kernel
theorem dX11_breaks_100 : decode cX11_breaks 100 = .ok (.iload_n 1, 1) := by decide +kernel
theorem dX11_breaks_101 : decode cX11_breaks 101 = .ok (.iaload, 1) := by decide +kernel
theorem dX11_breaks_102 : decode cX11_breaks 102 = .ok (.istore 5, 2) := by decide +kernel
theorem dX11_breaks_104 : decode cX11_breaks 104 = .ok (.iload 4, 2) := by decide +kernel
theorem dX11_breaks_106 : decode cX11_breaks 106 = .ok (.ifCond .eq 26, 3) := by decide +kernel
theorem dX11_breaks_109 : decode cX11_breaks 109 = .ok (.aload_n 0, 1) := by decide +kernel
theorem dX11_breaks_110 : decode cX11_breaks 110 = .ok (.getfield 156, 3) := by decide +kernel
theorem dX11_breaks_113 : decode cX11_breaks 113 = .ok (.iconst 1, 1) := by decide +kernel
theorem dX11_breaks_114 : decode cX11_breaks 114 = .ok (.if_icmp .ne 18, 3) := by decide +kernel
theorem dX11_breaks_117 : decode cX11_breaks 117 = .ok (.aload_n 0, 1) := by decide +kernel
theorem dX11_breaks_118 : decode cX11_breaks 118 = .ok (.getfield 40, 3) := by decide +kernel
theorem dX11_breaks_121 : decode cX11_breaks 121 = .ok (.iload_n 1, 1) := by decide +kernel
theorem dX11_breaks_122 : decode cX11_breaks 122 = .ok (.iaload, 1) := by decide +kernel
theorem dX11_breaks_123 : decode cX11_breaks 123 = .ok (.ifCond .lt 9, 3) := by decide +kernel
theorem dX11_breaks_126 : decode cX11_breaks 126 = .ok (.iload_n 3, 1) := by decide +kernel
theorem dX11_breaks_127 : decode cX11_breaks 127 = .ok (.iconst 2, 1) := by decide +kernel
theorem dX11_breaks_128 : decode cX11_breaks 128 = .ok (.idiv, 1) := by decide +kernel
theorem dX11_breaks_129 : decode cX11_breaks 129 = .ok (.goto 4, 3) := by decide +kernel
theorem dX11_breaks_132 : decode cX11_breaks 132 = .ok (.iconst 0, 1) := by decide +kernel
theorem dX11_breaks_133 : decode cX11_breaks 133 = .ok (.istore 6, 2) := by decide +kernel
theorem dX11_breaks_135 : decode cX11_breaks 135 = .ok (.iload 6, 2) := by decide +kernel
theorem dX11_breaks_137 : decode cX11_breaks 137 = .ok (.ifCond .le 15, 3) := by decide +kernel
theorem dX11_breaks_140 : decode cX11_breaks 140 = .ok (.aload_n 0, 1) := by decide +kernel
theorem dX11_breaks_141 : decode cX11_breaks 141 = .ok (.aload_n 0, 1) := by decide +kernel
theorem dX11_breaks_142 : decode cX11_breaks 142 = .ok (.getfield 40, 3) := by decide +kernel
theorem dX11_breaks_145 : decode cX11_breaks 145 = .ok (.iload_n 1, 1) := by decide +kernel
theorem dX11_breaks_146 : decode cX11_breaks 146 = .ok (.iaload, 1) := by decide +kernel
theorem dX11_breaks_147 : decode cX11_breaks 147 = .ok (.iload 6, 2) := by decide +kernel
theorem dX11_breaks_149 : decode cX11_breaks 149 = .ok (.invokevirtual 310, 3) := by decide +kernel
theorem dX11_breaks_152 : decode cX11_breaks 152 = .ok (.aload_n 0, 1) := by decide +kernel
theorem dX11_breaks_153 : decode cX11_breaks 153 = .ok (.iload 5, 2) := by decide +kernel
theorem dX11_breaks_155 : decode cX11_breaks 155 = .ok (.iload_n 3, 1) := by decide +kernel
theorem dX11_breaks_156 : decode cX11_breaks 156 = .ok (.iload 6, 2) := by decide +kernel
theorem dX11_breaks_158 : decode cX11_breaks 158 = .ok (.isub, 1) := by decide +kernel
theorem dX11_breaks_159 : decode cX11_breaks 159 = .ok (.invokevirtual 310, 3) := by decide +kernel
theorem dX11_breaks_162 : decode cX11_breaks 162 = .ok (.aload_n 0, 1) := by decide +kernel
theorem dX11_breaks_163 : decode cX11_breaks 163 = .ok (.getfield 52, 3) := by decide +kernel
theorem dX11_breaks_166 : decode cX11_breaks 166 = .ok (.iload_n 1, 1) := by decide +kernel
theorem dX11_breaks_167 : decode cX11_breaks 167 = .ok (.iload 5, 2) := by decide +kernel
theorem dX11_breaks_169 : decode cX11_breaks 169 = .ok (.iastore, 1) := by decide +kernel
theorem dX11_breaks_170 : decode cX11_breaks 170 = .ok (.aload_n 0, 1) := by decide +kernel
theorem dX11_breaks_171 : decode cX11_breaks 171 = .ok (.getfield 34, 3) := by decide +kernel
theorem dX11_breaks_174 : decode cX11_breaks 174 = .ok (.iload_n 1, 1) := by decide +kernel
theorem dX11_breaks_175 : decode cX11_breaks 175 = .ok (.iconst 3, 1) := by decide +kernel
theorem dX11_breaks_176 : decode cX11_breaks 176 = .ok (.iastore, 1) := by decide +kernel
theorem dX11_breaks_177 : decode cX11_breaks 177 = .ok (.aload_n 0, 1) := by decide +kernel
theorem dX11_breaks_178 : decode cX11_breaks 178 = .ok (.getfield 37, 3) := by decide +kernel
theorem dX11_breaks_181 : decode cX11_breaks 181 = .ok (.iload_n 1, 1) := by decide +kernel
theorem dX11_breaks_182 : decode cX11_breaks 182 = .ok (.bipush (-2), 2) := by decide +kernel
theorem dX11_breaks_184 : decode cX11_breaks 184 = .ok (.iastore, 1) := by decide +kernel
theorem dX11_breaks_185 : decode cX11_breaks 185 = .ok (.aload_n 0, 1) := by decide +kernel
theorem dX11_breaks_186 : decode cX11_breaks 186 = .ok (.getfield 40, 3) := by decide +kernel
theorem dX11_breaks_189 : decode cX11_breaks 189 = .ok (.iload_n 1, 1) := by decide +kernel
theorem dX11_breaks_190 : decode cX11_breaks 190 = .ok (.bipush (-2), 2) := by decide +kernel
theorem dX11_breaks_192 : decode cX11_breaks 192 = .ok (.iastore, 1) := by decide +kernel
theorem dX11_breaks_193 : decode cX11_breaks 193 = .ok (.aload_n 0, 1) := by decide +kernel
theorem dX11_breaks_194 : decode cX11_breaks 194 = .ok (.getfield 43, 3) := by decide +kernel
theorem dX11_breaks_197 : decode cX11_breaks 197 = .ok (.iload_n 1, 1) := by decide +kernel
theorem dX11_breaks_198 : decode cX11_breaks 198 = .ok (.iconst 0, 1) := by decide +kernel
theorem dX11_breaks_199 : decode cX11_breaks 199 = .ok (.iastore, 1) := by decide +kernel
theorem dX11_breaks_200 : decode cX11_breaks 200 = .ok (.aload_n 0, 1) := by decide +kernel
theorem dX11_breaks_201 : decode cX11_breaks 201 = .ok (.dup, 1) := by decide +kernel
theorem dX11_breaks_202 : decode cX11_breaks 202 = .ok (.getfield 314, 3) := by decide +kernel
theorem dX11_breaks_205 : decode cX11_breaks 205 = .ok (.iconst 1, 1) := by decide +kernel
theorem dX11_breaks_206 : decode cX11_breaks 206 = .ok (.iadd, 1) := by decide +kernel
theorem dX11_breaks_207 : decode cX11_breaks 207 = .ok (.putfield 314, 3) := by decide +kernel
theorem dX11_breaks_210 : decode cX11_breaks 210 = .ok (.return_, 1) := by decide +kernel
theorem dX11_goesYear_0 : decode cX11_goesYear 0 = .ok (.iconst 0, 1) := by decide +kernel
theorem dX11_goesYear_1 : decode cX11_goesYear 1 = .ok (.istore_n 1, 1) := by decide +kernel
theorem dX11_goesYear_2 : decode cX11_goesYear 2 = .ok (.iload_n 1, 1) := by decide +kernel
theorem dX11_goesYear_3 : decode cX11_goesYear 3 = .ok (.aload_n 0, 1) := by decide +kernel
theorem dX11_goesYear_4 : decode cX11_goesYear 4 = .ok (.getfield 131, 3) := by decide +kernel
theorem dX11_goesYear_7 : decode cX11_goesYear 7 = .ok (.if_icmp .ge 28, 3) := by decide +kernel
theorem dX11_goesYear_10 : decode cX11_goesYear 10 = .ok (.aload_n 0, 1) := by decide +kernel
theorem dX11_goesYear_11 : decode cX11_goesYear 11 = .ok (.iload_n 1, 1) := by decide +kernel
theorem dX11_goesYear_12 : decode cX11_goesYear 12 = .ok (.invokevirtual 317, 3) := by decide +kernel
theorem dX11_goesYear_15 : decode cX11_goesYear 15 = .ok (.ifCond .eq 14, 3) := by decide +kernel
theorem dX11_goesYear_18 : decode cX11_goesYear 18 = .ok (.aload_n 0, 1) := by decide +kernel
theorem dX11_goesYear_19 : decode cX11_goesYear 19 = .ok (.iload_n 1, 1) := by decide +kernel
theorem dX11_goesYear_20 : decode cX11_goesYear 20 = .ok (.aload_n 0, 1) := by decide +kernel
theorem dX11_goesYear_21 : decode cX11_goesYear 21 = .ok (.getfield 31, 3) := by decide +kernel
theorem dX11_goesYear_24 : decode cX11_goesYear 24 = .ok (.iload_n 1, 1) := by decide +kernel
theorem dX11_goesYear_25 : decode cX11_goesYear 25 = .ok (.iaload, 1) := by decide +kernel
theorem dX11_goesYear_26 : decode cX11_goesYear 26 = .ok (.invokevirtual 320, 3) := by decide +kernel
theorem dX11_goesYear_29 : decode cX11_goesYear 29 = .ok (.iinc 1 1, 3) := by decide +kernel
theorem dX11_goesYear_32 : decode cX11_goesYear 32 = .ok (.goto (-30), 3) := by decide +kernel
theorem dX11_goesYear_35 : decode cX11_goesYear 35 = .ok (.iconst 0, 1) := by decide +kernel
theorem dX11_goesYear_36 : decode cX11_goesYear 36 = .ok (.istore_n 1, 1) := by decide +kernel
theorem dX11_goesYear_37 : decode cX11_goesYear 37 = .ok (.iload_n 1, 1) := by decide +kernel
theorem dX11_goesYear_38 : decode cX11_goesYear 38 = .ok (.aload_n 0, 1) := by decide +kernel
theorem dX11_goesYear_39 : decode cX11_goesYear 39 = .ok (.getfield 131, 3) := by decide +kernel
theorem dX11_goesYear_42 : decode cX11_goesYear 42 = .ok (.if_icmp .ge 85, 3) := by decide +kernel
theorem dX11_goesYear_45 : decode cX11_goesYear 45 = .ok (.aload_n 0, 1) := by decide +kernel
theorem dX11_goesYear_46 : decode cX11_goesYear 46 = .ok (.aload_n 0, 1) := by decide +kernel
theorem dX11_goesYear_47 : decode cX11_goesYear 47 = .ok (.getfield 323, 3) := by decide +kernel
theorem dX11_goesYear_50 : decode cX11_goesYear 50 = .ok (.ldc_w 326, 3) := by decide +kernel
theorem dX11_goesYear_53 : decode cX11_goesYear 53 = .ok (.imul, 1) := by decide +kernel
theorem dX11_goesYear_54 : decode cX11_goesYear 54 = .ok (.sipush 12345, 3) := by decide +kernel
theorem dX11_goesYear_57 : decode cX11_goesYear 57 = .ok (.iadd, 1) := by decide +kernel
theorem dX11_goesYear_58 : decode cX11_goesYear 58 = .ok (.putfield 323, 3) := by decide +kernel
theorem dX11_goesYear_61 : decode cX11_goesYear 61 = .ok (.aload_n 0, 1) := by decide +kernel
theorem dX11_goesYear_62 : decode cX11_goesYear 62 = .ok (.aload_n 0, 1) := by decide +kernel
theorem dX11_goesYear_63 : decode cX11_goesYear 63 = .ok (.getfield 34, 3) := by decide +kernel
theorem dX11_goesYear_66 : decode cX11_goesYear 66 = .ok (.iload_n 1, 1) := by decide +kernel
theorem dX11_goesYear_67 : decode cX11_goesYear 67 = .ok (.iaload, 1) := by decide +kernel
theorem dX11_goesYear_68 : decode cX11_goesYear 68 = .ok (.iload_n 1, 1) := by decide +kernel
theorem dX11_goesYear_69 : decode cX11_goesYear 69 = .ok (.aload_n 0, 1) := by decide +kernel
theorem dX11_goesYear_70 : decode cX11_goesYear 70 = .ok (.getfield 43, 3) := by decide +kernel
theorem dX11_goesYear_73 : decode cX11_goesYear 73 = .ok (.iload_n 1, 1) := by decide +kernel
theorem dX11_goesYear_74 : decode cX11_goesYear 74 = .ok (.iaload, 1) := by decide +kernel
theorem dX11_goesYear_75 : decode cX11_goesYear 75 = .ok (.aload_n 0, 1) := by decide +kernel
theorem dX11_goesYear_76 : decode cX11_goesYear 76 = .ok (.getfield 37, 3) := by decide +kernel
theorem dX11_goesYear_79 : decode cX11_goesYear 79 = .ok (.iload_n 1, 1) := by decide +kernel
theorem dX11_goesYear_80 : decode cX11_goesYear 80 = .ok (.iaload, 1) := by decide +kernel
theorem dX11_goesYear_81 : decode cX11_goesYear 81 = .ok (.ifCond .lt 7, 3) := by decide +kernel
theorem dX11_goesYear_84 : decode cX11_goesYear 84 = .ok (.iconst 1, 1) := by decide +kernel
theorem dX11_goesYear_85 : decode cX11_goesYear 85 = .ok (.goto 4, 3) := by decide +kernel
theorem dX11_goesYear_88 : decode cX11_goesYear 88 = .ok (.iconst 0, 1) := by decide +kernel
theorem dX11_goesYear_89 : decode cX11_goesYear 89 = .ok (.invokevirtual 173, 3) := by decide +kernel
theorem dX11_goesYear_92 : decode cX11_goesYear 92 = .ok (.istore_n 2, 1) := by decide +kernel
theorem dX11_goesYear_93 : decode cX11_goesYear 93 = .ok (.aload_n 0, 1) := by decide +kernel
theorem dX11_goesYear_94 : decode cX11_goesYear 94 = .ok (.getfield 34, 3) := by decide +kernel
theorem dX11_goesYear_97 : decode cX11_goesYear 97 = .ok (.iload_n 1, 1) := by decide +kernel
theorem dX11_goesYear_98 : decode cX11_goesYear 98 = .ok (.dup2, 1) := by decide +kernel
theorem dX11_goesYear_99 : decode cX11_goesYear 99 = .ok (.iaload, 1) := by decide +kernel
theorem dX11_goesYear_100 : decode cX11_goesYear 100 = .ok (.aload_n 0, 1) := by decide +kernel
theorem dX11_goesYear_101 : decode cX11_goesYear 101 = .ok (.getfield 323, 3) := by decide +kernel
theorem dX11_goesYear_104 : decode cX11_goesYear 104 = .ok (.bipush 8, 2) := by decide +kernel
theorem dX11_goesYear_106 : decode cX11_goesYear 106 = .ok (.iushr, 1) := by decide +kernel
theorem dX11_goesYear_107 : decode cX11_goesYear 107 = .ok (.bipush 12, 2) := by decide +kernel
theorem dX11_goesYear_109 : decode cX11_goesYear 109 = .ok (.irem, 1) := by decide +kernel
theorem dX11_goesYear_110 : decode cX11_goesYear 110 = .ok (.iload_n 2, 1) := by decide +kernel
theorem dX11_goesYear_111 : decode cX11_goesYear 111 = .ok (.if_icmp .ge 7, 3) := by decide +kernel
theorem dX11_goesYear_114 : decode cX11_goesYear 114 = .ok (.iconst 1, 1) := by decide +kernel
theorem dX11_goesYear_115 : decode cX11_goesYear 115 = .ok (.goto 4, 3) := by decide +kernel
theorem dX11_goesYear_118 : decode cX11_goesYear 118 = .ok (.iconst 0, 1) := by decide +kernel
theorem dX11_goesYear_119 : decode cX11_goesYear 119 = .ok (.isub, 1) := by decide +kernel
theorem dX11_goesYear_120 : decode cX11_goesYear 120 = .ok (.iastore, 1) := by decide +kernel
theorem dX11_goesYear_121 : decode cX11_goesYear 121 = .ok (.iinc 1 1, 3) := by decide +kernel
theorem dX11_goesYear_124 : decode cX11_goesYear 124 = .ok (.goto (-87), 3) := by decide +kernel
theorem dX11_goesYear_127 : decode cX11_goesYear 127 = .ok (.iconst 0, 1) := by decide +kernel
theorem dX11_goesYear_128 : decode cX11_goesYear 128 = .ok (.istore_n 1, 1) := by decide +kernel
theorem dX11_goesYear_129 : decode cX11_goesYear 129 = .ok (.iload_n 1, 1) := by decide +kernel
theorem dX11_goesYear_130 : decode cX11_goesYear 130 = .ok (.aload_n 0, 1) := by decide +kernel
theorem dX11_goesYear_131 : decode cX11_goesYear 131 = .ok (.getfield 131, 3) := by decide +kernel
theorem dX11_goesYear_134 : decode cX11_goesYear 134 = .ok (.if_icmp .ge 82, 3) := by decide +kernel
theorem dX11_goesYear_137 : decode cX11_goesYear 137 = .ok (.aload_n 0, 1) := by decide +kernel
theorem dX11_goesYear_138 : decode cX11_goesYear 138 = .ok (.getfield 34, 3) := by decide +kernel
theorem dX11_goesYear_141 : decode cX11_goesYear 141 = .ok (.iload_n 1, 1) := by decide +kernel
theorem dX11_goesYear_142 : decode cX11_goesYear 142 = .ok (.iaload, 1) := by decide +kernel
theorem dX11_goesYear_143 : decode cX11_goesYear 143 = .ok (.ifCond .ne 11, 3) := by decide +kernel
theorem dX11_goesYear_146 : decode cX11_goesYear 146 = .ok (.aload_n 0, 1) := by decide +kernel
theorem dX11_goesYear_147 : decode cX11_goesYear 147 = .ok (.iload_n 1, 1) := by decide +kernel
theorem dX11_goesYear_148 : decode cX11_goesYear 148 = .ok (.invokevirtual 327, 3) := by decide +kernel
theorem dX11_goesYear_151 : decode cX11_goesYear 151 = .ok (.goto 59, 3) := by decide +kernel
theorem dX11_goesYear_154 : decode cX11_goesYear 154 = .ok (.aload_n 0, 1) := by decide +kernel
theorem dX11_goesYear_155 : decode cX11_goesYear 155 = .ok (.getfield 52, 3) := by decide +kernel
theorem dX11_goesYear_158 : decode cX11_goesYear 158 = .ok (.iload_n 1, 1) := by decide +kernel
theorem dX11_goesYear_159 : decode cX11_goesYear 159 = .ok (.bipush (-2), 2) := by decide +kernel
theorem dX11_goesYear_161 : decode cX11_goesYear 161 = .ok (.iastore, 1) := by decide +kernel
theorem dX11_goesYear_162 : decode cX11_goesYear 162 = .ok (.aload_n 0, 1) := by decide +kernel
theorem dX11_goesYear_163 : decode cX11_goesYear 163 = .ok (.getfield 22, 3) := by decide +kernel
theorem dX11_goesYear_166 : decode cX11_goesYear 166 = .ok (.aload_n 0, 1) := by decide +kernel
theorem dX11_goesYear_167 : decode cX11_goesYear 167 = .ok (.getfield 31, 3) := by decide +kernel
theorem dX11_goesYear_170 : decode cX11_goesYear 170 = .ok (.iload_n 1, 1) := by decide +kernel
theorem dX11_goesYear_171 : decode cX11_goesYear 171 = .ok (.iaload, 1) := by decide +kernel
