theorem dX9_init_70 : decode cX9_init 70 = .ok (.putfield 36, 3) := by decide +kernel
theorem dX9_init_73 : decode cX9_init 73 = .ok (.aload_n 0, 1) := by decide +kernel
theorem dX9_init_74 : decode cX9_init 74 = .ok (.bipush 6, 2) := by decide +kernel
theorem dX9_init_76 : decode cX9_init 76 = .ok (.newarray .int, 2) := by decide +kernel
theorem dX9_init_78 : decode cX9_init 78 = .ok (.putfield 39, 3) := by decide +kernel
theorem dX9_init_81 : decode cX9_init 81 = .ok (.return_, 1) := by decide +kernel
theorem dX9_become_0 : decode cX9_become 0 = .ok (.aload_n 0, 1) := by decide +kernel
theorem dX9_become_1 : decode cX9_become 1 = .ok (.aload_n 1, 1) := by decide +kernel
theorem dX9_become_2 : decode cX9_become 2 = .ok (.getfield 42, 3) := by decide +kernel
theorem dX9_become_5 : decode cX9_become 5 = .ok (.putfield 42, 3) := by decide +kernel
theorem dX9_become_8 : decode cX9_become 8 = .ok (.aload_n 0, 1) := by decide +kernel
theorem dX9_become_9 : decode cX9_become 9 = .ok (.aload_n 1, 1) := by decide +kernel
theorem dX9_become_10 : decode cX9_become 10 = .ok (.getfield 46, 3) := by decide +kernel
theorem dX9_become_13 : decode cX9_become 13 = .ok (.putfield 46, 3) := by decide +kernel
theorem dX9_become_16 : decode cX9_become 16 = .ok (.aload_n 1, 1) := by decide +kernel
theorem dX9_become_17 : decode cX9_become 17 = .ok (.getfield 9, 3) := by decide +kernel
theorem dX9_become_20 : decode cX9_become 20 = .ok (.iconst 0, 1) := by decide +kernel
theorem dX9_become_21 : decode cX9_become 21 = .ok (.aload_n 0, 1) := by decide +kernel
theorem dX9_become_22 : decode cX9_become 22 = .ok (.getfield 9, 3) := by decide +kernel
theorem dX9_become_25 : decode cX9_become 25 = .ok (.iconst 0, 1) := by decide +kernel
theorem dX9_become_26 : decode cX9_become 26 = .ok (.iload_n 3, 1) := by decide +kernel
theorem dX9_become_27 : decode cX9_become 27 = .ok (.invokestatic 49, 3) := by decide +kernel
theorem dX9_become_30 : decode cX9_become 30 = .ok (.aload_n 1, 1) := by decide +kernel
theorem dX9_become_31 : decode cX9_become 31 = .ok (.getfield 15, 3) := by decide +kernel
theorem dX9_become_34 : decode cX9_become 34 = .ok (.iconst 0, 1) := by decide +kernel
theorem dX9_become_35 : decode cX9_become 35 = .ok (.aload_n 0, 1) := by decide +kernel
theorem dX9_become_36 : decode cX9_become 36 = .ok (.getfield 15, 3) := by decide +kernel
theorem dX9_become_39 : decode cX9_become 39 = .ok (.iconst 0, 1) := by decide +kernel
theorem dX9_become_40 : decode cX9_become 40 = .ok (.iload_n 3, 1) := by decide +kernel
theorem dX9_become_41 : decode cX9_become 41 = .ok (.invokestatic 49, 3) := by decide +kernel
theorem dX9_become_44 : decode cX9_become 44 = .ok (.aload_n 1, 1) := by decide +kernel
theorem dX9_become_45 : decode cX9_become 45 = .ok (.getfield 18, 3) := by decide +kernel
theorem dX9_become_48 : decode cX9_become 48 = .ok (.iconst 0, 1) := by decide +kernel
theorem dX9_become_49 : decode cX9_become 49 = .ok (.aload_n 0, 1) := by decide +kernel
theorem dX9_become_50 : decode cX9_become 50 = .ok (.getfield 18, 3) := by decide +kernel
theorem dX9_become_53 : decode cX9_become 53 = .ok (.iconst 0, 1) := by decide +kernel
theorem dX9_become_54 : decode cX9_become 54 = .ok (.iload_n 3, 1) := by decide +kernel
theorem dX9_become_55 : decode cX9_become 55 = .ok (.invokestatic 49, 3) := by decide +kernel
theorem dX9_become_58 : decode cX9_become 58 = .ok (.aload_n 1, 1) := by decide +kernel
theorem dX9_become_59 : decode cX9_become 59 = .ok (.getfield 21, 3) := by decide +kernel
theorem dX9_become_62 : decode cX9_become 62 = .ok (.iconst 0, 1) := by decide +kernel
theorem dX9_become_63 : decode cX9_become 63 = .ok (.aload_n 0, 1) := by decide +kernel
theorem dX9_become_64 : decode cX9_become 64 = .ok (.getfield 21, 3) := by decide +kernel
theorem dX9_become_67 : decode cX9_become 67 = .ok (.iconst 0, 1) := by decide +kernel
theorem dX9_become_68 : decode cX9_become 68 = .ok (.iload_n 3, 1) := by decide +kernel
theorem dX9_become_69 : decode cX9_become 69 = .ok (.invokestatic 49, 3) := by decide +kernel
theorem dX9_become_72 : decode cX9_become 72 = .ok (.aload_n 1, 1) := by decide +kernel
theorem dX9_become_73 : decode cX9_become 73 = .ok (.getfield 24, 3) := by decide +kernel
theorem dX9_become_76 : decode cX9_become 76 = .ok (.iconst 0, 1) := by decide +kernel
theorem dX9_become_77 : decode cX9_become 77 = .ok (.aload_n 0, 1) := by decide +kernel
theorem dX9_become_78 : decode cX9_become 78 = .ok (.getfield 24, 3) := by decide +kernel
theorem dX9_become_81 : decode cX9_become 81 = .ok (.iconst 0, 1) := by decide +kernel
theorem dX9_become_82 : decode cX9_become 82 = .ok (.iload_n 3, 1) := by decide +kernel
theorem dX9_become_83 : decode cX9_become 83 = .ok (.invokestatic 49, 3) := by decide +kernel
theorem dX9_become_86 : decode cX9_become 86 = .ok (.aload_n 1, 1) := by decide +kernel
theorem dX9_become_87 : decode cX9_become 87 = .ok (.getfield 27, 3) := by decide +kernel
theorem dX9_become_90 : decode cX9_become 90 = .ok (.iconst 0, 1) := by decide +kernel
theorem dX9_become_91 : decode cX9_become 91 = .ok (.aload_n 0, 1) := by decide +kernel
theorem dX9_become_92 : decode cX9_become 92 = .ok (.getfield 27, 3) := by decide +kernel
theorem dX9_become_95 : decode cX9_become 95 = .ok (.iconst 0, 1) := by decide +kernel
theorem dX9_become_96 : decode cX9_become 96 = .ok (.iload_n 3, 1) := by decide +kernel
theorem dX9_become_97 : decode cX9_become 97 = .ok (.bipush 8, 2) := by decide +kernel
theorem dX9_become_99 : decode cX9_become 99 = .ok (.imul, 1) := by decide +kernel
theorem dX9_become_100 : decode cX9_become 100 = .ok (.invokestatic 49, 3) := by decide +kernel
theorem dX9_become_103 : decode cX9_become 103 = .ok (.aload_n 1, 1) := by decide +kernel
theorem dX9_become_104 : decode cX9_become 104 = .ok (.getfield 30, 3) := by decide +kernel
theorem dX9_become_107 : decode cX9_become 107 = .ok (.iconst 0, 1) := by decide +kernel
theorem dX9_become_108 : decode cX9_become 108 = .ok (.aload_n 0, 1) := by decide +kernel
theorem dX9_become_109 : decode cX9_become 109 = .ok (.getfield 30, 3) := by decide +kernel
theorem dX9_become_112 : decode cX9_become 112 = .ok (.iconst 0, 1) := by decide +kernel
theorem dX9_become_113 : decode cX9_become 113 = .ok (.iload_n 2, 1) := by decide +kernel
theorem dX9_become_114 : decode cX9_become 114 = .ok (.invokestatic 49, 3) := by decide +kernel
theorem dX9_become_117 : decode cX9_become 117 = .ok (.aload_n 1, 1) := by decide +kernel
theorem dX9_become_118 : decode cX9_become 118 = .ok (.getfield 33, 3) := by decide +kernel
theorem dX9_become_121 : decode cX9_become 121 = .ok (.iconst 0, 1) := by decide +kernel
theorem dX9_become_122 : decode cX9_become 122 = .ok (.aload_n 0, 1) := by decide +kernel
theorem dX9_become_123 : decode cX9_become 123 = .ok (.getfield 33, 3) := by decide +kernel
theorem dX9_become_126 : decode cX9_become 126 = .ok (.iconst 0, 1) := by decide +kernel
theorem dX9_become_127 : decode cX9_become 127 = .ok (.iload_n 2, 1) := by decide +kernel
theorem dX9_become_128 : decode cX9_become 128 = .ok (.invokestatic 49, 3) := by decide +kernel
theorem dX9_become_131 : decode cX9_become 131 = .ok (.aload_n 1, 1) := by decide +kernel
theorem dX9_become_132 : decode cX9_become 132 = .ok (.getfield 36, 3) := by decide +kernel
theorem dX9_become_135 : decode cX9_become 135 = .ok (.iconst 0, 1) := by decide +kernel
theorem dX9_become_136 : decode cX9_become 136 = .ok (.aload_n 0, 1) := by decide +kernel
theorem dX9_become_137 : decode cX9_become 137 = .ok (.getfield 36, 3) := by decide +kernel
theorem dX9_become_140 : decode cX9_become 140 = .ok (.iconst 0, 1) := by decide +kernel
theorem dX9_become_141 : decode cX9_become 141 = .ok (.iload_n 2, 1) := by decide +kernel
theorem dX9_become_142 : decode cX9_become 142 = .ok (.invokestatic 49, 3) := by decide +kernel
theorem dX9_become_145 : decode cX9_become 145 = .ok (.return_, 1) := by decide +kernel
theorem dX9_makeWhole_0 : decode cX9_makeWhole 0 = .ok (.aload_n 0, 1) := by decide +kernel
theorem dX9_makeWhole_1 : decode cX9_makeWhole 1 = .ok (.getfield 9, 3) := by decide +kernel
theorem dX9_makeWhole_4 : decode cX9_makeWhole 4 = .ok (.iload_n 1, 1) := by decide +kernel
theorem dX9_makeWhole_5 : decode cX9_makeWhole 5 = .ok (.iconst 3, 1) := by decide +kernel
theorem dX9_makeWhole_6 : decode cX9_makeWhole 6 = .ok (.iastore, 1) := by decide +kernel
theorem dX9_makeWhole_7 : decode cX9_makeWhole 7 = .ok (.aload_n 0, 1) := by decide +kernel
theorem dX9_makeWhole_8 : decode cX9_makeWhole 8 = .ok (.getfield 15, 3) := by decide +kernel
theorem dX9_makeWhole_11 : decode cX9_makeWhole 11 = .ok (.iload_n 1, 1) := by decide +kernel
theorem dX9_makeWhole_12 : decode cX9_makeWhole 12 = .ok (.bipush (-2), 2) := by decide +kernel
theorem dX9_makeWhole_14 : decode cX9_makeWhole 14 = .ok (.iastore, 1) := by decide +kernel
theorem dX9_makeWhole_15 : decode cX9_makeWhole 15 = .ok (.aload_n 0, 1) := by decide +kernel
theorem dX9_makeWhole_16 : decode cX9_makeWhole 16 = .ok (.getfield 18, 3) := by decide +kernel
theorem dX9_makeWhole_19 : decode cX9_makeWhole 19 = .ok (.iload_n 1, 1) := by decide +kernel
theorem dX9_makeWhole_20 : decode cX9_makeWhole 20 = .ok (.bipush (-2), 2) := by decide +kernel
theorem dX9_makeWhole_22 : decode cX9_makeWhole 22 = .ok (.iastore, 1) := by decide +kernel
theorem dX9_makeWhole_23 : decode cX9_makeWhole 23 = .ok (.aload_n 0, 1) := by decide +kernel
theorem dX9_makeWhole_24 : decode cX9_makeWhole 24 = .ok (.getfield 21, 3) := by decide +kernel
theorem dX9_makeWhole_27 : decode cX9_makeWhole 27 = .ok (.iload_n 1, 1) := by decide +kernel
theorem dX9_makeWhole_28 : decode cX9_makeWhole 28 = .ok (.iconst 0, 1) := by decide +kernel
theorem dX9_makeWhole_29 : decode cX9_makeWhole 29 = .ok (.iastore, 1) := by decide +kernel
theorem dX9_makeWhole_30 : decode cX9_makeWhole 30 = .ok (.return_, 1) := by decide +kernel
theorem dX9_mendedBy_0 : decode cX9_mendedBy 0 = .ok (.aload_n 0, 1) := by decide +kernel
theorem dX9_mendedBy_1 : decode cX9_mendedBy 1 = .ok (.getfield 9, 3) := by decide +kernel
theorem dX9_mendedBy_4 : decode cX9_mendedBy 4 = .ok (.iload_n 1, 1) := by decide +kernel
theorem dX9_mendedBy_5 : decode cX9_mendedBy 5 = .ok (.aload_n 0, 1) := by decide +kernel
theorem dX9_mendedBy_6 : decode cX9_mendedBy 6 = .ok (.getfield 9, 3) := by decide +kernel
theorem dX9_mendedBy_9 : decode cX9_mendedBy 9 = .ok (.iload_n 1, 1) := by decide +kernel
theorem dX9_mendedBy_10 : decode cX9_mendedBy 10 = .ok (.iaload, 1) := by decide +kernel
theorem dX9_mendedBy_11 : decode cX9_mendedBy 11 = .ok (.iload_n 3, 1) := by decide +kernel
theorem dX9_mendedBy_12 : decode cX9_mendedBy 12 = .ok (.invokestatic 55, 3) := by decide +kernel
theorem dX9_mendedBy_15 : decode cX9_mendedBy 15 = .ok (.iastore, 1) := by decide +kernel
theorem dX9_mendedBy_16 : decode cX9_mendedBy 16 = .ok (.aload_n 0, 1) := by decide +kernel
theorem dX9_mendedBy_17 : decode cX9_mendedBy 17 = .ok (.getfield 18, 3) := by decide +kernel
theorem dX9_mendedBy_20 : decode cX9_mendedBy 20 = .ok (.iload_n 1, 1) := by decide +kernel
theorem dX9_mendedBy_21 : decode cX9_mendedBy 21 = .ok (.aload_n 0, 1) := by decide +kernel
theorem dX9_mendedBy_22 : decode cX9_mendedBy 22 = .ok (.getfield 15, 3) := by decide +kernel
theorem dX9_mendedBy_25 : decode cX9_mendedBy 25 = .ok (.iload_n 1, 1) := by decide +kernel
theorem dX9_mendedBy_26 : decode cX9_mendedBy 26 = .ok (.iaload, 1) := by decide +kernel
theorem dX9_mendedBy_27 : decode cX9_mendedBy 27 = .ok (.iastore, 1) := by decide +kernel
theorem dX9_mendedBy_28 : decode cX9_mendedBy 28 = .ok (.aload_n 0, 1) := by decide +kernel
theorem dX9_mendedBy_29 : decode cX9_mendedBy 29 = .ok (.getfield 15, 3) := by decide +kernel
theorem dX9_mendedBy_32 : decode cX9_mendedBy 32 = .ok (.iload_n 1, 1) := by decide +kernel
theorem dX9_mendedBy_33 : decode cX9_mendedBy 33 = .ok (.iload_n 2, 1) := by decide +kernel
theorem dX9_mendedBy_34 : decode cX9_mendedBy 34 = .ok (.iastore, 1) := by decide +kernel
theorem dX9_mendedBy_35 : decode cX9_mendedBy 35 = .ok (.aload_n 0, 1) := by decide +kernel
theorem dX9_mendedBy_36 : decode cX9_mendedBy 36 = .ok (.getfield 21, 3) := by decide +kernel
theorem dX9_mendedBy_39 : decode cX9_mendedBy 39 = .ok (.iload_n 1, 1) := by decide +kernel
theorem dX9_mendedBy_40 : decode cX9_mendedBy 40 = .ok (.iconst 0, 1) := by decide +kernel
theorem dX9_mendedBy_41 : decode cX9_mendedBy 41 = .ok (.iastore, 1) := by decide +kernel
theorem dX9_mendedBy_42 : decode cX9_mendedBy 42 = .ok (.aload_n 0, 1) := by decide +kernel
theorem dX9_mendedBy_43 : decode cX9_mendedBy 43 = .ok (.getfield 30, 3) := by decide +kernel
theorem dX9_mendedBy_46 : decode cX9_mendedBy 46 = .ok (.iload_n 2, 1) := by decide +kernel
theorem dX9_mendedBy_47 : decode cX9_mendedBy 47 = .ok (.dup2, 1) := by decide +kernel
theorem dX9_mendedBy_48 : decode cX9_mendedBy 48 = .ok (.iaload, 1) := by decide +kernel
theorem dX9_mendedBy_49 : decode cX9_mendedBy 49 = .ok (.iload 4, 2) := by decide +kernel
theorem dX9_mendedBy_51 : decode cX9_mendedBy 51 = .ok (.isub, 1) := by decide +kernel
theorem dX9_mendedBy_52 : decode cX9_mendedBy 52 = .ok (.iastore, 1) := by decide +kernel
theorem dX9_mendedBy_53 : decode cX9_mendedBy 53 = .ok (.aload_n 0, 1) := by decide +kernel
theorem dX9_mendedBy_54 : decode cX9_mendedBy 54 = .ok (.getfield 36, 3) := by decide +kernel
theorem dX9_mendedBy_57 : decode cX9_mendedBy 57 = .ok (.iload_n 2, 1) := by decide +kernel
theorem dX9_mendedBy_58 : decode cX9_mendedBy 58 = .ok (.dup2, 1) := by decide +kernel
theorem dX9_mendedBy_59 : decode cX9_mendedBy 59 = .ok (.iaload, 1) := by decide +kernel
theorem dX9_mendedBy_60 : decode cX9_mendedBy 60 = .ok (.iload 4, 2) := by decide +kernel
theorem dX9_mendedBy_62 : decode cX9_mendedBy 62 = .ok (.iadd, 1) := by decide +kernel
theorem dX9_mendedBy_63 : decode cX9_mendedBy 63 = .ok (.iastore, 1) := by decide +kernel
theorem dX9_mendedBy_64 : decode cX9_mendedBy 64 = .ok (.aload_n 0, 1) := by decide +kernel
theorem dX9_mendedBy_65 : decode cX9_mendedBy 65 = .ok (.iload_n 1, 1) := by decide +kernel
theorem dX9_mendedBy_66 : decode cX9_mendedBy 66 = .ok (.iload_n 2, 1) := by decide +kernel
theorem dX9_mendedBy_67 : decode cX9_mendedBy 67 = .ok (.invokevirtual 61, 3) := by decide +kernel
theorem dX9_mendedBy_70 : decode cX9_mendedBy 70 = .ok (.return_, 1) := by decide +kernel
theorem dX9_driveNail_0 : decode cX9_driveNail 0 = .ok (.iload_n 1, 1) := by decide +kernel
theorem dX9_driveNail_1 : decode cX9_driveNail 1 = .ok (.bipush 8, 2) := by decide +kernel
theorem dX9_driveNail_3 : decode cX9_driveNail 3 = .ok (.imul, 1) := by decide +kernel
theorem dX9_driveNail_4 : decode cX9_driveNail 4 = .ok (.istore_n 3, 1) := by decide +kernel
theorem dX9_driveNail_5 : decode cX9_driveNail 5 = .ok (.aload_n 0, 1) := by decide +kernel
theorem dX9_driveNail_6 : decode cX9_driveNail 6 = .ok (.getfield 24, 3) := by decide +kernel
theorem dX9_driveNail_9 : decode cX9_driveNail 9 = .ok (.iload_n 1, 1) := by decide +kernel
theorem dX9_driveNail_10 : decode cX9_driveNail 10 = .ok (.iaload, 1) := by decide +kernel
theorem dX9_driveNail_11 : decode cX9_driveNail 11 = .ok (.bipush 8, 2) := by decide +kernel
theorem dX9_driveNail_13 : decode cX9_driveNail 13 = .ok (.if_icmp .ne 30, 3) := by decide +kernel
theorem dX9_driveNail_16 : decode cX9_driveNail 16 = .ok (.aload_n 0, 1) := by decide +kernel
theorem dX9_driveNail_17 : decode cX9_driveNail 17 = .ok (.getfield 27, 3) := by decide +kernel
theorem dX9_driveNail_20 : decode cX9_driveNail 20 = .ok (.iload_n 3, 1) := by decide +kernel
theorem dX9_driveNail_21 : decode cX9_driveNail 21 = .ok (.iconst 1, 1) := by decide +kernel
theorem dX9_driveNail_22 : decode cX9_driveNail 22 = .ok (.iadd, 1) := by decide +kernel
theorem dX9_driveNail_23 : decode cX9_driveNail 23 = .ok (.aload_n 0, 1) := by decide +kernel
theorem dX9_driveNail_24 : decode cX9_driveNail 24 = .ok (.getfield 27, 3) := by decide +kernel
theorem dX9_driveNail_27 : decode cX9_driveNail 27 = .ok (.iload_n 3, 1) := by decide +kernel
theorem dX9_driveNail_28 : decode cX9_driveNail 28 = .ok (.bipush 7, 2) := by decide +kernel
theorem dX9_driveNail_30 : decode cX9_driveNail 30 = .ok (.invokestatic 49, 3) := by decide +kernel
theorem dX9_driveNail_33 : decode cX9_driveNail 33 = .ok (.aload_n 0, 1) := by decide +kernel
theorem dX9_driveNail_34 : decode cX9_driveNail 34 = .ok (.getfield 24, 3) := by decide +kernel
theorem dX9_driveNail_37 : decode cX9_driveNail 37 = .ok (.iload_n 1, 1) := by decide +kernel
theorem dX9_driveNail_38 : decode cX9_driveNail 38 = .ok (.dup2, 1) := by decide +kernel
theorem dX9_driveNail_39 : decode cX9_driveNail 39 = .ok (.iaload, 1) := by decide +kernel
theorem dX9_driveNail_40 : decode cX9_driveNail 40 = .ok (.iconst 1, 1) := by decide +kernel
theorem dX9_driveNail_41 : decode cX9_driveNail 41 = .ok (.isub, 1) := by decide +kernel
theorem dX9_driveNail_42 : decode cX9_driveNail 42 = .ok (.iastore, 1) := by decide +kernel
theorem dX9_driveNail_43 : decode cX9_driveNail 43 = .ok (.aload_n 0, 1) := by decide +kernel
theorem dX9_driveNail_44 : decode cX9_driveNail 44 = .ok (.getfield 27, 3) := by decide +kernel
theorem dX9_driveNail_47 : decode cX9_driveNail 47 = .ok (.iload_n 3, 1) := by decide +kernel
theorem dX9_driveNail_48 : decode cX9_driveNail 48 = .ok (.aload_n 0, 1) := by decide +kernel
theorem dX9_driveNail_49 : decode cX9_driveNail 49 = .ok (.getfield 24, 3) := by decide +kernel
theorem dX9_driveNail_52 : decode cX9_driveNail 52 = .ok (.iload_n 1, 1) := by decide +kernel
theorem dX9_driveNail_53 : decode cX9_driveNail 53 = .ok (.iaload, 1) := by decide +kernel
theorem dX9_driveNail_54 : decode cX9_driveNail 54 = .ok (.iadd, 1) := by decide +kernel
theorem dX9_driveNail_55 : decode cX9_driveNail 55 = .ok (.iload_n 2, 1) := by decide +kernel
theorem dX9_driveNail_56 : decode cX9_driveNail 56 = .ok (.iastore, 1) := by decide +kernel
theorem dX9_driveNail_57 : decode cX9_driveNail 57 = .ok (.aload_n 0, 1) := by decide +kernel
theorem dX9_driveNail_58 : decode cX9_driveNail 58 = .ok (.getfield 24, 3) := by decide +kernel
theorem dX9_driveNail_61 : decode cX9_driveNail 61 = .ok (.iload_n 1, 1) := by decide +kernel
theorem dX9_driveNail_62 : decode cX9_driveNail 62 = .ok (.dup2, 1) := by decide +kernel
theorem dX9_driveNail_63 : decode cX9_driveNail 63 = .ok (.iaload, 1) := by decide +kernel
theorem dX9_driveNail_64 : decode cX9_driveNail 64 = .ok (.iconst 1, 1) := by decide +kernel
theorem dX9_driveNail_65 : decode cX9_driveNail 65 = .ok (.iadd, 1) := by decide +kernel
theorem dX9_driveNail_66 : decode cX9_driveNail 66 = .ok (.iastore, 1) := by decide +kernel
theorem dX9_driveNail_67 : decode cX9_driveNail 67 = .ok (.return_, 1) := by decide +kernel
theorem dX9_nail_0 : decode cX9_nail 0 = .ok (.aload_n 0, 1) := by decide +kernel
theorem dX9_nail_1 : decode cX9_nail 1 = .ok (.getfield 27, 3) := by decide +kernel
theorem dX9_nail_4 : decode cX9_nail 4 = .ok (.iload_n 1, 1) := by decide +kernel
theorem dX9_nail_5 : decode cX9_nail 5 = .ok (.bipush 8, 2) := by decide +kernel
theorem dX9_nail_7 : decode cX9_nail 7 = .ok (.imul, 1) := by decide +kernel
theorem dX9_nail_8 : decode cX9_nail 8 = .ok (.iload_n 2, 1) := by decide +kernel
theorem dX9_nail_9 : decode cX9_nail 9 = .ok (.iadd, 1) := by decide +kernel
theorem dX9_nail_10 : decode cX9_nail 10 = .ok (.iaload, 1) := by decide +kernel
theorem dX9_nail_11 : decode cX9_nail 11 = .ok (.ireturn, 1) := by decide +kernel
theorem dX9_oftenOver_0 : decode cX9_oftenOver 0 = .ok (.iconst 0, 1) := by decide +kernel
theorem dX9_oftenOver_1 : decode cX9_oftenOver 1 = .ok (.istore 4, 2) := by decide +kernel
theorem dX9_oftenOver_3 : decode cX9_oftenOver 3 = .ok (.iconst 1, 1) := by decide +kernel
theorem dX9_oftenOver_4 : decode cX9_oftenOver 4 = .ok (.istore 5, 2) := by decide +kernel
theorem dX9_oftenOver_6 : decode cX9_oftenOver 6 = .ok (.iload 5, 2) := by decide +kernel
theorem dX9_oftenOver_8 : decode cX9_oftenOver 8 = .ok (.aload_n 0, 1) := by decide +kernel
theorem dX9_oftenOver_9 : decode cX9_oftenOver 9 = .ok (.getfield 24, 3) := by decide +kernel
theorem dX9_oftenOver_12 : decode cX9_oftenOver 12 = .ok (.iload_n 1, 1) := by decide +kernel
theorem dX9_oftenOver_13 : decode cX9_oftenOver 13 = .ok (.iaload, 1) := by decide +kernel
theorem dX9_oftenOver_14 : decode cX9_oftenOver 14 = .ok (.if_icmp .ge 36, 3) := by decide +kernel
theorem dX9_oftenOver_17 : decode cX9_oftenOver 17 = .ok (.aload_n 0, 1) := by decide +kernel
theorem dX9_oftenOver_18 : decode cX9_oftenOver 18 = .ok (.iload_n 1, 1) := by decide +kernel
theorem dX9_oftenOver_19 : decode cX9_oftenOver 19 = .ok (.iload 5, 2) := by decide +kernel
theorem dX9_oftenOver_21 : decode cX9_oftenOver 21 = .ok (.invokevirtual 65, 3) := by decide +kernel
theorem dX9_oftenOver_24 : decode cX9_oftenOver 24 = .ok (.iload_n 2, 1) := by decide +kernel
theorem dX9_oftenOver_25 : decode cX9_oftenOver 25 = .ok (.if_icmp .ne 19, 3) := by decide +kernel
theorem dX9_oftenOver_28 : decode cX9_oftenOver 28 = .ok (.aload_n 0, 1) := by decide +kernel
theorem dX9_oftenOver_29 : decode cX9_oftenOver 29 = .ok (.iload_n 1, 1) := by decide +kernel
theorem dX9_oftenOver_30 : decode cX9_oftenOver 30 = .ok (.iload 5, 2) := by decide +kernel
theorem dX9_oftenOver_32 : decode cX9_oftenOver 32 = .ok (.iconst 1, 1) := by decide +kernel
theorem dX9_oftenOver_33 : decode cX9_oftenOver 33 = .ok (.isub, 1) := by decide +kernel
theorem dX9_oftenOver_34 : decode cX9_oftenOver 34 = .ok (.invokevirtual 65, 3) := by decide +kernel
theorem dX9_oftenOver_37 : decode cX9_oftenOver 37 = .ok (.iload_n 3, 1) := by decide +kernel
theorem dX9_oftenOver_38 : decode cX9_oftenOver 38 = .ok (.if_icmp .ne 6, 3) := by decide +kernel
theorem dX9_oftenOver_41 : decode cX9_oftenOver 41 = .ok (.iinc 4 1, 3) := by decide +kernel
theorem dX9_oftenOver_44 : decode cX9_oftenOver 44 = .ok (.iinc 5 1, 3) := by decide +kernel
theorem dX9_oftenOver_47 : decode cX9_oftenOver 47 = .ok (.goto (-41), 3) := by decide +kernel
theorem dX9_oftenOver_50 : decode cX9_oftenOver 50 = .ok (.iload 4, 2) := by decide +kernel
theorem dX9_oftenOver_52 : decode cX9_oftenOver 52 = .ok (.ireturn, 1) := by decide +kernel
theorem dX9_pays_0 : decode cX9_pays 0 = .ok (.aload_n 0, 1) := by decide +kernel
theorem dX9_pays_1 : decode cX9_pays 1 = .ok (.getfield 30, 3) := by decide +kernel
theorem dX9_pays_4 : decode cX9_pays 4 = .ok (.iload_n 1, 1) := by decide +kernel
theorem dX9_pays_5 : decode cX9_pays 5 = .ok (.dup2, 1) := by decide +kernel
theorem dX9_pays_6 : decode cX9_pays 6 = .ok (.iaload, 1) := by decide +kernel
theorem dX9_pays_7 : decode cX9_pays 7 = .ok (.iload_n 2, 1) := by decide +kernel
theorem dX9_pays_8 : decode cX9_pays 8 = .ok (.isub, 1) := by decide +kernel
theorem dX9_pays_9 : decode cX9_pays 9 = .ok (.iastore, 1) := by decide +kernel
theorem dX9_pays_10 : decode cX9_pays 10 = .ok (.aload_n 0, 1) := by decide +kernel
theorem dX9_pays_11 : decode cX9_pays 11 = .ok (.getfield 33, 3) := by decide +kernel
theorem dX9_pays_14 : decode cX9_pays 14 = .ok (.iload_n 1, 1) := by decide +kernel
theorem dX9_pays_15 : decode cX9_pays 15 = .ok (.dup2, 1) := by decide +kernel
theorem dX9_pays_16 : decode cX9_pays 16 = .ok (.iaload, 1) := by decide +kernel
theorem dX9_pays_17 : decode cX9_pays 17 = .ok (.iload_n 2, 1) := by decide +kernel
theorem dX9_pays_18 : decode cX9_pays 18 = .ok (.iadd, 1) := by decide +kernel
theorem dX9_pays_19 : decode cX9_pays 19 = .ok (.iastore, 1) := by decide +kernel
theorem dX9_pays_20 : decode cX9_pays 20 = .ok (.return_, 1) := by decide +kernel
theorem dX10_init_0 : decode cX10_init 0 = .ok (.aload_n 0, 1) := by decide +kernel
theorem dX10_init_1 : decode cX10_init 1 = .ok (.invokespecial 3, 3) := by decide +kernel
theorem dX10_init_4 : decode cX10_init 4 = .ok (.aload_n 0, 1) := by decide +kernel
theorem dX10_init_5 : decode cX10_init 5 = .ok (.new 9, 3) := by decide +kernel
theorem dX10_init_8 : decode cX10_init 8 = .ok (.dup, 1) := by decide +kernel
theorem dX10_init_9 : decode cX10_init 9 = .ok (.invokespecial 11, 3) := by decide +kernel
theorem dX10_init_12 : decode cX10_init 12 = .ok (.putfield 12, 3) := by decide +kernel
theorem dX10_init_15 : decode cX10_init 15 = .ok (.aload_n 0, 1) := by decide +kernel
theorem dX10_init_16 : decode cX10_init 16 = .ok (.new 16, 3) := by decide +kernel
theorem dX10_init_19 : decode cX10_init 19 = .ok (.dup, 1) := by decide +kernel
theorem dX10_init_20 : decode cX10_init 20 = .ok (.invokespecial 18, 3) := by decide +kernel
theorem dX10_init_23 : decode cX10_init 23 = .ok (.putfield 19, 3) := by decide +kernel
theorem dX10_init_26 : decode cX10_init 26 = .ok (.aload_n 0, 1) := by decide +kernel
theorem dX10_init_27 : decode cX10_init 27 = .ok (.new 23, 3) := by decide +kernel
theorem dX10_init_30 : decode cX10_init 30 = .ok (.dup, 1) := by decide +kernel
theorem dX10_init_31 : decode cX10_init 31 = .ok (.aload_n 0, 1) := by decide +kernel
theorem dX10_init_32 : decode cX10_init 32 = .ok (.getfield 12, 3) := by decide +kernel
theorem dX10_init_35 : decode cX10_init 35 = .ok (.aload_n 0, 1) := by decide +kernel
theorem dX10_init_36 : decode cX10_init 36 = .ok (.getfield 19, 3) := by decide +kernel
theorem dX10_init_39 : decode cX10_init 39 = .ok (.invokespecial 25, 3) := by decide +kernel
theorem dX10_init_42 : decode cX10_init 42 = .ok (.putfield 28, 3) := by decide +kernel
theorem dX10_init_45 : decode cX10_init 45 = .ok (.aload_n 0, 1) := by decide +kernel
theorem dX10_init_46 : decode cX10_init 46 = .ok (.new 32, 3) := by decide +kernel
theorem dX10_init_49 : decode cX10_init 49 = .ok (.dup, 1) := by decide +kernel
theorem dX10_init_50 : decode cX10_init 50 = .ok (.aload_n 0, 1) := by decide +kernel
theorem dX10_init_51 : decode cX10_init 51 = .ok (.getfield 12, 3) := by decide +kernel
theorem dX10_init_54 : decode cX10_init 54 = .ok (.aload_n 0, 1) := by decide +kernel
theorem dX10_init_55 : decode cX10_init 55 = .ok (.getfield 19, 3) := by decide +kernel
theorem dX10_init_58 : decode cX10_init 58 = .ok (.aload_n 0, 1) := by decide +kernel
theorem dX10_init_59 : decode cX10_init 59 = .ok (.getfield 28, 3) := by decide +kernel
theorem dX10_init_62 : decode cX10_init 62 = .ok (.invokespecial 34, 3) := by decide +kernel
theorem dX10_init_65 : decode cX10_init 65 = .ok (.putfield 37, 3) := by decide +kernel
theorem dX10_init_68 : decode cX10_init 68 = .ok (.aload_n 0, 1) := by decide +kernel
theorem dX10_init_69 : decode cX10_init 69 = .ok (.new 41, 3) := by decide +kernel
theorem dX10_init_72 : decode cX10_init 72 = .ok (.dup, 1) := by decide +kernel
theorem dX10_init_73 : decode cX10_init 73 = .ok (.invokespecial 43, 3) := by decide +kernel
theorem dX10_init_76 : decode cX10_init 76 = .ok (.putfield 44, 3) := by decide +kernel
theorem dX10_init_79 : decode cX10_init 79 = .ok (.aload_n 0, 1) := by decide +kernel
theorem dX10_init_80 : decode cX10_init 80 = .ok (.new 41, 3) := by decide +kernel
theorem dX10_init_83 : decode cX10_init 83 = .ok (.dup, 1) := by decide +kernel
theorem dX10_init_84 : decode cX10_init 84 = .ok (.invokespecial 43, 3) := by decide +kernel
theorem dX10_init_87 : decode cX10_init 87 = .ok (.putfield 48, 3) := by decide +kernel
theorem dX10_init_90 : decode cX10_init 90 = .ok (.aload_n 0, 1) := by decide +kernel
theorem dX10_init_91 : decode cX10_init 91 = .ok (.new 41, 3) := by decide +kernel
theorem dX10_init_94 : decode cX10_init 94 = .ok (.dup, 1) := by decide +kernel
theorem dX10_init_95 : decode cX10_init 95 = .ok (.invokespecial 43, 3) := by decide +kernel
theorem dX10_init_98 : decode cX10_init 98 = .ok (.putfield 51, 3) := by decide +kernel
theorem dX10_init_101 : decode cX10_init 101 = .ok (.aload_n 0, 1) := by decide +kernel
theorem dX10_init_102 : decode cX10_init 102 = .ok (.new 54, 3) := by decide +kernel
theorem dX10_init_105 : decode cX10_init 105 = .ok (.dup, 1) := by decide +kernel
theorem dX10_init_106 : decode cX10_init 106 = .ok (.invokespecial 56, 3) := by decide +kernel
theorem dX10_init_109 : decode cX10_init 109 = .ok (.putfield 57, 3) := by decide +kernel
theorem dX10_init_112 : decode cX10_init 112 = .ok (.aload_n 0, 1) := by decide +kernel
theorem dX10_init_113 : decode cX10_init 113 = .ok (.new 61, 3) := by decide +kernel
theorem dX10_init_116 : decode cX10_init 116 = .ok (.dup, 1) := by decide +kernel
theorem dX10_init_117 : decode cX10_init 117 = .ok (.invokespecial 63, 3) := by decide +kernel
theorem dX10_init_120 : decode cX10_init 120 = .ok (.putfield 64, 3) := by decide +kernel
theorem dX10_init_123 : decode cX10_init 123 = .ok (.aload_n 0, 1) := by decide +kernel
theorem dX10_init_124 : decode cX10_init 124 = .ok (.bipush 6, 2) := by decide +kernel
theorem dX10_init_126 : decode cX10_init 126 = .ok (.anewarray 68, 3) := by decide +kernel
theorem dX10_init_129 : decode cX10_init 129 = .ok (.putfield 70, 3) := by decide +kernel
theorem dX10_init_132 : decode cX10_init 132 = .ok (.aload_n 0, 1) := by decide +kernel
theorem dX10_init_133 : decode cX10_init 133 = .ok (.iconst (-1), 1) := by decide +kernel
theorem dX10_init_134 : decode cX10_init 134 = .ok (.putfield 74, 3) := by decide +kernel
theorem dX10_init_137 : decode cX10_init 137 = .ok (.iconst 0, 1) := by decide +kernel
theorem dX10_init_138 : decode cX10_init 138 = .ok (.istore_n 1, 1) := by decide +kernel
theorem dX10_init_139 : decode cX10_init 139 = .ok (.iload_n 1, 1) := by decide +kernel
theorem dX10_init_140 : decode cX10_init 140 = .ok (.bipush 6, 2) := by decide +kernel
theorem dX10_init_142 : decode cX10_init 142 = .ok (.if_icmp .ge 22, 3) := by decide +kernel
theorem dX10_init_145 : decode cX10_init 145 = .ok (.aload_n 0, 1) := by decide +kernel
theorem dX10_init_146 : decode cX10_init 146 = .ok (.getfield 70, 3) := by decide +kernel
theorem dX10_init_149 : decode cX10_init 149 = .ok (.iload_n 1, 1) := by decide +kernel
theorem dX10_init_150 : decode cX10_init 150 = .ok (.new 68, 3) := by decide +kernel
theorem dX10_init_153 : decode cX10_init 153 = .ok (.dup, 1) := by decide +kernel
theorem dX10_init_154 : decode cX10_init 154 = .ok (.invokespecial 78, 3) := by decide +kernel
theorem dX10_init_157 : decode cX10_init 157 = .ok (.aastore, 1) := by decide +kernel
theorem dX10_init_158 : decode cX10_init 158 = .ok (.iinc 1 1, 3) := by decide +kernel
theorem dX10_init_161 : decode cX10_init 161 = .ok (.goto (-22), 3) := by decide +kernel
theorem dX10_init_164 : decode cX10_init 164 = .ok (.return_, 1) := by decide +kernel
theorem dX10_person_0 : decode cX10_person 0 = .ok (.iload_n 1, 1) := by decide +kernel
theorem dX10_person_1 : decode cX10_person 1 = .ok (.iconst 1, 1) := by decide +kernel
theorem dX10_person_2 : decode cX10_person 2 = .ok (.if_icmp .lt 18, 3) := by decide +kernel
theorem dX10_person_5 : decode cX10_person 5 = .ok (.iload_n 1, 1) := by decide +kernel
theorem dX10_person_6 : decode cX10_person 6 = .ok (.iconst 3, 1) := by decide +kernel
theorem dX10_person_7 : decode cX10_person 7 = .ok (.if_icmp .gt 13, 3) := by decide +kernel
theorem dX10_person_10 : decode cX10_person 10 = .ok (.iload_n 2, 1) := by decide +kernel
theorem dX10_person_11 : decode cX10_person 11 = .ok (.ifCond .lt 9, 3) := by decide +kernel
theorem dX10_person_14 : decode cX10_person 14 = .ok (.iload_n 2, 1) := by decide +kernel
theorem dX10_person_15 : decode cX10_person 15 = .ok (.bipush 99, 2) := by decide +kernel
theorem dX10_person_17 : decode cX10_person 17 = .ok (.if_icmp .le 5, 3) := by decide +kernel
theorem dX10_person_20 : decode cX10_person 20 = .ok (.iconst (-1), 1) := by decide +kernel
theorem dX10_person_21 : decode cX10_person 21 = .ok (.ireturn, 1) := by decide +kernel
theorem dX10_person_22 : decode cX10_person 22 = .ok (.aload_n 0, 1) := by decide +kernel
theorem dX10_person_23 : decode cX10_person 23 = .ok (.getfield 12, 3) := by decide +kernel
theorem dX10_person_26 : decode cX10_person 26 = .ok (.getfield 79, 3) := by decide +kernel
theorem dX10_person_29 : decode cX10_person 29 = .ok (.iconst 5, 1) := by decide +kernel
theorem dX10_person_30 : decode cX10_person 30 = .ok (.if_icmp .lt 6, 3) := by decide +kernel
theorem dX10_person_33 : decode cX10_person 33 = .ok (.bipush (-3), 2) := by decide +kernel
theorem dX10_person_35 : decode cX10_person 35 = .ok (.ireturn, 1) := by decide +kernel
theorem dX10_person_36 : decode cX10_person 36 = .ok (.aload_n 0, 1) := by decide +kernel
theorem dX10_person_37 : decode cX10_person 37 = .ok (.getfield 12, 3) := by decide +kernel
theorem dX10_person_40 : decode cX10_person 40 = .ok (.iload_n 1, 1) := by decide +kernel
theorem dX10_person_41 : decode cX10_person 41 = .ok (.iload_n 2, 1) := by decide +kernel
theorem dX10_person_42 : decode cX10_person 42 = .ok (.invokevirtual 82, 3) := by decide +kernel
theorem dX10_person_45 : decode cX10_person 45 = .ok (.ireturn, 1) := by decide +kernel
theorem dX10_thing_0 : decode cX10_thing 0 = .ok (.aload_n 0, 1) := by decide +kernel
theorem dX10_thing_1 : decode cX10_thing 1 = .ok (.iload_n 1, 1) := by decide +kernel
theorem dX10_thing_2 : decode cX10_thing 2 = .ok (.iload_n 2, 1) := by decide +kernel
theorem dX10_thing_3 : decode cX10_thing 3 = .ok (.bipush 100, 2) := by decide +kernel
theorem dX10_thing_5 : decode cX10_thing 5 = .ok (.idiv, 1) := by decide +kernel
theorem dX10_thing_6 : decode cX10_thing 6 = .ok (.iload_n 2, 1) := by decide +kernel
theorem dX10_thing_7 : decode cX10_thing 7 = .ok (.bipush 100, 2) := by decide +kernel
theorem dX10_thing_9 : decode cX10_thing 9 = .ok (.irem, 1) := by decide +kernel
theorem dX10_thing_10 : decode cX10_thing 10 = .ok (.invokevirtual 86, 3) := by decide +kernel
theorem dX10_thing_13 : decode cX10_thing 13 = .ok (.ireturn, 1) := by decide +kernel
theorem dX10_addThing_0 : decode cX10_addThing 0 = .ok (.aload_n 0, 1) := by decide +kernel
theorem dX10_addThing_1 : decode cX10_addThing 1 = .ok (.getfield 12, 3) := by decide +kernel
theorem dX10_addThing_4 : decode cX10_addThing 4 = .ok (.iload_n 1, 1) := by decide +kernel
theorem dX10_addThing_5 : decode cX10_addThing 5 = .ok (.invokevirtual 90, 3) := by decide +kernel
theorem dX10_addThing_8 : decode cX10_addThing 8 = .ok (.ifCond .eq 23, 3) := by decide +kernel
theorem dX10_addThing_11 : decode cX10_addThing 11 = .ok (.iload_n 2, 1) := by decide +kernel
theorem dX10_addThing_12 : decode cX10_addThing 12 = .ok (.ifCond .lt 19, 3) := by decide +kernel
theorem dX10_addThing_15 : decode cX10_addThing 15 = .ok (.iload_n 2, 1) := by decide +kernel
theorem dX10_addThing_16 : decode cX10_addThing 16 = .ok (.bipush 99, 2) := by decide +kernel
theorem dX10_addThing_18 : decode cX10_addThing 18 = .ok (.if_icmp .gt 13, 3) := by decide +kernel
theorem dX10_addThing_21 : decode cX10_addThing 21 = .ok (.iload_n 3, 1) := by decide +kernel
theorem dX10_addThing_22 : decode cX10_addThing 22 = .ok (.ifCond .lt 9, 3) := by decide +kernel
theorem dX10_addThing_25 : decode cX10_addThing 25 = .ok (.iload_n 3, 1) := by decide +kernel
theorem dX10_addThing_26 : decode cX10_addThing 26 = .ok (.bipush 99, 2) := by decide +kernel
theorem dX10_addThing_28 : decode cX10_addThing 28 = .ok (.if_icmp .le 5, 3) := by decide +kernel
theorem dX10_addThing_31 : decode cX10_addThing 31 = .ok (.iconst (-1), 1) := by decide +kernel
theorem dX10_addThing_32 : decode cX10_addThing 32 = .ok (.ireturn, 1) := by decide +kernel
theorem dX10_addThing_33 : decode cX10_addThing 33 = .ok (.aload_n 0, 1) := by decide +kernel
theorem dX10_addThing_34 : decode cX10_addThing 34 = .ok (.getfield 12, 3) := by decide +kernel
theorem dX10_addThing_37 : decode cX10_addThing 37 = .ok (.getfield 94, 3) := by decide +kernel
theorem dX10_addThing_40 : decode cX10_addThing 40 = .ok (.bipush 6, 2) := by decide +kernel
theorem dX10_addThing_42 : decode cX10_addThing 42 = .ok (.if_icmp .lt 6, 3) := by decide +kernel
theorem dX10_addThing_45 : decode cX10_addThing 45 = .ok (.bipush (-3), 2) := by decide +kernel
theorem dX10_addThing_47 : decode cX10_addThing 47 = .ok (.ireturn, 1) := by decide +kernel
theorem dX10_addThing_48 : decode cX10_addThing 48 = .ok (.aload_n 0, 1) := by decide +kernel
theorem dX10_addThing_49 : decode cX10_addThing 49 = .ok (.getfield 12, 3) := by decide +kernel
theorem dX10_addThing_52 : decode cX10_addThing 52 = .ok (.iload_n 1, 1) := by decide +kernel
theorem dX10_addThing_53 : decode cX10_addThing 53 = .ok (.iload_n 2, 1) := by decide +kernel
theorem dX10_addThing_54 : decode cX10_addThing 54 = .ok (.iload_n 3, 1) := by decide +kernel
theorem dX10_addThing_55 : decode cX10_addThing 55 = .ok (.invokevirtual 97, 3) := by decide +kernel
theorem dX10_addThing_58 : decode cX10_addThing 58 = .ok (.istore 4, 2) := by decide +kernel
theorem dX10_addThing_60 : decode cX10_addThing 60 = .ok (.aload_n 0, 1) := by decide +kernel
theorem dX10_addThing_61 : decode cX10_addThing 61 = .ok (.getfield 44, 3) := by decide +kernel
theorem dX10_addThing_64 : decode cX10_addThing 64 = .ok (.iload 4, 2) := by decide +kernel
theorem dX10_addThing_66 : decode cX10_addThing 66 = .ok (.invokevirtual 98, 3) := by decide +kernel
theorem dX10_addThing_69 : decode cX10_addThing 69 = .ok (.iload 4, 2) := by decide +kernel
theorem dX10_addThing_71 : decode cX10_addThing 71 = .ok (.ireturn, 1) := by decide +kernel
theorem dX10_things_0 : decode cX10_things 0 = .ok (.aload_n 0, 1) := by decide +kernel
theorem dX10_things_1 : decode cX10_things 1 = .ok (.iload_n 1, 1) := by decide +kernel
theorem dX10_things_2 : decode cX10_things 2 = .ok (.invokevirtual 102, 3) := by decide +kernel
theorem dX10_things_5 : decode cX10_things 5 = .ok (.astore 4, 2) := by decide +kernel
theorem dX10_things_7 : decode cX10_things 7 = .ok (.aload 4, 2) := by decide +kernel
theorem dX10_things_9 : decode cX10_things 9 = .ok (.ifnull 14, 3) := by decide +kernel
theorem dX10_things_12 : decode cX10_things 12 = .ok (.iload_n 3, 1) := by decide +kernel
theorem dX10_things_13 : decode cX10_things 13 = .ok (.iconst 1, 1) := by decide +kernel
theorem dX10_things_14 : decode cX10_things 14 = .ok (.if_icmp .lt 9, 3) := by decide +kernel
theorem dX10_things_17 : decode cX10_things 17 = .ok (.iload_n 3, 1) := by decide +kernel
theorem dX10_things_18 : decode cX10_things 18 = .ok (.bipush 6, 2) := by decide +kernel
theorem dX10_things_20 : decode cX10_things 20 = .ok (.if_icmp .le 5, 3) := by decide +kernel
theorem dX10_things_23 : decode cX10_things 23 = .ok (.iconst (-1), 1) := by decide +kernel
theorem dX10_things_24 : decode cX10_things 24 = .ok (.ireturn, 1) := by decide +kernel
theorem dX10_things_25 : decode cX10_things 25 = .ok (.aload 4, 2) := by decide +kernel
theorem dX10_things_27 : decode cX10_things 27 = .ok (.getfield 106, 3) := by decide +kernel
theorem dX10_things_30 : decode cX10_things 30 = .ok (.ifCond .ne 5, 3) := by decide +kernel
theorem dX10_things_33 : decode cX10_things 33 = .ok (.iconst 0, 1) := by decide +kernel
theorem dX10_things_34 : decode cX10_things 34 = .ok (.ireturn, 1) := by decide +kernel
theorem dX10_things_35 : decode cX10_things 35 = .ok (.aload 4, 2) := by decide +kernel
theorem dX10_things_37 : decode cX10_things 37 = .ok (.iconst 0, 1) := by decide +kernel
theorem dX10_things_38 : decode cX10_things 38 = .ok (.invokevirtual 109, 3) := by decide +kernel
theorem dX10_things_41 : decode cX10_things 41 = .ok (.ifCond .ne 6, 3) := by decide +kernel
theorem dX10_things_44 : decode cX10_things 44 = .ok (.bipush (-12), 2) := by decide +kernel
theorem dX10_things_46 : decode cX10_things 46 = .ok (.ireturn, 1) := by decide +kernel
theorem dX10_things_47 : decode cX10_things 47 = .ok (.iload_n 2, 1) := by decide +kernel
theorem dX10_things_48 : decode cX10_things 48 = .ok (.ifCond .ge 5, 3) := by decide +kernel
theorem dX10_things_51 : decode cX10_things 51 = .ok (.iconst 0, 1) := by decide +kernel
theorem dX10_things_52 : decode cX10_things 52 = .ok (.ireturn, 1) := by decide +kernel
theorem dX10_things_53 : decode cX10_things 53 = .ok (.iconst 0, 1) := by decide +kernel
theorem dX10_things_54 : decode cX10_things 54 = .ok (.istore 5, 2) := by decide +kernel
theorem dX10_things_56 : decode cX10_things 56 = .ok (.iload_n 2, 1) := by decide +kernel
theorem dX10_things_57 : decode cX10_things 57 = .ok (.istore 6, 2) := by decide +kernel
theorem dX10_things_59 : decode cX10_things 59 = .ok (.iload 5, 2) := by decide +kernel
theorem dX10_things_61 : decode cX10_things 61 = .ok (.iload_n 3, 1) := by decide +kernel
theorem dX10_things_62 : decode cX10_things 62 = .ok (.if_icmp .ge 65, 3) := by decide +kernel
theorem dX10_things_65 : decode cX10_things 65 = .ok (.iload 6, 2) := by decide +kernel
theorem dX10_things_67 : decode cX10_things 67 = .ok (.aload 4, 2) := by decide +kernel
theorem dX10_things_69 : decode cX10_things 69 = .ok (.getfield 112, 3) := by decide +kernel
theorem dX10_things_72 : decode cX10_things 72 = .ok (.iconst 3, 1) := by decide +kernel
theorem dX10_things_73 : decode cX10_things 73 = .ok (.isub, 1) := by decide +kernel
theorem dX10_things_74 : decode cX10_things 74 = .ok (.if_icmp .gt 53, 3) := by decide +kernel
theorem dX10_things_77 : decode cX10_things 77 = .ok (.aload_n 0, 1) := by decide +kernel
theorem dX10_things_78 : decode cX10_things 78 = .ok (.aload 4, 2) := by decide +kernel
theorem dX10_things_80 : decode cX10_things 80 = .ok (.getfield 115, 3) := by decide +kernel
theorem dX10_things_83 : decode cX10_things 83 = .ok (.iload 6, 2) := by decide +kernel
theorem dX10_things_85 : decode cX10_things 85 = .ok (.laload, 1) := by decide +kernel
theorem dX10_things_86 : decode cX10_things 86 = .ok (.l2i, 1) := by decide +kernel
theorem dX10_things_87 : decode cX10_things 87 = .ok (.aload 4, 2) := by decide +kernel
theorem dX10_things_89 : decode cX10_things 89 = .ok (.getfield 115, 3) := by decide +kernel
theorem dX10_things_92 : decode cX10_things 92 = .ok (.iload 6, 2) := by decide +kernel
theorem dX10_things_94 : decode cX10_things 94 = .ok (.iconst 1, 1) := by decide +kernel
theorem dX10_things_95 : decode cX10_things 95 = .ok (.iadd, 1) := by decide +kernel
theorem dX10_things_96 : decode cX10_things 96 = .ok (.laload, 1) := by decide +kernel
theorem dX10_things_97 : decode cX10_things 97 = .ok (.l2i, 1) := by decide +kernel
theorem dX10_things_98 : decode cX10_things 98 = .ok (.aload 4, 2) := by decide +kernel
theorem dX10_things_100 : decode cX10_things 100 = .ok (.getfield 115, 3) := by decide +kernel
theorem dX10_things_103 : decode cX10_things 103 = .ok (.iload 6, 2) := by decide +kernel
theorem dX10_things_105 : decode cX10_things 105 = .ok (.iconst 2, 1) := by decide +kernel
theorem dX10_things_106 : decode cX10_things 106 = .ok (.iadd, 1) := by decide +kernel
theorem dX10_things_107 : decode cX10_things 107 = .ok (.laload, 1) := by decide +kernel
theorem dX10_things_108 : decode cX10_things 108 = .ok (.l2i, 1) := by decide +kernel
theorem dX10_things_109 : decode cX10_things 109 = .ok (.invokevirtual 86, 3) := by decide +kernel
theorem dX10_things_112 : decode cX10_things 112 = .ok (.ifCond .ge 6, 3) := by decide +kernel
theorem dX10_things_115 : decode cX10_things 115 = .ok (.goto 12, 3) := by decide +kernel
theorem dX10_things_118 : decode cX10_things 118 = .ok (.iinc 5 1, 3) := by decide +kernel
theorem dX10_things_121 : decode cX10_things 121 = .ok (.iinc 6 3, 3) := by decide +kernel
theorem dX10_things_124 : decode cX10_things 124 = .ok (.goto (-65), 3) := by decide +kernel
theorem dX10_things_127 : decode cX10_things 127 = .ok (.iload 5, 2) := by decide +kernel
theorem dX10_things_129 : decode cX10_things 129 = .ok (.ireturn, 1) := by decide +kernel
theorem dX10_rule_0 : decode cX10_rule 0 = .ok (.iload_n 1, 1) := by decide +kernel
theorem dX10_rule_1 : decode cX10_rule 1 = .ok (.ifCond .lt 26, 3) := by decide +kernel
theorem dX10_rule_4 : decode cX10_rule 4 = .ok (.iload_n 1, 1) := by decide +kernel
theorem dX10_rule_5 : decode cX10_rule 5 = .ok (.iconst 1, 1) := by decide +kernel
theorem dX10_rule_6 : decode cX10_rule 6 = .ok (.if_icmp .gt 21, 3) := by decide +kernel
theorem dX10_rule_9 : decode cX10_rule 9 = .ok (.iload_n 2, 1) := by decide +kernel
theorem dX10_rule_10 : decode cX10_rule 10 = .ok (.ifCond .lt 17, 3) := by decide +kernel
theorem dX10_rule_13 : decode cX10_rule 13 = .ok (.iload_n 2, 1) := by decide +kernel
theorem dX10_rule_14 : decode cX10_rule 14 = .ok (.iload_n 1, 1) := by decide +kernel
theorem dX10_rule_15 : decode cX10_rule 15 = .ok (.ifCond .ne 8, 3) := by decide +kernel
theorem dX10_rule_18 : decode cX10_rule 18 = .ok (.bipush 9, 2) := by decide +kernel
theorem dX10_rule_20 : decode cX10_rule 20 = .ok (.goto 4, 3) := by decide +kernel
theorem dX10_rule_23 : decode cX10_rule 23 = .ok (.iconst 1, 1) := by decide +kernel
theorem dX10_rule_24 : decode cX10_rule 24 = .ok (.if_icmp .le 5, 3) := by decide +kernel
theorem dX10_rule_27 : decode cX10_rule 27 = .ok (.iconst (-1), 1) := by decide +kernel
theorem dX10_rule_28 : decode cX10_rule 28 = .ok (.ireturn, 1) := by decide +kernel
theorem dX10_rule_29 : decode cX10_rule 29 = .ok (.iload_n 1, 1) := by decide +kernel
theorem dX10_rule_30 : decode cX10_rule 30 = .ok (.ifCond .ne 13, 3) := by decide +kernel
theorem dX10_rule_33 : decode cX10_rule 33 = .ok (.aload_n 0, 1) := by decide +kernel
theorem dX10_rule_34 : decode cX10_rule 34 = .ok (.getfield 12, 3) := by decide +kernel
theorem dX10_rule_37 : decode cX10_rule 37 = .ok (.getfield 119, 3) := by decide +kernel
theorem dX10_rule_40 : decode cX10_rule 40 = .ok (.goto 10, 3) := by decide +kernel
theorem dX10_rule_43 : decode cX10_rule 43 = .ok (.aload_n 0, 1) := by decide +kernel
theorem dX10_rule_44 : decode cX10_rule 44 = .ok (.getfield 12, 3) := by decide +kernel
theorem dX10_rule_47 : decode cX10_rule 47 = .ok (.getfield 122, 3) := by decide +kernel
theorem dX10_rule_50 : decode cX10_rule 50 = .ok (.istore_n 3, 1) := by decide +kernel
theorem dX10_rule_51 : decode cX10_rule 51 = .ok (.iload_n 1, 1) := by decide +kernel
theorem dX10_rule_52 : decode cX10_rule 52 = .ok (.ifCond .ne 14, 3) := by decide +kernel
theorem dX10_rule_55 : decode cX10_rule 55 = .ok (.aload_n 0, 1) := by decide +kernel
theorem dX10_rule_56 : decode cX10_rule 56 = .ok (.getfield 12, 3) := by decide +kernel
theorem dX10_rule_59 : decode cX10_rule 59 = .ok (.iload_n 2, 1) := by decide +kernel
theorem dX10_rule_60 : decode cX10_rule 60 = .ok (.putfield 119, 3) := by decide +kernel
theorem dX10_rule_63 : decode cX10_rule 63 = .ok (.goto 11, 3) := by decide +kernel
theorem dX10_rule_66 : decode cX10_rule 66 = .ok (.aload_n 0, 1) := by decide +kernel
theorem dX10_rule_67 : decode cX10_rule 67 = .ok (.getfield 12, 3) := by decide +kernel
theorem dX10_rule_70 : decode cX10_rule 70 = .ok (.iload_n 2, 1) := by decide +kernel
theorem dX10_rule_71 : decode cX10_rule 71 = .ok (.putfield 122, 3) := by decide +kernel
theorem dX10_rule_74 : decode cX10_rule 74 = .ok (.iload_n 3, 1) := by decide +kernel
theorem dX10_rule_75 : decode cX10_rule 75 = .ok (.ireturn, 1) := by decide +kernel
theorem dX10_mend_0 : decode cX10_mend 0 = .ok (.aload_n 0, 1) := by decide +kernel
theorem dX10_mend_1 : decode cX10_mend 1 = .ok (.getfield 12, 3) := by decide +kernel
theorem dX10_mend_4 : decode cX10_mend 4 = .ok (.iload_n 1, 1) := by decide +kernel
theorem dX10_mend_5 : decode cX10_mend 5 = .ok (.iload_n 2, 1) := by decide +kernel
theorem dX10_mend_6 : decode cX10_mend 6 = .ok (.iload_n 3, 1) := by decide +kernel
theorem dX10_mend_7 : decode cX10_mend 7 = .ok (.invokevirtual 125, 3) := by decide +kernel
theorem dX10_mend_10 : decode cX10_mend 10 = .ok (.ifCond .ne 5, 3) := by decide +kernel
theorem dX10_mend_13 : decode cX10_mend 13 = .ok (.iconst (-1), 1) := by decide +kernel
theorem dX10_mend_14 : decode cX10_mend 14 = .ok (.ireturn, 1) := by decide +kernel
theorem dX10_mend_15 : decode cX10_mend 15 = .ok (.aload_n 0, 1) := by decide +kernel
theorem dX10_mend_16 : decode cX10_mend 16 = .ok (.getfield 12, 3) := by decide +kernel
theorem dX10_mend_19 : decode cX10_mend 19 = .ok (.iload_n 1, 1) := by decide +kernel
theorem dX10_mend_20 : decode cX10_mend 20 = .ok (.iload_n 2, 1) := by decide +kernel
theorem dX10_mend_21 : decode cX10_mend 21 = .ok (.iload_n 3, 1) := by decide +kernel
theorem dX10_mend_22 : decode cX10_mend 22 = .ok (.invokevirtual 129, 3) := by decide +kernel
theorem dX10_mend_25 : decode cX10_mend 25 = .ok (.istore 4, 2) := by decide +kernel
theorem dX10_mend_27 : decode cX10_mend 27 = .ok (.iload 4, 2) := by decide +kernel
theorem dX10_mend_29 : decode cX10_mend 29 = .ok (.iload_n 3, 1) := by decide +kernel
theorem dX10_mend_30 : decode cX10_mend 30 = .ok (.if_icmp .eq 15, 3) := by decide +kernel
theorem dX10_mend_33 : decode cX10_mend 33 = .ok (.aload_n 0, 1) := by decide +kernel
theorem dX10_mend_34 : decode cX10_mend 34 = .ok (.getfield 57, 3) := by decide +kernel
theorem dX10_mend_37 : decode cX10_mend 37 = .ok (.iload_n 1, 1) := by decide +kernel
theorem dX10_mend_38 : decode cX10_mend 38 = .ok (.iload_n 2, 1) := by decide +kernel
theorem dX10_mend_39 : decode cX10_mend 39 = .ok (.iload 4, 2) := by decide +kernel
theorem dX10_mend_41 : decode cX10_mend 41 = .ok (.iload_n 3, 1) := by decide +kernel
theorem dX10_mend_42 : decode cX10_mend 42 = .ok (.invokevirtual 132, 3) := by decide +kernel
theorem dX10_mend_45 : decode cX10_mend 45 = .ok (.iload 4, 2) := by decide +kernel
theorem dX10_mend_47 : decode cX10_mend 47 = .ok (.ireturn, 1) := by decide +kernel
theorem dX10_of_0 : decode cX10_of 0 = .ok (.iload_n 2, 1) := by decide +kernel
theorem dX10_of_1 : decode cX10_of 1 = .ok (.ifCond .lt 31, 3) := by decide +kernel
theorem dX10_of_4 : decode cX10_of 4 = .ok (.iload_n 2, 1) := by decide +kernel
theorem dX10_of_5 : decode cX10_of 5 = .ok (.iconst 5, 1) := by decide +kernel
theorem dX10_of_6 : decode cX10_of 6 = .ok (.if_icmp .gt 26, 3) := by decide +kernel
theorem dX10_of_9 : decode cX10_of 9 = .ok (.aload_n 0, 1) := by decide +kernel
theorem dX10_of_10 : decode cX10_of 10 = .ok (.getfield 12, 3) := by decide +kernel
theorem dX10_of_13 : decode cX10_of 13 = .ok (.iload_n 1, 1) := by decide +kernel
theorem dX10_of_14 : decode cX10_of 14 = .ok (.invokevirtual 90, 3) := by decide +kernel
theorem dX10_of_17 : decode cX10_of 17 = .ok (.ifCond .eq 12, 3) := by decide +kernel
theorem dX10_of_20 : decode cX10_of 20 = .ok (.aload_n 0, 1) := by decide +kernel
theorem dX10_of_21 : decode cX10_of 21 = .ok (.iload_n 1, 1) := by decide +kernel
theorem dX10_of_22 : decode cX10_of 22 = .ok (.iload_n 2, 1) := by decide +kernel
theorem dX10_of_23 : decode cX10_of 23 = .ok (.invokevirtual 136, 3) := by decide +kernel
theorem dX10_of_26 : decode cX10_of 26 = .ok (.goto 5, 3) := by decide +kernel
theorem dX10_of_29 : decode cX10_of 29 = .ok (.ldc 139, 2) := by decide +kernel
theorem dX10_of_31 : decode cX10_of 31 = .ok (.ireturn, 1) := by decide +kernel
theorem dX10_of_32 : decode cX10_of 32 = .ok (.iload_n 2, 1) := by decide +kernel
theorem dX10_of_33 : decode cX10_of 33 = .ok (.bipush 10, 2) := by decide +kernel
theorem dX10_of_35 : decode cX10_of 35 = .ok (.if_icmp .lt 32, 3) := by decide +kernel
theorem dX10_of_38 : decode cX10_of 38 = .ok (.iload_n 2, 1) := by decide +kernel
theorem dX10_of_39 : decode cX10_of 39 = .ok (.bipush 19, 2) := by decide +kernel
theorem dX10_of_41 : decode cX10_of 41 = .ok (.if_icmp .gt 26, 3) := by decide +kernel
theorem dX10_of_44 : decode cX10_of 44 = .ok (.aload_n 0, 1) := by decide +kernel
theorem dX10_of_45 : decode cX10_of 45 = .ok (.getfield 12, 3) := by decide +kernel
theorem dX10_of_48 : decode cX10_of 48 = .ok (.iload_n 1, 1) := by decide +kernel
theorem dX10_of_49 : decode cX10_of 49 = .ok (.invokevirtual 140, 3) := by decide +kernel
theorem dX10_of_52 : decode cX10_of 52 = .ok (.ifCond .eq 12, 3) := by decide +kernel
theorem dX10_of_55 : decode cX10_of 55 = .ok (.aload_n 0, 1) := by decide +kernel
theorem dX10_of_56 : decode cX10_of 56 = .ok (.iload_n 1, 1) := by decide +kernel
theorem dX10_of_57 : decode cX10_of 57 = .ok (.iload_n 2, 1) := by decide +kernel
theorem dX10_of_58 : decode cX10_of 58 = .ok (.invokevirtual 143, 3) := by decide +kernel
theorem dX10_of_61 : decode cX10_of 61 = .ok (.goto 5, 3) := by decide +kernel
theorem dX10_of_64 : decode cX10_of 64 = .ok (.ldc 139, 2) := by decide +kernel
theorem dX10_of_66 : decode cX10_of 66 = .ok (.ireturn, 1) := by decide +kernel
theorem dX10_of_67 : decode cX10_of 67 = .ok (.ldc 139, 2) := by decide +kernel
theorem dX10_of_69 : decode cX10_of 69 = .ok (.ireturn, 1) := by decide +kernel
theorem dX10_ofPerson_0 : decode cX10_ofPerson 0 = .ok (.iload_n 2, 1) := by decide +kernel
theorem dX10_ofPerson_1 : decode cX10_ofPerson 1 = .ok (.tableswitch 85 0 4 #[35, 45, 55, 65, 75], 35) := by decide +kernel
theorem dX10_ofPerson_36 : decode cX10_ofPerson 36 = .ok (.aload_n 0, 1) := by decide +kernel
theorem dX10_ofPerson_37 : decode cX10_ofPerson 37 = .ok (.getfield 12, 3) := by decide +kernel
theorem dX10_ofPerson_40 : decode cX10_ofPerson 40 = .ok (.getfield 146, 3) := by decide +kernel
theorem dX10_ofPerson_43 : decode cX10_ofPerson 43 = .ok (.iload_n 1, 1) := by decide +kernel
theorem dX10_ofPerson_44 : decode cX10_ofPerson 44 = .ok (.iaload, 1) := by decide +kernel
theorem dX10_ofPerson_45 : decode cX10_ofPerson 45 = .ok (.ireturn, 1) := by decide +kernel
theorem dX10_ofPerson_46 : decode cX10_ofPerson 46 = .ok (.aload_n 0, 1) := by decide +kernel
theorem dX10_ofPerson_47 : decode cX10_ofPerson 47 = .ok (.getfield 12, 3) := by decide +kernel
theorem dX10_ofPerson_50 : decode cX10_ofPerson 50 = .ok (.getfield 150, 3) := by decide +kernel
theorem dX10_ofPerson_53 : decode cX10_ofPerson 53 = .ok (.iload_n 1, 1) := by decide +kernel
theorem dX10_ofPerson_54 : decode cX10_ofPerson 54 = .ok (.iaload, 1) := by decide +kernel
theorem dX10_ofPerson_55 : decode cX10_ofPerson 55 = .ok (.ireturn, 1) := by decide +kernel
theorem dX10_ofPerson_56 : decode cX10_ofPerson 56 = .ok (.aload_n 0, 1) := by decide +kernel
theorem dX10_ofPerson_57 : decode cX10_ofPerson 57 = .ok (.getfield 12, 3) := by decide +kernel
theorem dX10_ofPerson_60 : decode cX10_ofPerson 60 = .ok (.getfield 153, 3) := by decide +kernel
theorem dX10_ofPerson_63 : decode cX10_ofPerson 63 = .ok (.iload_n 1, 1) := by decide +kernel
theorem dX10_ofPerson_64 : decode cX10_ofPerson 64 = .ok (.iaload, 1) := by decide +kernel
theorem dX10_ofPerson_65 : decode cX10_ofPerson 65 = .ok (.ireturn, 1) := by decide +kernel
theorem dX10_ofPerson_66 : decode cX10_ofPerson 66 = .ok (.aload_n 0, 1) := by decide +kernel
theorem dX10_ofPerson_67 : decode cX10_ofPerson 67 = .ok (.getfield 44, 3) := by decide +kernel
theorem dX10_ofPerson_70 : decode cX10_ofPerson 70 = .ok (.getfield 156, 3) := by decide +kernel
theorem dX10_ofPerson_73 : decode cX10_ofPerson 73 = .ok (.iload_n 1, 1) := by decide +kernel
theorem dX10_ofPerson_74 : decode cX10_ofPerson 74 = .ok (.iaload, 1) := by decide +kernel
theorem dX10_ofPerson_75 : decode cX10_ofPerson 75 = .ok (.ireturn, 1) := by decide +kernel
theorem dX10_ofPerson_76 : decode cX10_ofPerson 76 = .ok (.aload_n 0, 1) := by decide +kernel
theorem dX10_ofPerson_77 : decode cX10_ofPerson 77 = .ok (.getfield 44, 3) := by decide +kernel
theorem dX10_ofPerson_80 : decode cX10_ofPerson 80 = .ok (.getfield 159, 3) := by decide +kernel
theorem dX10_ofPerson_83 : decode cX10_ofPerson 83 = .ok (.iload_n 1, 1) := by decide +kernel
theorem dX10_ofPerson_84 : decode cX10_ofPerson 84 = .ok (.iaload, 1) := by decide +kernel
theorem dX10_ofPerson_85 : decode cX10_ofPerson 85 = .ok (.ireturn, 1) := by decide +kernel
theorem dX10_ofPerson_86 : decode cX10_ofPerson 86 = .ok (.aload_n 0, 1) := by decide +kernel
theorem dX10_ofPerson_87 : decode cX10_ofPerson 87 = .ok (.getfield 44, 3) := by decide +kernel
theorem dX10_ofPerson_90 : decode cX10_ofPerson 90 = .ok (.getfield 162, 3) := by decide +kernel
theorem dX10_ofPerson_93 : decode cX10_ofPerson 93 = .ok (.iload_n 1, 1) := by decide +kernel
theorem dX10_ofPerson_94 : decode cX10_ofPerson 94 = .ok (.iaload, 1) := by decide +kernel
theorem dX10_ofPerson_95 : decode cX10_ofPerson 95 = .ok (.ireturn, 1) := by decide +kernel
theorem dX10_ofThing_0 : decode cX10_ofThing 0 = .ok (.iload_n 2, 1) := by decide +kernel
theorem dX10_ofThing_1 : decode cX10_ofThing 1 = .ok (.tableswitch 141 10 18 #[51, 61, 71, 81, 91, 101, 111, 121, 131], 51) := by decide +kernel
theorem dX10_ofThing_52 : decode cX10_ofThing 52 = .ok (.aload_n 0, 1) := by decide +kernel
theorem dX10_ofThing_53 : decode cX10_ofThing 53 = .ok (.getfield 12, 3) := by decide +kernel
theorem dX10_ofThing_56 : decode cX10_ofThing 56 = .ok (.getfield 165, 3) := by decide +kernel
theorem dX10_ofThing_59 : decode cX10_ofThing 59 = .ok (.iload_n 1, 1) := by decide +kernel
theorem dX10_ofThing_60 : decode cX10_ofThing 60 = .ok (.iaload, 1) := by decide +kernel
theorem dX10_ofThing_61 : decode cX10_ofThing 61 = .ok (.ireturn, 1) := by decide +kernel
theorem dX10_ofThing_62 : decode cX10_ofThing 62 = .ok (.aload_n 0, 1) := by decide +kernel
theorem dX10_ofThing_63 : decode cX10_ofThing 63 = .ok (.getfield 12, 3) := by decide +kernel
theorem dX10_ofThing_66 : decode cX10_ofThing 66 = .ok (.getfield 168, 3) := by decide +kernel
theorem dX10_ofThing_69 : decode cX10_ofThing 69 = .ok (.iload_n 1, 1) := by decide +kernel
theorem dX10_ofThing_70 : decode cX10_ofThing 70 = .ok (.iaload, 1) := by decide +kernel
theorem dX10_ofThing_71 : decode cX10_ofThing 71 = .ok (.ireturn, 1) := by decide +kernel
theorem dX10_ofThing_72 : decode cX10_ofThing 72 = .ok (.aload_n 0, 1) := by decide +kernel
theorem dX10_ofThing_73 : decode cX10_ofThing 73 = .ok (.getfield 12, 3) := by decide +kernel
theorem dX10_ofThing_76 : decode cX10_ofThing 76 = .ok (.getfield 171, 3) := by decide +kernel
theorem dX10_ofThing_79 : decode cX10_ofThing 79 = .ok (.iload_n 1, 1) := by decide +kernel
theorem dX10_ofThing_80 : decode cX10_ofThing 80 = .ok (.iaload, 1) := by decide +kernel
theorem dX10_ofThing_81 : decode cX10_ofThing 81 = .ok (.ireturn, 1) := by decide +kernel
theorem dX10_ofThing_82 : decode cX10_ofThing 82 = .ok (.aload_n 0, 1) := by decide +kernel
theorem dX10_ofThing_83 : decode cX10_ofThing 83 = .ok (.getfield 44, 3) := by decide +kernel
theorem dX10_ofThing_86 : decode cX10_ofThing 86 = .ok (.getfield 174, 3) := by decide +kernel
theorem dX10_ofThing_89 : decode cX10_ofThing 89 = .ok (.iload_n 1, 1) := by decide +kernel
theorem dX10_ofThing_90 : decode cX10_ofThing 90 = .ok (.iaload, 1) := by decide +kernel
theorem dX10_ofThing_91 : decode cX10_ofThing 91 = .ok (.ireturn, 1) := by decide +kernel
theorem dX10_ofThing_92 : decode cX10_ofThing 92 = .ok (.aload_n 0, 1) := by decide +kernel
theorem dX10_ofThing_93 : decode cX10_ofThing 93 = .ok (.getfield 12, 3) := by decide +kernel
theorem dX10_ofThing_96 : decode cX10_ofThing 96 = .ok (.getfield 177, 3) := by decide +kernel
theorem dX10_ofThing_99 : decode cX10_ofThing 99 = .ok (.iload_n 1, 1) := by decide +kernel
theorem dX10_ofThing_100 : decode cX10_ofThing 100 = .ok (.iaload, 1) := by decide +kernel
theorem dX10_ofThing_101 : decode cX10_ofThing 101 = .ok (.ireturn, 1) := by decide +kernel
theorem dX10_ofThing_102 : decode cX10_ofThing 102 = .ok (.aload_n 0, 1) := by decide +kernel
theorem dX10_ofThing_103 : decode cX10_ofThing 103 = .ok (.getfield 44, 3) := by decide +kernel
theorem dX10_ofThing_106 : decode cX10_ofThing 106 = .ok (.getfield 180, 3) := by decide +kernel
theorem dX10_ofThing_109 : decode cX10_ofThing 109 = .ok (.iload_n 1, 1) := by decide +kernel
theorem dX10_ofThing_110 : decode cX10_ofThing 110 = .ok (.iaload, 1) := by decide +kernel
theorem dX10_ofThing_111 : decode cX10_ofThing 111 = .ok (.ireturn, 1) := by decide +kernel
theorem dX10_ofThing_112 : decode cX10_ofThing 112 = .ok (.aload_n 0, 1) := by decide +kernel
theorem dX10_ofThing_113 : decode cX10_ofThing 113 = .ok (.getfield 44, 3) := by decide +kernel
theorem dX10_ofThing_116 : decode cX10_ofThing 116 = .ok (.getfield 183, 3) := by decide +kernel
theorem dX10_ofThing_119 : decode cX10_ofThing 119 = .ok (.iload_n 1, 1) := by decide +kernel
theorem dX10_ofThing_120 : decode cX10_ofThing 120 = .ok (.iaload, 1) := by decide +kernel
theorem dX10_ofThing_121 : decode cX10_ofThing 121 = .ok (.ireturn, 1) := by decide +kernel
theorem dX10_ofThing_122 : decode cX10_ofThing 122 = .ok (.aload_n 0, 1) := by decide +kernel
theorem dX10_ofThing_123 : decode cX10_ofThing 123 = .ok (.getfield 44, 3) := by decide +kernel
theorem dX10_ofThing_126 : decode cX10_ofThing 126 = .ok (.getfield 186, 3) := by decide +kernel
theorem dX10_ofThing_129 : decode cX10_ofThing 129 = .ok (.iload_n 1, 1) := by decide +kernel
theorem dX10_ofThing_130 : decode cX10_ofThing 130 = .ok (.iaload, 1) := by decide +kernel
theorem dX10_ofThing_131 : decode cX10_ofThing 131 = .ok (.ireturn, 1) := by decide +kernel
theorem dX10_ofThing_132 : decode cX10_ofThing 132 = .ok (.aload_n 0, 1) := by decide +kernel
theorem dX10_ofThing_133 : decode cX10_ofThing 133 = .ok (.getfield 44, 3) := by decide +kernel
theorem dX10_ofThing_136 : decode cX10_ofThing 136 = .ok (.getfield 189, 3) := by decide +kernel
theorem dX10_ofThing_139 : decode cX10_ofThing 139 = .ok (.iload_n 1, 1) := by decide +kernel
theorem dX10_ofThing_140 : decode cX10_ofThing 140 = .ok (.iaload, 1) := by decide +kernel
theorem dX10_ofThing_141 : decode cX10_ofThing 141 = .ok (.ireturn, 1) := by decide +kernel
theorem dX10_ofThing_142 : decode cX10_ofThing 142 = .ok (.aload_n 0, 1) := by decide +kernel
theorem dX10_ofThing_143 : decode cX10_ofThing 143 = .ok (.getfield 19, 3) := by decide +kernel
theorem dX10_ofThing_146 : decode cX10_ofThing 146 = .ok (.iload_n 1, 1) := by decide +kernel
theorem dX10_ofThing_147 : decode cX10_ofThing 147 = .ok (.aload_n 0, 1) := by decide +kernel
theorem dX10_ofThing_148 : decode cX10_ofThing 148 = .ok (.getfield 44, 3) := by decide +kernel
theorem dX10_ofThing_151 : decode cX10_ofThing 151 = .ok (.getfield 174, 3) := by decide +kernel
theorem dX10_ofThing_154 : decode cX10_ofThing 154 = .ok (.iload_n 1, 1) := by decide +kernel
theorem dX10_ofThing_155 : decode cX10_ofThing 155 = .ok (.iaload, 1) := by decide +kernel
theorem dX10_ofThing_156 : decode cX10_ofThing 156 = .ok (.aload_n 0, 1) := by decide +kernel
theorem dX10_ofThing_157 : decode cX10_ofThing 157 = .ok (.getfield 44, 3) := by decide +kernel
theorem dX10_ofThing_160 : decode cX10_ofThing 160 = .ok (.getfield 186, 3) := by decide +kernel
theorem dX10_ofThing_163 : decode cX10_ofThing 163 = .ok (.iload_n 1, 1) := by decide +kernel
theorem dX10_ofThing_164 : decode cX10_ofThing 164 = .ok (.iaload, 1) := by decide +kernel
theorem dX10_ofThing_165 : decode cX10_ofThing 165 = .ok (.aload_n 0, 1) := by decide +kernel
theorem dX10_ofThing_166 : decode cX10_ofThing 166 = .ok (.getfield 44, 3) := by decide +kernel
theorem dX10_ofThing_169 : decode cX10_ofThing 169 = .ok (.getfield 180, 3) := by decide +kernel
theorem dX10_ofThing_172 : decode cX10_ofThing 172 = .ok (.iload_n 1, 1) := by decide +kernel
theorem dX10_ofThing_173 : decode cX10_ofThing 173 = .ok (.iaload, 1) := by decide +kernel
theorem dX10_ofThing_174 : decode cX10_ofThing 174 = .ok (.bipush (-2), 2) := by decide +kernel
theorem dX10_ofThing_176 : decode cX10_ofThing 176 = .ok (.if_icmp .eq 7, 3) := by decide +kernel
theorem dX10_ofThing_179 : decode cX10_ofThing 179 = .ok (.iconst 1, 1) := by decide +kernel
theorem dX10_ofThing_180 : decode cX10_ofThing 180 = .ok (.goto 4, 3) := by decide +kernel
theorem dX10_ofThing_183 : decode cX10_ofThing 183 = .ok (.iconst 0, 1) := by decide +kernel
theorem dX10_ofThing_184 : decode cX10_ofThing 184 = .ok (.invokevirtual 192, 3) := by decide +kernel
theorem dX10_ofThing_187 : decode cX10_ofThing 187 = .ok (.ireturn, 1) := by decide +kernel
theorem dX10_feed_0 : decode cX10_feed 0 = .ok (.iload_n 1, 1) := by decide +kernel
theorem dX10_feed_1 : decode cX10_feed 1 = .ok (.ifCond .lt 10, 3) := by decide +kernel
theorem dX10_feed_4 : decode cX10_feed 4 = .ok (.iload_n 1, 1) := by decide +kernel
theorem dX10_feed_5 : decode cX10_feed 5 = .ok (.sipush 255, 3) := by decide +kernel
theorem dX10_feed_8 : decode cX10_feed 8 = .ok (.if_icmp .le 5, 3) := by decide +kernel
theorem dX10_feed_11 : decode cX10_feed 11 = .ok (.iconst (-1), 1) := by decide +kernel
theorem dX10_feed_12 : decode cX10_feed 12 = .ok (.ireturn, 1) := by decide +kernel
theorem dX10_feed_13 : decode cX10_feed 13 = .ok (.aload_n 0, 1) := by decide +kernel
theorem dX10_feed_14 : decode cX10_feed 14 = .ok (.getfield 19, 3) := by decide +kernel
theorem dX10_feed_17 : decode cX10_feed 17 = .ok (.iload_n 1, 1) := by decide +kernel
theorem dX10_feed_18 : decode cX10_feed 18 = .ok (.invokevirtual 196, 3) := by decide +kernel
theorem dX10_feed_21 : decode cX10_feed 21 = .ok (.ifCond .eq 13, 3) := by decide +kernel
theorem dX10_feed_24 : decode cX10_feed 24 = .ok (.aload_n 0, 1) := by decide +kernel
theorem dX10_feed_25 : decode cX10_feed 25 = .ok (.getfield 19, 3) := by decide +kernel
theorem dX10_feed_28 : decode cX10_feed 28 = .ok (.getfield 199, 3) := by decide +kernel
theorem dX10_feed_31 : decode cX10_feed 31 = .ok (.goto 5, 3) := by decide +kernel
theorem dX10_feed_34 : decode cX10_feed 34 = .ok (.bipush (-3), 2) := by decide +kernel
theorem dX10_feed_36 : decode cX10_feed 36 = .ok (.ireturn, 1) := by decide +kernel
theorem dX10_law_0 : decode cX10_law 0 = .ok (.aload_n 0, 1) := by decide +kernel
theorem dX10_law_1 : decode cX10_law 1 = .ok (.getfield 19, 3) := by decide +kernel
theorem dX10_law_4 : decode cX10_law 4 = .ok (.invokevirtual 202, 3) := by decide +kernel
theorem dX10_law_7 : decode cX10_law 7 = .ok (.istore_n 1, 1) := by decide +kernel
theorem dX10_law_8 : decode cX10_law 8 = .ok (.iload_n 1, 1) := by decide +kernel
theorem dX10_law_9 : decode cX10_law 9 = .ok (.ifCond .lt 8, 3) := by decide +kernel
theorem dX10_law_12 : decode cX10_law 12 = .ok (.bipush (-100), 2) := by decide +kernel
theorem dX10_law_14 : decode cX10_law 14 = .ok (.iload_n 1, 1) := by decide +kernel
theorem dX10_law_15 : decode cX10_law 15 = .ok (.isub, 1) := by decide +kernel
theorem dX10_law_16 : decode cX10_law 16 = .ok (.ireturn, 1) := by decide +kernel
theorem dX10_law_17 : decode cX10_law 17 = .ok (.aload_n 0, 1) := by decide +kernel
theorem dX10_law_18 : decode cX10_law 18 = .ok (.getfield 12, 3) := by decide +kernel
theorem dX10_law_21 : decode cX10_law 21 = .ok (.dup, 1) := by decide +kernel
theorem dX10_law_22 : decode cX10_law 22 = .ok (.getfield 206, 3) := by decide +kernel
theorem dX10_law_25 : decode cX10_law 25 = .ok (.iconst 1, 1) := by decide +kernel
theorem dX10_law_26 : decode cX10_law 26 = .ok (.iadd, 1) := by decide +kernel
theorem dX10_law_27 : decode cX10_law 27 = .ok (.putfield 206, 3) := by decide +kernel
theorem dX10_law_30 : decode cX10_law 30 = .ok (.iconst 1, 1) := by decide +kernel
theorem dX10_law_31 : decode cX10_law 31 = .ok (.ireturn, 1) := by decide +kernel
theorem dX10_fix_0 : decode cX10_fix 0 = .ok (.iload_n 1, 1) := by decide +kernel
theorem dX10_fix_1 : decode cX10_fix 1 = .ok (.ifCond .lt 31, 3) := by decide +kernel
theorem dX10_fix_4 : decode cX10_fix 4 = .ok (.aload_n 0, 1) := by decide +kernel
theorem dX10_fix_5 : decode cX10_fix 5 = .ok (.getfield 12, 3) := by decide +kernel
theorem dX10_fix_8 : decode cX10_fix 8 = .ok (.iload_n 1, 1) := by decide +kernel
theorem dX10_fix_9 : decode cX10_fix 9 = .ok (.bipush 10, 2) := by decide +kernel
theorem dX10_fix_11 : decode cX10_fix 11 = .ok (.idiv, 1) := by decide +kernel
theorem dX10_fix_12 : decode cX10_fix 12 = .ok (.invokevirtual 140, 3) := by decide +kernel
theorem dX10_fix_15 : decode cX10_fix 15 = .ok (.ifCond .eq 17, 3) := by decide +kernel
theorem dX10_fix_18 : decode cX10_fix 18 = .ok (.aload_n 0, 1) := by decide +kernel
theorem dX10_fix_19 : decode cX10_fix 19 = .ok (.getfield 12, 3) := by decide +kernel
theorem dX10_fix_22 : decode cX10_fix 22 = .ok (.iload_n 1, 1) := by decide +kernel
theorem dX10_fix_23 : decode cX10_fix 23 = .ok (.bipush 10, 2) := by decide +kernel
theorem dX10_fix_25 : decode cX10_fix 25 = .ok (.irem, 1) := by decide +kernel
theorem dX10_fix_26 : decode cX10_fix 26 = .ok (.invokevirtual 90, 3) := by decide +kernel
theorem dX10_fix_29 : decode cX10_fix 29 = .ok (.ifCond .ne 5, 3) := by decide +kernel
theorem dX10_fix_32 : decode cX10_fix 32 = .ok (.iconst (-1), 1) := by decide +kernel
theorem dX10_fix_33 : decode cX10_fix 33 = .ok (.ireturn, 1) := by decide +kernel
theorem dX10_fix_34 : decode cX10_fix 34 = .ok (.iload_n 1, 1) := by decide +kernel
theorem dX10_fix_35 : decode cX10_fix 35 = .ok (.bipush 10, 2) := by decide +kernel
theorem dX10_fix_37 : decode cX10_fix 37 = .ok (.idiv, 1) := by decide +kernel
theorem dX10_fix_38 : decode cX10_fix 38 = .ok (.istore_n 2, 1) := by decide +kernel
theorem dX10_fix_39 : decode cX10_fix 39 = .ok (.iload_n 1, 1) := by decide +kernel
theorem dX10_fix_40 : decode cX10_fix 40 = .ok (.bipush 10, 2) := by decide +kernel
theorem dX10_fix_42 : decode cX10_fix 42 = .ok (.irem, 1) := by decide +kernel
theorem dX10_fix_43 : decode cX10_fix 43 = .ok (.istore_n 3, 1) := by decide +kernel
theorem dX10_fix_44 : decode cX10_fix 44 = .ok (.aload_n 0, 1) := by decide +kernel
theorem dX10_fix_45 : decode cX10_fix 45 = .ok (.getfield 44, 3) := by decide +kernel
theorem dX10_fix_48 : decode cX10_fix 48 = .ok (.iload_n 2, 1) := by decide +kernel
theorem dX10_fix_49 : decode cX10_fix 49 = .ok (.iload_n 3, 1) := by decide +kernel
theorem dX10_fix_50 : decode cX10_fix 50 = .ok (.aload_n 0, 1) := by decide +kernel
theorem dX10_fix_51 : decode cX10_fix 51 = .ok (.getfield 12, 3) := by decide +kernel
theorem dX10_fix_54 : decode cX10_fix 54 = .ok (.getfield 146, 3) := by decide +kernel
theorem dX10_fix_57 : decode cX10_fix 57 = .ok (.iload_n 3, 1) := by decide +kernel
theorem dX10_fix_58 : decode cX10_fix 58 = .ok (.iaload, 1) := by decide +kernel
theorem dX10_fix_59 : decode cX10_fix 59 = .ok (.aload_n 0, 1) := by decide +kernel
theorem dX10_fix_60 : decode cX10_fix 60 = .ok (.getfield 12, 3) := by decide +kernel
theorem dX10_fix_63 : decode cX10_fix 63 = .ok (.getfield 150, 3) := by decide +kernel
theorem dX10_fix_66 : decode cX10_fix 66 = .ok (.iload_n 3, 1) := by decide +kernel
theorem dX10_fix_67 : decode cX10_fix 67 = .ok (.iaload, 1) := by decide +kernel
theorem dX10_fix_68 : decode cX10_fix 68 = .ok (.invokevirtual 209, 3) := by decide +kernel
theorem dX10_fix_71 : decode cX10_fix 71 = .ok (.aload_n 0, 1) := by decide +kernel
theorem dX10_fix_72 : decode cX10_fix 72 = .ok (.getfield 44, 3) := by decide +kernel
theorem dX10_fix_75 : decode cX10_fix 75 = .ok (.getfield 174, 3) := by decide +kernel
theorem dX10_fix_78 : decode cX10_fix 78 = .ok (.iload_n 2, 1) := by decide +kernel
theorem dX10_fix_79 : decode cX10_fix 79 = .ok (.iaload, 1) := by decide +kernel
theorem dX10_fix_80 : decode cX10_fix 80 = .ok (.ireturn, 1) := by decide +kernel
theorem dX10_years_0 : decode cX10_years 0 = .ok (.iload_n 2, 1) := by decide +kernel
theorem dX10_years_1 : decode cX10_years 1 = .ok (.iconst 1, 1) := by decide +kernel
theorem dX10_years_2 : decode cX10_years 2 = .ok (.if_icmp .lt 9, 3) := by decide +kernel
theorem dX10_years_5 : decode cX10_years 5 = .ok (.iload_n 2, 1) := by decide +kernel
theorem dX10_years_6 : decode cX10_years 6 = .ok (.bipush 30, 2) := by decide +kernel
theorem dX10_years_8 : decode cX10_years 8 = .ok (.if_icmp .le 5, 3) := by decide +kernel
theorem dX10_years_11 : decode cX10_years 11 = .ok (.iconst (-1), 1) := by decide +kernel
theorem dX10_years_12 : decode cX10_years 12 = .ok (.ireturn, 1) := by decide +kernel
theorem dX10_years_13 : decode cX10_years 13 = .ok (.aload_n 0, 1) := by decide +kernel
theorem dX10_years_14 : decode cX10_years 14 = .ok (.getfield 37, 3) := by decide +kernel
theorem dX10_years_17 : decode cX10_years 17 = .ok (.iload_n 1, 1) := by decide +kernel
theorem dX10_years_18 : decode cX10_years 18 = .ok (.invokevirtual 212, 3) := by decide +kernel
theorem dX10_years_21 : decode cX10_years 21 = .ok (.iconst 0, 1) := by decide +kernel
theorem dX10_years_22 : decode cX10_years 22 = .ok (.istore_n 3, 1) := by decide +kernel
theorem dX10_years_23 : decode cX10_years 23 = .ok (.iconst 0, 1) := by decide +kernel
theorem dX10_years_24 : decode cX10_years 24 = .ok (.istore 4, 2) := by decide +kernel
theorem dX10_years_26 : decode cX10_years 26 = .ok (.iload 4, 2) := by decide +kernel
theorem dX10_years_28 : decode cX10_years 28 = .ok (.iload_n 2, 1) := by decide +kernel
theorem dX10_years_29 : decode cX10_years 29 = .ok (.if_icmp .ge 23, 3) := by decide +kernel
theorem dX10_years_32 : decode cX10_years 32 = .ok (.iload_n 3, 1) := by decide +kernel
theorem dX10_years_33 : decode cX10_years 33 = .ok (.aload_n 0, 1) := by decide +kernel
theorem dX10_years_34 : decode cX10_years 34 = .ok (.getfield 37, 3) := by decide +kernel
theorem dX10_years_37 : decode cX10_years 37 = .ok (.aload_n 0, 1) := by decide +kernel
theorem dX10_years_38 : decode cX10_years 38 = .ok (.getfield 44, 3) := by decide +kernel
theorem dX10_years_41 : decode cX10_years 41 = .ok (.invokevirtual 215, 3) := by decide +kernel
theorem dX10_years_44 : decode cX10_years 44 = .ok (.iadd, 1) := by decide +kernel
theorem dX10_years_45 : decode cX10_years 45 = .ok (.istore_n 3, 1) := by decide +kernel
theorem dX10_years_46 : decode cX10_years 46 = .ok (.iinc 4 1, 3) := by decide +kernel
theorem dX10_years_49 : decode cX10_years 49 = .ok (.goto (-23), 3) := by decide +kernel
theorem dX10_years_52 : decode cX10_years 52 = .ok (.aload_n 0, 1) := by decide +kernel
theorem dX10_years_53 : decode cX10_years 53 = .ok (.aload_n 0, 1) := by decide +kernel
theorem dX10_years_54 : decode cX10_years 54 = .ok (.getfield 12, 3) := by decide +kernel
theorem dX10_years_57 : decode cX10_years 57 = .ok (.getfield 94, 3) := by decide +kernel
theorem dX10_years_60 : decode cX10_years 60 = .ok (.putfield 219, 3) := by decide +kernel
theorem dX10_years_63 : decode cX10_years 63 = .ok (.iload_n 3, 1) := by decide +kernel
theorem dX10_years_64 : decode cX10_years 64 = .ok (.ireturn, 1) := by decide +kernel
theorem dX10_paid_0 : decode cX10_paid 0 = .ok (.aload_n 0, 1) := by decide +kernel
theorem dX10_paid_1 : decode cX10_paid 1 = .ok (.getfield 12, 3) := by decide +kernel
theorem dX10_paid_4 : decode cX10_paid 4 = .ok (.iload_n 1, 1) := by decide +kernel
theorem dX10_paid_5 : decode cX10_paid 5 = .ok (.invokevirtual 140, 3) := by decide +kernel
theorem dX10_paid_8 : decode cX10_paid 8 = .ok (.ifCond .ne 5, 3) := by decide +kernel
theorem dX10_paid_11 : decode cX10_paid 11 = .ok (.iconst (-1), 1) := by decide +kernel
theorem dX10_paid_12 : decode cX10_paid 12 = .ok (.ireturn, 1) := by decide +kernel
theorem dX10_paid_13 : decode cX10_paid 13 = .ok (.iload_n 1, 1) := by decide +kernel
theorem dX10_paid_14 : decode cX10_paid 14 = .ok (.aload_n 0, 1) := by decide +kernel
theorem dX10_paid_15 : decode cX10_paid 15 = .ok (.getfield 219, 3) := by decide +kernel
theorem dX10_paid_18 : decode cX10_paid 18 = .ok (.if_icmp .ge 15, 3) := by decide +kernel
theorem dX10_paid_21 : decode cX10_paid 21 = .ok (.aload_n 0, 1) := by decide +kernel
theorem dX10_paid_22 : decode cX10_paid 22 = .ok (.getfield 44, 3) := by decide +kernel
theorem dX10_paid_25 : decode cX10_paid 25 = .ok (.getfield 222, 3) := by decide +kernel
theorem dX10_paid_28 : decode cX10_paid 28 = .ok (.iload_n 1, 1) := by decide +kernel
theorem dX10_paid_29 : decode cX10_paid 29 = .ok (.iaload, 1) := by decide +kernel
theorem dX10_paid_30 : decode cX10_paid 30 = .ok (.goto 5, 3) := by decide +kernel
theorem dX10_paid_33 : decode cX10_paid 33 = .ok (.bipush (-5), 2) := by decide +kernel
theorem dX10_paid_35 : decode cX10_paid 35 = .ok (.ireturn, 1) := by decide +kernel
theorem dX10_layer_0 : decode cX10_layer 0 = .ok (.aload_n 0, 1) := by decide +kernel
theorem dX10_layer_1 : decode cX10_layer 1 = .ok (.getfield 12, 3) := by decide +kernel
theorem dX10_layer_4 : decode cX10_layer 4 = .ok (.iload_n 1, 1) := by decide +kernel
theorem dX10_layer_5 : decode cX10_layer 5 = .ok (.invokevirtual 140, 3) := by decide +kernel
theorem dX10_layer_8 : decode cX10_layer 8 = .ok (.ifCond .eq 20, 3) := by decide +kernel
theorem dX10_layer_11 : decode cX10_layer 11 = .ok (.iload_n 2, 1) := by decide +kernel
theorem dX10_layer_12 : decode cX10_layer 12 = .ok (.ifCond .lt 16, 3) := by decide +kernel
theorem dX10_layer_15 : decode cX10_layer 15 = .ok (.iload_n 2, 1) := by decide +kernel
theorem dX10_layer_16 : decode cX10_layer 16 = .ok (.aload_n 0, 1) := by decide +kernel
theorem dX10_layer_17 : decode cX10_layer 17 = .ok (.getfield 44, 3) := by decide +kernel
theorem dX10_layer_20 : decode cX10_layer 20 = .ok (.getfield 189, 3) := by decide +kernel
theorem dX10_layer_23 : decode cX10_layer 23 = .ok (.iload_n 1, 1) := by decide +kernel
theorem dX10_layer_24 : decode cX10_layer 24 = .ok (.iaload, 1) := by decide +kernel
theorem dX10_layer_25 : decode cX10_layer 25 = .ok (.if_icmp .lt 5, 3) := by decide +kernel
theorem dX10_layer_28 : decode cX10_layer 28 = .ok (.iconst (-1), 1) := by decide +kernel
theorem dX10_layer_29 : decode cX10_layer 29 = .ok (.ireturn, 1) := by decide +kernel
theorem dX10_layer_30 : decode cX10_layer 30 = .ok (.aload_n 0, 1) := by decide +kernel
theorem dX10_layer_31 : decode cX10_layer 31 = .ok (.getfield 44, 3) := by decide +kernel
theorem dX10_layer_34 : decode cX10_layer 34 = .ok (.iload_n 1, 1) := by decide +kernel
theorem dX10_layer_35 : decode cX10_layer 35 = .ok (.iload_n 2, 1) := by decide +kernel
theorem dX10_layer_36 : decode cX10_layer 36 = .ok (.invokevirtual 225, 3) := by decide +kernel
theorem dX10_layer_39 : decode cX10_layer 39 = .ok (.ireturn, 1) := by decide +kernel
theorem dX10_told_0 : decode cX10_told 0 = .ok (.aload_n 0, 1) := by decide +kernel
theorem dX10_told_1 : decode cX10_told 1 = .ok (.iload_n 1, 1) := by decide +kernel
theorem dX10_told_2 : decode cX10_told 2 = .ok (.invokevirtual 102, 3) := by decide +kernel
theorem dX10_told_5 : decode cX10_told 5 = .ok (.astore_n 3, 1) := by decide +kernel
theorem dX10_told_6 : decode cX10_told 6 = .ok (.aload_n 3, 1) := by decide +kernel
theorem dX10_told_7 : decode cX10_told 7 = .ok (.ifnull 14, 3) := by decide +kernel
theorem dX10_told_10 : decode cX10_told 10 = .ok (.aload_n 0, 1) := by decide +kernel
theorem dX10_told_11 : decode cX10_told 11 = .ok (.getfield 12, 3) := by decide +kernel
theorem dX10_told_14 : decode cX10_told 14 = .ok (.iload_n 2, 1) := by decide +kernel
theorem dX10_told_15 : decode cX10_told 15 = .ok (.invokevirtual 140, 3) := by decide +kernel
theorem dX10_told_18 : decode cX10_told 18 = .ok (.ifCond .ne 5, 3) := by decide +kernel
theorem dX10_told_21 : decode cX10_told 21 = .ok (.iconst (-1), 1) := by decide +kernel
theorem dX10_told_22 : decode cX10_told 22 = .ok (.ireturn, 1) := by decide +kernel
theorem dX10_told_23 : decode cX10_told 23 = .ok (.aload_n 3, 1) := by decide +kernel
theorem dX10_told_24 : decode cX10_told 24 = .ok (.getfield 106, 3) := by decide +kernel
theorem dX10_told_27 : decode cX10_told 27 = .ok (.ifCond .ne 6, 3) := by decide +kernel
theorem dX10_told_30 : decode cX10_told 30 = .ok (.bipush (-11), 2) := by decide +kernel
theorem dX10_told_32 : decode cX10_told 32 = .ok (.ireturn, 1) := by decide +kernel
theorem dX10_told_33 : decode cX10_told 33 = .ok (.aload_n 3, 1) := by decide +kernel
theorem dX10_told_34 : decode cX10_told 34 = .ok (.iconst 0, 1) := by decide +kernel
theorem dX10_told_35 : decode cX10_told 35 = .ok (.invokevirtual 109, 3) := by decide +kernel
theorem dX10_told_38 : decode cX10_told 38 = .ok (.ifCond .ne 6, 3) := by decide +kernel
theorem dX10_told_41 : decode cX10_told 41 = .ok (.bipush (-12), 2) := by decide +kernel
theorem dX10_told_43 : decode cX10_told 43 = .ok (.ireturn, 1) := by decide +kernel
theorem dX10_told_44 : decode cX10_told 44 = .ok (.aload_n 0, 1) := by decide +kernel
theorem dX10_told_45 : decode cX10_told 45 = .ok (.getfield 44, 3) := by decide +kernel
theorem dX10_told_48 : decode cX10_told 48 = .ok (.getfield 189, 3) := by decide +kernel
theorem dX10_told_51 : decode cX10_told 51 = .ok (.iload_n 2, 1) := by decide +kernel
theorem dX10_told_52 : decode cX10_told 52 = .ok (.iaload, 1) := by decide +kernel
theorem dX10_told_53 : decode cX10_told 53 = .ok (.istore 4, 2) := by decide +kernel
theorem dX10_told_55 : decode cX10_told 55 = .ok (.iload 4, 2) := by decide +kernel
theorem dX10_told_57 : decode cX10_told 57 = .ok (.aload_n 3, 1) := by decide +kernel
theorem dX10_told_58 : decode cX10_told 58 = .ok (.getfield 112, 3) := by decide +kernel
theorem dX10_told_61 : decode cX10_told 61 = .ok (.invokestatic 228, 3) := by decide +kernel
theorem dX10_told_64 : decode cX10_told 64 = .ok (.istore 5, 2) := by decide +kernel
theorem dX10_told_66 : decode cX10_told 66 = .ok (.iconst 0, 1) := by decide +kernel
theorem dX10_told_67 : decode cX10_told 67 = .ok (.istore 6, 2) := by decide +kernel
theorem dX10_told_69 : decode cX10_told 69 = .ok (.iload 6, 2) := by decide +kernel
theorem dX10_told_71 : decode cX10_told 71 = .ok (.iload 5, 2) := by decide +kernel
theorem dX10_told_73 : decode cX10_told 73 = .ok (.if_icmp .ge 34, 3) := by decide +kernel
theorem dX10_told_76 : decode cX10_told 76 = .ok (.aload_n 3, 1) := by decide +kernel
theorem dX10_told_77 : decode cX10_told 77 = .ok (.getfield 115, 3) := by decide +kernel
theorem dX10_told_80 : decode cX10_told 80 = .ok (.iload 6, 2) := by decide +kernel
theorem dX10_told_82 : decode cX10_told 82 = .ok (.laload, 1) := by decide +kernel
theorem dX10_told_83 : decode cX10_told 83 = .ok (.aload_n 0, 1) := by decide +kernel
theorem dX10_told_84 : decode cX10_told 84 = .ok (.getfield 44, 3) := by decide +kernel
theorem dX10_told_87 : decode cX10_told 87 = .ok (.iload_n 2, 1) := by decide +kernel
theorem dX10_told_88 : decode cX10_told 88 = .ok (.iload 6, 2) := by decide +kernel
theorem dX10_told_90 : decode cX10_told 90 = .ok (.invokevirtual 225, 3) := by decide +kernel
theorem dX10_told_93 : decode cX10_told 93 = .ok (.i2l, 1) := by decide +kernel
theorem dX10_told_94 : decode cX10_told 94 = .ok (.lcmp, 1) := by decide +kernel
theorem dX10_told_95 : decode cX10_told 95 = .ok (.ifCond .eq 6, 3) := by decide +kernel
theorem dX10_told_98 : decode cX10_told 98 = .ok (.iload 6, 2) := by decide +kernel
theorem dX10_told_100 : decode cX10_told 100 = .ok (.ireturn, 1) := by decide +kernel
theorem dX10_told_101 : decode cX10_told 101 = .ok (.iinc 6 1, 3) := by decide +kernel
theorem dX10_told_104 : decode cX10_told 104 = .ok (.goto (-35), 3) := by decide +kernel
theorem dX10_told_107 : decode cX10_told 107 = .ok (.iload 4, 2) := by decide +kernel
theorem dX10_told_109 : decode cX10_told 109 = .ok (.aload_n 3, 1) := by decide +kernel
theorem dX10_told_110 : decode cX10_told 110 = .ok (.getfield 112, 3) := by decide +kernel
theorem dX10_told_113 : decode cX10_told 113 = .ok (.if_icmp .ne 8, 3) := by decide +kernel
theorem dX10_told_116 : decode cX10_told 116 = .ok (.bipush (-2), 2) := by decide +kernel
theorem dX10_told_118 : decode cX10_told 118 = .ok (.goto 5, 3) := by decide +kernel
theorem dX10_told_121 : decode cX10_told 121 = .ok (.iload 5, 2) := by decide +kernel
theorem dX10_told_123 : decode cX10_told 123 = .ok (.ireturn, 1) := by decide +kernel
theorem dX10_over_0 : decode cX10_over 0 = .ok (.iload_n 1, 1) := by decide +kernel
theorem dX10_over_1 : decode cX10_over 1 = .ok (.ifCond .lt 42, 3) := by decide +kernel
theorem dX10_over_4 : decode cX10_over 4 = .ok (.aload_n 0, 1) := by decide +kernel
theorem dX10_over_5 : decode cX10_over 5 = .ok (.getfield 12, 3) := by decide +kernel
theorem dX10_over_8 : decode cX10_over 8 = .ok (.iload_n 1, 1) := by decide +kernel
theorem dX10_over_9 : decode cX10_over 9 = .ok (.bipush 10, 2) := by decide +kernel
theorem dX10_over_11 : decode cX10_over 11 = .ok (.idiv, 1) := by decide +kernel
theorem dX10_over_12 : decode cX10_over 12 = .ok (.invokevirtual 90, 3) := by decide +kernel
theorem dX10_over_15 : decode cX10_over 15 = .ok (.ifCond .eq 28, 3) := by decide +kernel
theorem dX10_over_18 : decode cX10_over 18 = .ok (.aload_n 0, 1) := by decide +kernel
theorem dX10_over_19 : decode cX10_over 19 = .ok (.getfield 12, 3) := by decide +kernel
theorem dX10_over_22 : decode cX10_over 22 = .ok (.iload_n 1, 1) := by decide +kernel
theorem dX10_over_23 : decode cX10_over 23 = .ok (.bipush 10, 2) := by decide +kernel
theorem dX10_over_25 : decode cX10_over 25 = .ok (.irem, 1) := by decide +kernel
theorem dX10_over_26 : decode cX10_over 26 = .ok (.invokevirtual 90, 3) := by decide +kernel
theorem dX10_over_29 : decode cX10_over 29 = .ok (.ifCond .eq 14, 3) := by decide +kernel
theorem dX10_over_32 : decode cX10_over 32 = .ok (.iload_n 1, 1) := by decide +kernel
theorem dX10_over_33 : decode cX10_over 33 = .ok (.bipush 10, 2) := by decide +kernel
theorem dX10_over_35 : decode cX10_over 35 = .ok (.idiv, 1) := by decide +kernel
theorem dX10_over_36 : decode cX10_over 36 = .ok (.iload_n 1, 1) := by decide +kernel
theorem dX10_over_37 : decode cX10_over 37 = .ok (.bipush 10, 2) := by decide +kernel
theorem dX10_over_39 : decode cX10_over 39 = .ok (.irem, 1) := by decide +kernel
theorem dX10_over_40 : decode cX10_over 40 = .ok (.if_icmp .ne 5, 3) := by decide +kernel
theorem dX10_over_43 : decode cX10_over 43 = .ok (.iconst (-1), 1) := by decide +kernel
theorem dX10_over_44 : decode cX10_over 44 = .ok (.ireturn, 1) := by decide +kernel
theorem dX10_over_45 : decode cX10_over 45 = .ok (.iconst 0, 1) := by decide +kernel
theorem dX10_over_46 : decode cX10_over 46 = .ok (.istore_n 2, 1) := by decide +kernel
theorem dX10_over_47 : decode cX10_over 47 = .ok (.iconst 0, 1) := by decide +kernel
theorem dX10_over_48 : decode cX10_over 48 = .ok (.istore_n 3, 1) := by decide +kernel
theorem dX10_over_49 : decode cX10_over 49 = .ok (.iload_n 3, 1) := by decide +kernel
theorem dX10_over_50 : decode cX10_over 50 = .ok (.aload_n 0, 1) := by decide +kernel
theorem dX10_over_51 : decode cX10_over 51 = .ok (.getfield 12, 3) := by decide +kernel
theorem dX10_over_54 : decode cX10_over 54 = .ok (.getfield 94, 3) := by decide +kernel
theorem dX10_over_57 : decode cX10_over 57 = .ok (.if_icmp .ge 28, 3) := by decide +kernel
theorem dX10_over_60 : decode cX10_over 60 = .ok (.iload_n 2, 1) := by decide +kernel
theorem dX10_over_61 : decode cX10_over 61 = .ok (.aload_n 0, 1) := by decide +kernel
theorem dX10_over_62 : decode cX10_over 62 = .ok (.getfield 44, 3) := by decide +kernel
theorem dX10_over_65 : decode cX10_over 65 = .ok (.iload_n 3, 1) := by decide +kernel
theorem dX10_over_66 : decode cX10_over 66 = .ok (.iload_n 1, 1) := by decide +kernel
theorem dX10_over_67 : decode cX10_over 67 = .ok (.bipush 10, 2) := by decide +kernel
theorem dX10_over_69 : decode cX10_over 69 = .ok (.idiv, 1) := by decide +kernel
theorem dX10_over_70 : decode cX10_over 70 = .ok (.iload_n 1, 1) := by decide +kernel
theorem dX10_over_71 : decode cX10_over 71 = .ok (.bipush 10, 2) := by decide +kernel
theorem dX10_over_73 : decode cX10_over 73 = .ok (.irem, 1) := by decide +kernel
theorem dX10_over_74 : decode cX10_over 74 = .ok (.invokevirtual 233, 3) := by decide +kernel
theorem dX10_over_77 : decode cX10_over 77 = .ok (.iadd, 1) := by decide +kernel
theorem dX10_over_78 : decode cX10_over 78 = .ok (.istore_n 2, 1) := by decide +kernel
theorem dX10_over_79 : decode cX10_over 79 = .ok (.iinc 3 1, 3) := by decide +kernel
theorem dX10_over_82 : decode cX10_over 82 = .ok (.goto (-33), 3) := by decide +kernel
theorem dX10_over_85 : decode cX10_over 85 = .ok (.iload_n 2, 1) := by decide +kernel
theorem dX10_over_86 : decode cX10_over 86 = .ok (.ireturn, 1) := by decide +kernel
theorem dX10_isThought_0 : decode cX10_isThought 0 = .ok (.iload_n 1, 1) := by decide +kernel
theorem dX10_isThought_1 : decode cX10_isThought 1 = .ok (.ifCond .lt 30, 3) := by decide +kernel
theorem dX10_isThought_4 : decode cX10_isThought 4 = .ok (.iload_n 1, 1) := by decide +kernel
theorem dX10_isThought_5 : decode cX10_isThought 5 = .ok (.bipush 10, 2) := by decide +kernel
theorem dX10_isThought_7 : decode cX10_isThought 7 = .ok (.irem, 1) := by decide +kernel
theorem dX10_isThought_8 : decode cX10_isThought 8 = .ok (.bipush 6, 2) := by decide +kernel
theorem dX10_isThought_10 : decode cX10_isThought 10 = .ok (.if_icmp .gt 21, 3) := by decide +kernel
theorem dX10_isThought_13 : decode cX10_isThought 13 = .ok (.aload_n 0, 1) := by decide +kernel
theorem dX10_isThought_14 : decode cX10_isThought 14 = .ok (.getfield 12, 3) := by decide +kernel
theorem dX10_isThought_17 : decode cX10_isThought 17 = .ok (.iload_n 1, 1) := by decide +kernel
theorem dX10_isThought_18 : decode cX10_isThought 18 = .ok (.bipush 10, 2) := by decide +kernel
theorem dX10_isThought_20 : decode cX10_isThought 20 = .ok (.idiv, 1) := by decide +kernel
theorem dX10_isThought_21 : decode cX10_isThought 21 = .ok (.invokevirtual 140, 3) := by decide +kernel
theorem dX10_isThought_24 : decode cX10_isThought 24 = .ok (.ifCond .eq 7, 3) := by decide +kernel
theorem dX10_isThought_27 : decode cX10_isThought 27 = .ok (.iconst 1, 1) := by decide +kernel
theorem dX10_isThought_28 : decode cX10_isThought 28 = .ok (.goto 4, 3) := by decide +kernel
theorem dX10_isThought_31 : decode cX10_isThought 31 = .ok (.iconst 0, 1) := by decide +kernel
theorem dX10_isThought_32 : decode cX10_isThought 32 = .ok (.ireturn, 1) := by decide +kernel
theorem dX10_isZeroOrOne_0 : decode cX10_isZeroOrOne 0 = .ok (.iload_n 0, 1) := by decide +kernel
theorem dX10_isZeroOrOne_1 : decode cX10_isZeroOrOne 1 = .ok (.ifCond .eq 8, 3) := by decide +kernel
theorem dX10_isZeroOrOne_4 : decode cX10_isZeroOrOne 4 = .ok (.iload_n 0, 1) := by decide +kernel
theorem dX10_isZeroOrOne_5 : decode cX10_isZeroOrOne 5 = .ok (.iconst 1, 1) := by decide +kernel
theorem dX10_isZeroOrOne_6 : decode cX10_isZeroOrOne 6 = .ok (.if_icmp .ne 7, 3) := by decide +kernel
theorem dX10_isZeroOrOne_9 : decode cX10_isZeroOrOne 9 = .ok (.iconst 1, 1) := by decide +kernel
theorem dX10_isZeroOrOne_10 : decode cX10_isZeroOrOne 10 = .ok (.goto 4, 3) := by decide +kernel
theorem dX10_isZeroOrOne_13 : decode cX10_isZeroOrOne 13 = .ok (.iconst 0, 1) := by decide +kernel
theorem dX10_isZeroOrOne_14 : decode cX10_isZeroOrOne 14 = .ok (.ireturn, 1) := by decide +kernel
theorem dX10_fraction_0 : decode cX10_fraction 0 = .ok (.lconst 1, 1) := by decide +kernel
theorem dX10_fraction_1 : decode cX10_fraction 1 = .ok (.lstore 4, 2) := by decide +kernel
theorem dX10_fraction_3 : decode cX10_fraction 3 = .ok (.iconst 0, 1) := by decide +kernel
theorem dX10_fraction_4 : decode cX10_fraction 4 = .ok (.istore 6, 2) := by decide +kernel
theorem dX10_fraction_6 : decode cX10_fraction 6 = .ok (.iload 6, 2) := by decide +kernel
theorem dX10_fraction_8 : decode cX10_fraction 8 = .ok (.iload_n 2, 1) := by decide +kernel
theorem dX10_fraction_9 : decode cX10_fraction 9 = .ok (.if_icmp .ge 17, 3) := by decide +kernel
theorem dX10_fraction_12 : decode cX10_fraction 12 = .ok (.lload 4, 2) := by decide +kernel
theorem dX10_fraction_14 : decode cX10_fraction 14 = .ok (.ldc2_w 236, 3) := by decide +kernel
theorem dX10_fraction_17 : decode cX10_fraction 17 = .ok (.lmul, 1) := by decide +kernel
theorem dX10_fraction_18 : decode cX10_fraction 18 = .ok (.lstore 4, 2) := by decide +kernel
theorem dX10_fraction_20 : decode cX10_fraction 20 = .ok (.iinc 6 1, 3) := by decide +kernel
theorem dX10_fraction_23 : decode cX10_fraction 23 = .ok (.goto (-17), 3) := by decide +kernel
theorem dX10_fraction_26 : decode cX10_fraction 26 = .ok (.lload 4, 2) := by decide +kernel
theorem dX10_fraction_28 : decode cX10_fraction 28 = .ok (.lstore 6, 2) := by decide +kernel
theorem dX10_fraction_30 : decode cX10_fraction 30 = .ok (.lload_n 0, 1) := by decide +kernel
theorem dX10_fraction_31 : decode cX10_fraction 31 = .ok (.invokestatic 238, 3) := by decide +kernel
theorem dX10_fraction_34 : decode cX10_fraction 34 = .ok (.lstore 8, 2) := by decide +kernel
theorem dX10_fraction_36 : decode cX10_fraction 36 = .ok (.iconst 0, 1) := by decide +kernel
theorem dX10_fraction_37 : decode cX10_fraction 37 = .ok (.istore 10, 2) := by decide +kernel
theorem dX10_fraction_39 : decode cX10_fraction 39 = .ok (.iload 10, 2) := by decide +kernel
theorem dX10_fraction_41 : decode cX10_fraction 41 = .ok (.bipush 100, 2) := by decide +kernel
theorem dX10_fraction_43 : decode cX10_fraction 43 = .ok (.if_icmp .ge 31, 3) := by decide +kernel
theorem dX10_fraction_46 : decode cX10_fraction 46 = .ok (.lload 8, 2) := by decide +kernel
theorem dX10_fraction_48 : decode cX10_fraction 48 = .ok (.lconst 0, 1) := by decide +kernel
theorem dX10_fraction_49 : decode cX10_fraction 49 = .ok (.lcmp, 1) := by decide +kernel
theorem dX10_fraction_50 : decode cX10_fraction 50 = .ok (.ifCond .eq 24, 3) := by decide +kernel
theorem dX10_fraction_53 : decode cX10_fraction 53 = .ok (.lload 6, 2) := by decide +kernel
theorem dX10_fraction_55 : decode cX10_fraction 55 = .ok (.lload 8, 2) := by decide +kernel
theorem dX10_fraction_57 : decode cX10_fraction 57 = .ok (.lrem, 1) := by decide +kernel
theorem dX10_fraction_58 : decode cX10_fraction 58 = .ok (.lstore 11, 2) := by decide +kernel
theorem dX10_fraction_60 : decode cX10_fraction 60 = .ok (.lload 8, 2) := by decide +kernel
theorem dX10_fraction_62 : decode cX10_fraction 62 = .ok (.lstore 6, 2) := by decide +kernel
theorem dX10_fraction_64 : decode cX10_fraction 64 = .ok (.lload 11, 2) := by decide +kernel
theorem dX10_fraction_66 : decode cX10_fraction 66 = .ok (.lstore 8, 2) := by decide +kernel
theorem dX10_fraction_68 : decode cX10_fraction 68 = .ok (.iinc 10 1, 3) := by decide +kernel
theorem dX10_fraction_71 : decode cX10_fraction 71 = .ok (.goto (-32), 3) := by decide +kernel
theorem dX10_fraction_74 : decode cX10_fraction 74 = .ok (.lload 6, 2) := by decide +kernel
theorem dX10_fraction_76 : decode cX10_fraction 76 = .ok (.lconst 0, 1) := by decide +kernel
theorem dX10_fraction_77 : decode cX10_fraction 77 = .ok (.lcmp, 1) := by decide +kernel
theorem dX10_fraction_78 : decode cX10_fraction 78 = .ok (.ifCond .ne 14, 3) := by decide +kernel
theorem dX10_fraction_81 : decode cX10_fraction 81 = .ok (.iload_n 3, 1) := by decide +kernel
theorem dX10_fraction_82 : decode cX10_fraction 82 = .ok (.ifCond .ne 7, 3) := by decide +kernel
theorem dX10_fraction_85 : decode cX10_fraction 85 = .ok (.lload_n 0, 1) := by decide +kernel
theorem dX10_fraction_86 : decode cX10_fraction 86 = .ok (.goto 5, 3) := by decide +kernel
theorem dX10_fraction_89 : decode cX10_fraction 89 = .ok (.lload 4, 2) := by decide +kernel
theorem dX10_fraction_91 : decode cX10_fraction 91 = .ok (.lreturn, 1) := by decide +kernel
theorem dX10_fraction_92 : decode cX10_fraction 92 = .ok (.iload_n 3, 1) := by decide +kernel
theorem dX10_fraction_93 : decode cX10_fraction 93 = .ok (.ifCond .ne 7, 3) := by decide +kernel
theorem dX10_fraction_96 : decode cX10_fraction 96 = .ok (.lload_n 0, 1) := by decide +kernel
theorem dX10_fraction_97 : decode cX10_fraction 97 = .ok (.goto 5, 3) := by decide +kernel
theorem dX10_fraction_100 : decode cX10_fraction 100 = .ok (.lload 4, 2) := by decide +kernel
theorem dX10_fraction_102 : decode cX10_fraction 102 = .ok (.lload 6, 2) := by decide +kernel
theorem dX10_fraction_104 : decode cX10_fraction 104 = .ok (.ldiv, 1) := by decide +kernel
theorem dX10_fraction_105 : decode cX10_fraction 105 = .ok (.lreturn, 1) := by decide +kernel
theorem dX10_worth_0 : decode cX10_worth 0 = .ok (.aload_n 0, 1) := by decide +kernel
theorem dX10_worth_1 : decode cX10_worth 1 = .ok (.iload_n 1, 1) := by decide +kernel
theorem dX10_worth_2 : decode cX10_worth 2 = .ok (.invokevirtual 242, 3) := by decide +kernel
theorem dX10_worth_5 : decode cX10_worth 5 = .ok (.ifCond .eq 17, 3) := by decide +kernel
theorem dX10_worth_8 : decode cX10_worth 8 = .ok (.iload_n 2, 1) := by decide +kernel
theorem dX10_worth_9 : decode cX10_worth 9 = .ok (.invokestatic 245, 3) := by decide +kernel
theorem dX10_worth_12 : decode cX10_worth 12 = .ok (.ifCond .eq 10, 3) := by decide +kernel
theorem dX10_worth_15 : decode cX10_worth 15 = .ok (.iload_n 3, 1) := by decide +kernel
theorem dX10_worth_16 : decode cX10_worth 16 = .ok (.invokestatic 245, 3) := by decide +kernel
theorem dX10_worth_19 : decode cX10_worth 19 = .ok (.ifCond .ne 7, 3) := by decide +kernel
theorem dX10_worth_22 : decode cX10_worth 22 = .ok (.ldc2_w 248, 3) := by decide +kernel
theorem dX10_worth_25 : decode cX10_worth 25 = .ok (.lreturn, 1) := by decide +kernel
theorem dX10_worth_26 : decode cX10_worth 26 = .ok (.iload_n 1, 1) := by decide +kernel
theorem dX10_worth_27 : decode cX10_worth 27 = .ok (.bipush 10, 2) := by decide +kernel
theorem dX10_worth_29 : decode cX10_worth 29 = .ok (.idiv, 1) := by decide +kernel
theorem dX10_worth_30 : decode cX10_worth 30 = .ok (.istore 4, 2) := by decide +kernel
theorem dX10_worth_32 : decode cX10_worth 32 = .ok (.aload_n 0, 1) := by decide +kernel
theorem dX10_worth_33 : decode cX10_worth 33 = .ok (.getfield 12, 3) := by decide +kernel
theorem dX10_worth_36 : decode cX10_worth 36 = .ok (.getfield 165, 3) := by decide +kernel
theorem dX10_worth_39 : decode cX10_worth 39 = .ok (.iload 4, 2) := by decide +kernel
theorem dX10_worth_41 : decode cX10_worth 41 = .ok (.iaload, 1) := by decide +kernel
theorem dX10_worth_42 : decode cX10_worth 42 = .ok (.istore 5, 2) := by decide +kernel
theorem dX10_worth_44 : decode cX10_worth 44 = .ok (.aload_n 0, 1) := by decide +kernel
theorem dX10_worth_45 : decode cX10_worth 45 = .ok (.getfield 28, 3) := by decide +kernel
theorem dX10_worth_48 : decode cX10_worth 48 = .ok (.iload 4, 2) := by decide +kernel
theorem dX10_worth_50 : decode cX10_worth 50 = .ok (.iload 5, 2) := by decide +kernel
theorem dX10_worth_52 : decode cX10_worth 52 = .ok (.aload_n 0, 1) := by decide +kernel
theorem dX10_worth_53 : decode cX10_worth 53 = .ok (.getfield 12, 3) := by decide +kernel
theorem dX10_worth_56 : decode cX10_worth 56 = .ok (.getfield 146, 3) := by decide +kernel
theorem dX10_worth_59 : decode cX10_worth 59 = .ok (.iload 5, 2) := by decide +kernel
theorem dX10_worth_61 : decode cX10_worth 61 = .ok (.iaload, 1) := by decide +kernel
theorem dX10_worth_62 : decode cX10_worth 62 = .ok (.invokevirtual 250, 3) := by decide +kernel
theorem dX10_worth_65 : decode cX10_worth 65 = .ok (.aload_n 0, 1) := by decide +kernel
theorem dX10_worth_66 : decode cX10_worth 66 = .ok (.getfield 28, 3) := by decide +kernel
theorem dX10_worth_69 : decode cX10_worth 69 = .ok (.aload_n 0, 1) := by decide +kernel
theorem dX10_worth_70 : decode cX10_worth 70 = .ok (.getfield 44, 3) := by decide +kernel
theorem dX10_worth_73 : decode cX10_worth 73 = .ok (.getfield 180, 3) := by decide +kernel
theorem dX10_worth_76 : decode cX10_worth 76 = .ok (.iload 4, 2) := by decide +kernel
theorem dX10_worth_78 : decode cX10_worth 78 = .ok (.iaload, 1) := by decide +kernel
theorem dX10_worth_79 : decode cX10_worth 79 = .ok (.aload_n 0, 1) := by decide +kernel
theorem dX10_worth_80 : decode cX10_worth 80 = .ok (.getfield 44, 3) := by decide +kernel
theorem dX10_worth_83 : decode cX10_worth 83 = .ok (.getfield 186, 3) := by decide +kernel
theorem dX10_worth_86 : decode cX10_worth 86 = .ok (.iload 4, 2) := by decide +kernel
theorem dX10_worth_88 : decode cX10_worth 88 = .ok (.iaload, 1) := by decide +kernel
theorem dX10_worth_89 : decode cX10_worth 89 = .ok (.invokevirtual 254, 3) := by decide +kernel
theorem dX10_worth_92 : decode cX10_worth 92 = .ok (.aload_n 0, 1) := by decide +kernel
theorem dX10_worth_93 : decode cX10_worth 93 = .ok (.getfield 28, 3) := by decide +kernel
theorem dX10_worth_96 : decode cX10_worth 96 = .ok (.iload_n 1, 1) := by decide +kernel
theorem dX10_worth_97 : decode cX10_worth 97 = .ok (.bipush 10, 2) := by decide +kernel
theorem dX10_worth_99 : decode cX10_worth 99 = .ok (.irem, 1) := by decide +kernel
theorem dX10_worth_100 : decode cX10_worth 100 = .ok (.iload_n 2, 1) := by decide +kernel
theorem dX10_worth_101 : decode cX10_worth 101 = .ok (.ifCond .ne 16, 3) := by decide +kernel
theorem dX10_worth_104 : decode cX10_worth 104 = .ok (.aload_n 0, 1) := by decide +kernel
theorem dX10_worth_105 : decode cX10_worth 105 = .ok (.getfield 12, 3) := by decide +kernel
theorem dX10_worth_108 : decode cX10_worth 108 = .ok (.getfield 153, 3) := by decide +kernel
theorem dX10_worth_111 : decode cX10_worth 111 = .ok (.iload 5, 2) := by decide +kernel
theorem dX10_worth_113 : decode cX10_worth 113 = .ok (.iaload, 1) := by decide +kernel
theorem dX10_worth_114 : decode cX10_worth 114 = .ok (.goto 4, 3) := by decide +kernel
theorem dX10_worth_117 : decode cX10_worth 117 = .ok (.iconst 4, 1) := by decide +kernel
theorem dX10_worth_118 : decode cX10_worth 118 = .ok (.invokevirtual 258, 3) := by decide +kernel
theorem dX10_worth_121 : decode cX10_worth 121 = .ok (.aload_n 0, 1) := by decide +kernel
theorem dX10_worth_122 : decode cX10_worth 122 = .ok (.getfield 28, 3) := by decide +kernel
theorem dX10_worth_125 : decode cX10_worth 125 = .ok (.aload_n 0, 1) := by decide +kernel
theorem dX10_worth_126 : decode cX10_worth 126 = .ok (.getfield 44, 3) := by decide +kernel
theorem dX10_worth_129 : decode cX10_worth 129 = .ok (.getfield 174, 3) := by decide +kernel
theorem dX10_worth_132 : decode cX10_worth 132 = .ok (.iload 4, 2) := by decide +kernel
theorem dX10_worth_134 : decode cX10_worth 134 = .ok (.iaload, 1) := by decide +kernel
theorem dX10_worth_135 : decode cX10_worth 135 = .ok (.invokevirtual 261, 3) := by decide +kernel
theorem dX10_worth_138 : decode cX10_worth 138 = .ok (.iload_n 1, 1) := by decide +kernel
theorem dX10_worth_139 : decode cX10_worth 139 = .ok (.bipush 10, 2) := by decide +kernel
theorem dX10_worth_141 : decode cX10_worth 141 = .ok (.irem, 1) := by decide +kernel
theorem dX10_worth_142 : decode cX10_worth 142 = .ok (.iload_n 3, 1) := by decide +kernel
theorem dX10_worth_143 : decode cX10_worth 143 = .ok (.invokestatic 265, 3) := by decide +kernel
theorem dX10_worth_146 : decode cX10_worth 146 = .ok (.lreturn, 1) := by decide +kernel
theorem dX10_now_0 : decode cX10_now 0 = .ok (.aload_n 0, 1) := by decide +kernel
theorem dX10_now_1 : decode cX10_now 1 = .ok (.iload_n 1, 1) := by decide +kernel
theorem dX10_now_2 : decode cX10_now 2 = .ok (.invokevirtual 242, 3) := by decide +kernel
theorem dX10_now_5 : decode cX10_now 5 = .ok (.ifCond .eq 12, 3) := by decide +kernel
theorem dX10_now_8 : decode cX10_now 8 = .ok (.iload_n 2, 1) := by decide +kernel
theorem dX10_now_9 : decode cX10_now 9 = .ok (.ifCond .lt 8, 3) := by decide +kernel
theorem dX10_now_12 : decode cX10_now 12 = .ok (.iload_n 2, 1) := by decide +kernel
theorem dX10_now_13 : decode cX10_now 13 = .ok (.iconst 2, 1) := by decide +kernel
theorem dX10_now_14 : decode cX10_now 14 = .ok (.if_icmp .le 5, 3) := by decide +kernel
theorem dX10_now_17 : decode cX10_now 17 = .ok (.iconst (-1), 1) := by decide +kernel
theorem dX10_now_18 : decode cX10_now 18 = .ok (.ireturn, 1) := by decide +kernel
theorem dX10_now_19 : decode cX10_now 19 = .ok (.iload_n 1, 1) := by decide +kernel
theorem dX10_now_20 : decode cX10_now 20 = .ok (.bipush 10, 2) := by decide +kernel
theorem dX10_now_22 : decode cX10_now 22 = .ok (.idiv, 1) := by decide +kernel
theorem dX10_now_23 : decode cX10_now 23 = .ok (.istore_n 3, 1) := by decide +kernel
theorem dX10_now_24 : decode cX10_now 24 = .ok (.iload_n 1, 1) := by decide +kernel
theorem dX10_now_25 : decode cX10_now 25 = .ok (.bipush 10, 2) := by decide +kernel
theorem dX10_now_27 : decode cX10_now 27 = .ok (.irem, 1) := by decide +kernel
theorem dX10_now_28 : decode cX10_now 28 = .ok (.istore 4, 2) := by decide +kernel
theorem dX10_now_30 : decode cX10_now 30 = .ok (.aload_n 0, 1) := by decide +kernel
theorem dX10_now_31 : decode cX10_now 31 = .ok (.getfield 12, 3) := by decide +kernel
theorem dX10_now_34 : decode cX10_now 34 = .ok (.getfield 165, 3) := by decide +kernel
theorem dX10_now_37 : decode cX10_now 37 = .ok (.iload_n 3, 1) := by decide +kernel
theorem dX10_now_38 : decode cX10_now 38 = .ok (.iaload, 1) := by decide +kernel
theorem dX10_now_39 : decode cX10_now 39 = .ok (.istore 5, 2) := by decide +kernel
theorem dX10_now_41 : decode cX10_now 41 = .ok (.iload_n 2, 1) := by decide +kernel
theorem dX10_now_42 : decode cX10_now 42 = .ok (.iconst 2, 1) := by decide +kernel
theorem dX10_now_43 : decode cX10_now 43 = .ok (.if_icmp .ne 11, 3) := by decide +kernel
theorem dX10_now_46 : decode cX10_now 46 = .ok (.aload_n 0, 1) := by decide +kernel
theorem dX10_now_47 : decode cX10_now 47 = .ok (.iload_n 3, 1) := by decide +kernel
theorem dX10_now_48 : decode cX10_now 48 = .ok (.iload 4, 2) := by decide +kernel
theorem dX10_now_50 : decode cX10_now 50 = .ok (.invokevirtual 269, 3) := by decide +kernel
theorem dX10_now_53 : decode cX10_now 53 = .ok (.ireturn, 1) := by decide +kernel
theorem dX10_now_54 : decode cX10_now 54 = .ok (.aload_n 0, 1) := by decide +kernel
theorem dX10_now_55 : decode cX10_now 55 = .ok (.getfield 28, 3) := by decide +kernel
theorem dX10_now_58 : decode cX10_now 58 = .ok (.iload_n 3, 1) := by decide +kernel
theorem dX10_now_59 : decode cX10_now 59 = .ok (.iload 5, 2) := by decide +kernel
theorem dX10_now_61 : decode cX10_now 61 = .ok (.aload_n 0, 1) := by decide +kernel
theorem dX10_now_62 : decode cX10_now 62 = .ok (.getfield 12, 3) := by decide +kernel
theorem dX10_now_65 : decode cX10_now 65 = .ok (.getfield 146, 3) := by decide +kernel
theorem dX10_now_68 : decode cX10_now 68 = .ok (.iload 5, 2) := by decide +kernel
theorem dX10_now_70 : decode cX10_now 70 = .ok (.iaload, 1) := by decide +kernel
theorem dX10_now_71 : decode cX10_now 71 = .ok (.invokevirtual 250, 3) := by decide +kernel
theorem dX10_now_74 : decode cX10_now 74 = .ok (.aload_n 0, 1) := by decide +kernel
theorem dX10_now_75 : decode cX10_now 75 = .ok (.getfield 28, 3) := by decide +kernel
theorem dX10_now_78 : decode cX10_now 78 = .ok (.aload_n 0, 1) := by decide +kernel
theorem dX10_now_79 : decode cX10_now 79 = .ok (.getfield 44, 3) := by decide +kernel
theorem dX10_now_82 : decode cX10_now 82 = .ok (.getfield 180, 3) := by decide +kernel
theorem dX10_now_85 : decode cX10_now 85 = .ok (.iload_n 3, 1) := by decide +kernel
theorem dX10_now_86 : decode cX10_now 86 = .ok (.iaload, 1) := by decide +kernel
theorem dX10_now_87 : decode cX10_now 87 = .ok (.aload_n 0, 1) := by decide +kernel
theorem dX10_now_88 : decode cX10_now 88 = .ok (.getfield 44, 3) := by decide +kernel
theorem dX10_now_91 : decode cX10_now 91 = .ok (.getfield 186, 3) := by decide +kernel
theorem dX10_now_94 : decode cX10_now 94 = .ok (.iload_n 3, 1) := by decide +kernel
theorem dX10_now_95 : decode cX10_now 95 = .ok (.iaload, 1) := by decide +kernel
theorem dX10_now_96 : decode cX10_now 96 = .ok (.invokevirtual 254, 3) := by decide +kernel
theorem dX10_now_99 : decode cX10_now 99 = .ok (.aload_n 0, 1) := by decide +kernel
theorem dX10_now_100 : decode cX10_now 100 = .ok (.getfield 28, 3) := by decide +kernel
theorem dX10_now_103 : decode cX10_now 103 = .ok (.iload 4, 2) := by decide +kernel
theorem dX10_now_105 : decode cX10_now 105 = .ok (.iconst 4, 1) := by decide +kernel
theorem dX10_now_106 : decode cX10_now 106 = .ok (.invokevirtual 258, 3) := by decide +kernel
theorem dX10_now_109 : decode cX10_now 109 = .ok (.iload_n 2, 1) := by decide +kernel
theorem dX10_now_110 : decode cX10_now 110 = .ok (.ifCond .ne 28, 3) := by decide +kernel
theorem dX10_now_113 : decode cX10_now 113 = .ok (.aload_n 0, 1) := by decide +kernel
theorem dX10_now_114 : decode cX10_now 114 = .ok (.getfield 28, 3) := by decide +kernel
theorem dX10_now_117 : decode cX10_now 117 = .ok (.aload_n 0, 1) := by decide +kernel
theorem dX10_now_118 : decode cX10_now 118 = .ok (.getfield 44, 3) := by decide +kernel
theorem dX10_now_121 : decode cX10_now 121 = .ok (.getfield 174, 3) := by decide +kernel
theorem dX10_now_124 : decode cX10_now 124 = .ok (.iload_n 3, 1) := by decide +kernel
theorem dX10_now_125 : decode cX10_now 125 = .ok (.iaload, 1) := by decide +kernel
theorem dX10_now_126 : decode cX10_now 126 = .ok (.invokevirtual 272, 3) := by decide +kernel
theorem dX10_now_129 : decode cX10_now 129 = .ok (.ifCond .eq 7, 3) := by decide +kernel
theorem dX10_now_132 : decode cX10_now 132 = .ok (.iconst 1, 1) := by decide +kernel
theorem dX10_now_133 : decode cX10_now 133 = .ok (.goto 4, 3) := by decide +kernel
theorem dX10_now_136 : decode cX10_now 136 = .ok (.iconst 0, 1) := by decide +kernel
theorem dX10_now_137 : decode cX10_now 137 = .ok (.ireturn, 1) := by decide +kernel
theorem dX10_now_138 : decode cX10_now 138 = .ok (.iconst 0, 1) := by decide +kernel
theorem dX10_now_139 : decode cX10_now 139 = .ok (.istore 6, 2) := by decide +kernel
theorem dX10_now_141 : decode cX10_now 141 = .ok (.iconst 1, 1) := by decide +kernel
theorem dX10_now_142 : decode cX10_now 142 = .ok (.istore 7, 2) := by decide +kernel
theorem dX10_now_144 : decode cX10_now 144 = .ok (.iload 7, 2) := by decide +kernel
theorem dX10_now_146 : decode cX10_now 146 = .ok (.iconst 3, 1) := by decide +kernel
theorem dX10_now_147 : decode cX10_now 147 = .ok (.if_icmp .gt 32, 3) := by decide +kernel
theorem dX10_now_150 : decode cX10_now 150 = .ok (.aload_n 0, 1) := by decide +kernel
theorem dX10_now_151 : decode cX10_now 151 = .ok (.getfield 28, 3) := by decide +kernel
theorem dX10_now_154 : decode cX10_now 154 = .ok (.iload 7, 2) := by decide +kernel
theorem dX10_now_156 : decode cX10_now 156 = .ok (.invokevirtual 272, 3) := by decide +kernel
theorem dX10_now_159 : decode cX10_now 159 = .ok (.ifCond .eq 14, 3) := by decide +kernel
theorem dX10_now_162 : decode cX10_now 162 = .ok (.iload 6, 2) := by decide +kernel
theorem dX10_now_164 : decode cX10_now 164 = .ok (.iconst 1, 1) := by decide +kernel
theorem dX10_now_165 : decode cX10_now 165 = .ok (.iload 7, 2) := by decide +kernel
theorem dX10_now_167 : decode cX10_now 167 = .ok (.iconst 1, 1) := by decide +kernel
theorem dX10_now_168 : decode cX10_now 168 = .ok (.isub, 1) := by decide +kernel
theorem dX10_now_169 : decode cX10_now 169 = .ok (.ishl, 1) := by decide +kernel
theorem dX10_now_170 : decode cX10_now 170 = .ok (.ior, 1) := by decide +kernel
theorem dX10_now_171 : decode cX10_now 171 = .ok (.istore 6, 2) := by decide +kernel
theorem dX10_now_173 : decode cX10_now 173 = .ok (.iinc 7 1, 3) := by decide +kernel
theorem dX10_now_176 : decode cX10_now 176 = .ok (.goto (-32), 3) := by decide +kernel
theorem dX10_now_179 : decode cX10_now 179 = .ok (.iload 6, 2) := by decide +kernel
theorem dX10_now_181 : decode cX10_now 181 = .ok (.ireturn, 1) := by decide +kernel
theorem dX10_leastSkill_0 : decode cX10_leastSkill 0 = .ok (.iconst 1, 1) := by decide +kernel
theorem dX10_leastSkill_1 : decode cX10_leastSkill 1 = .ok (.istore_n 3, 1) := by decide +kernel
theorem dX10_leastSkill_2 : decode cX10_leastSkill 2 = .ok (.iload_n 3, 1) := by decide +kernel
theorem dX10_leastSkill_3 : decode cX10_leastSkill 3 = .ok (.iconst 3, 1) := by decide +kernel
theorem dX10_leastSkill_4 : decode cX10_leastSkill 4 = .ok (.if_icmp .gt 82, 3) := by decide +kernel
theorem dX10_leastSkill_7 : decode cX10_leastSkill 7 = .ok (.aload_n 0, 1) := by decide +kernel
theorem dX10_leastSkill_8 : decode cX10_leastSkill 8 = .ok (.getfield 28, 3) := by decide +kernel
theorem dX10_leastSkill_11 : decode cX10_leastSkill 11 = .ok (.iload_n 1, 1) := by decide +kernel
theorem dX10_leastSkill_12 : decode cX10_leastSkill 12 = .ok (.aload_n 0, 1) := by decide +kernel
theorem dX10_leastSkill_13 : decode cX10_leastSkill 13 = .ok (.getfield 12, 3) := by decide +kernel
theorem dX10_leastSkill_16 : decode cX10_leastSkill 16 = .ok (.getfield 165, 3) := by decide +kernel
theorem dX10_leastSkill_19 : decode cX10_leastSkill 19 = .ok (.iload_n 1, 1) := by decide +kernel
theorem dX10_leastSkill_20 : decode cX10_leastSkill 20 = .ok (.iaload, 1) := by decide +kernel
theorem dX10_leastSkill_21 : decode cX10_leastSkill 21 = .ok (.iload_n 3, 1) := by decide +kernel
theorem dX10_leastSkill_22 : decode cX10_leastSkill 22 = .ok (.invokevirtual 250, 3) := by decide +kernel
theorem dX10_leastSkill_25 : decode cX10_leastSkill 25 = .ok (.aload_n 0, 1) := by decide +kernel
theorem dX10_leastSkill_26 : decode cX10_leastSkill 26 = .ok (.getfield 28, 3) := by decide +kernel
theorem dX10_leastSkill_29 : decode cX10_leastSkill 29 = .ok (.aload_n 0, 1) := by decide +kernel
theorem dX10_leastSkill_30 : decode cX10_leastSkill 30 = .ok (.getfield 44, 3) := by decide +kernel
theorem dX10_leastSkill_33 : decode cX10_leastSkill 33 = .ok (.getfield 180, 3) := by decide +kernel
theorem dX10_leastSkill_36 : decode cX10_leastSkill 36 = .ok (.iload_n 1, 1) := by decide +kernel
theorem dX10_leastSkill_37 : decode cX10_leastSkill 37 = .ok (.iaload, 1) := by decide +kernel
theorem dX10_leastSkill_38 : decode cX10_leastSkill 38 = .ok (.aload_n 0, 1) := by decide +kernel
theorem dX10_leastSkill_39 : decode cX10_leastSkill 39 = .ok (.getfield 44, 3) := by decide +kernel
theorem dX10_leastSkill_42 : decode cX10_leastSkill 42 = .ok (.getfield 186, 3) := by decide +kernel
theorem dX10_leastSkill_45 : decode cX10_leastSkill 45 = .ok (.iload_n 1, 1) := by decide +kernel
theorem dX10_leastSkill_46 : decode cX10_leastSkill 46 = .ok (.iaload, 1) := by decide +kernel
theorem dX10_leastSkill_47 : decode cX10_leastSkill 47 = .ok (.invokevirtual 254, 3) := by decide +kernel
theorem dX10_leastSkill_50 : decode cX10_leastSkill 50 = .ok (.aload_n 0, 1) := by decide +kernel
theorem dX10_leastSkill_51 : decode cX10_leastSkill 51 = .ok (.getfield 28, 3) := by decide +kernel
theorem dX10_leastSkill_54 : decode cX10_leastSkill 54 = .ok (.iload_n 2, 1) := by decide +kernel
theorem dX10_leastSkill_55 : decode cX10_leastSkill 55 = .ok (.iconst 4, 1) := by decide +kernel
theorem dX10_leastSkill_56 : decode cX10_leastSkill 56 = .ok (.invokevirtual 258, 3) := by decide +kernel
theorem dX10_leastSkill_59 : decode cX10_leastSkill 59 = .ok (.aload_n 0, 1) := by decide +kernel
theorem dX10_leastSkill_60 : decode cX10_leastSkill 60 = .ok (.getfield 28, 3) := by decide +kernel
theorem dX10_leastSkill_63 : decode cX10_leastSkill 63 = .ok (.aload_n 0, 1) := by decide +kernel
theorem dX10_leastSkill_64 : decode cX10_leastSkill 64 = .ok (.getfield 44, 3) := by decide +kernel
theorem dX10_leastSkill_67 : decode cX10_leastSkill 67 = .ok (.getfield 174, 3) := by decide +kernel
theorem dX10_leastSkill_70 : decode cX10_leastSkill 70 = .ok (.iload_n 1, 1) := by decide +kernel
theorem dX10_leastSkill_71 : decode cX10_leastSkill 71 = .ok (.iaload, 1) := by decide +kernel
theorem dX10_leastSkill_72 : decode cX10_leastSkill 72 = .ok (.invokevirtual 272, 3) := by decide +kernel
theorem dX10_leastSkill_75 : decode cX10_leastSkill 75 = .ok (.ifCond .eq 5, 3) := by decide +kernel
theorem dX10_leastSkill_78 : decode cX10_leastSkill 78 = .ok (.iload_n 3, 1) := by decide +kernel
theorem dX10_leastSkill_79 : decode cX10_leastSkill 79 = .ok (.ireturn, 1) := by decide +kernel
theorem dX10_leastSkill_80 : decode cX10_leastSkill 80 = .ok (.iinc 3 1, 3) := by decide +kernel
theorem dX10_leastSkill_83 : decode cX10_leastSkill 83 = .ok (.goto (-81), 3) := by decide +kernel
theorem dX10_leastSkill_86 : decode cX10_leastSkill 86 = .ok (.bipush (-2), 2) := by decide +kernel
theorem dX10_leastSkill_88 : decode cX10_leastSkill 88 = .ok (.ireturn, 1) := by decide +kernel
theorem dX10_smith_0 : decode cX10_smith 0 = .ok (.aload_n 0, 1) := by decide +kernel
theorem dX10_smith_1 : decode cX10_smith 1 = .ok (.iload_n 1, 1) := by decide +kernel
theorem dX10_smith_2 : decode cX10_smith 2 = .ok (.invokevirtual 242, 3) := by decide +kernel
theorem dX10_smith_5 : decode cX10_smith 5 = .ok (.ifCond .eq 30, 3) := by decide +kernel
theorem dX10_smith_8 : decode cX10_smith 8 = .ok (.aload_n 0, 1) := by decide +kernel
theorem dX10_smith_9 : decode cX10_smith 9 = .ok (.getfield 12, 3) := by decide +kernel
theorem dX10_smith_12 : decode cX10_smith 12 = .ok (.iload_n 2, 1) := by decide +kernel
theorem dX10_smith_13 : decode cX10_smith 13 = .ok (.invokevirtual 90, 3) := by decide +kernel
theorem dX10_smith_16 : decode cX10_smith 16 = .ok (.ifCond .eq 19, 3) := by decide +kernel
theorem dX10_smith_19 : decode cX10_smith 19 = .ok (.iload_n 2, 1) := by decide +kernel
theorem dX10_smith_20 : decode cX10_smith 20 = .ok (.aload_n 0, 1) := by decide +kernel
theorem dX10_smith_21 : decode cX10_smith 21 = .ok (.getfield 12, 3) := by decide +kernel
theorem dX10_smith_24 : decode cX10_smith 24 = .ok (.getfield 165, 3) := by decide +kernel
theorem dX10_smith_27 : decode cX10_smith 27 = .ok (.iload_n 1, 1) := by decide +kernel
theorem dX10_smith_28 : decode cX10_smith 28 = .ok (.bipush 10, 2) := by decide +kernel
theorem dX10_smith_30 : decode cX10_smith 30 = .ok (.idiv, 1) := by decide +kernel
theorem dX10_smith_31 : decode cX10_smith 31 = .ok (.iaload, 1) := by decide +kernel
theorem dX10_smith_32 : decode cX10_smith 32 = .ok (.if_icmp .ne 7, 3) := by decide +kernel
theorem dX10_smith_35 : decode cX10_smith 35 = .ok (.ldc2_w 248, 3) := by decide +kernel
theorem dX10_smith_38 : decode cX10_smith 38 = .ok (.lreturn, 1) := by decide +kernel
theorem dX10_smith_39 : decode cX10_smith 39 = .ok (.iload_n 3, 1) := by decide +kernel
theorem dX10_smith_40 : decode cX10_smith 40 = .ok (.invokestatic 245, 3) := by decide +kernel
theorem dX10_smith_43 : decode cX10_smith 43 = .ok (.ifCond .eq 11, 3) := by decide +kernel
theorem dX10_smith_46 : decode cX10_smith 46 = .ok (.iload 4, 2) := by decide +kernel
theorem dX10_smith_48 : decode cX10_smith 48 = .ok (.invokestatic 245, 3) := by decide +kernel
theorem dX10_smith_51 : decode cX10_smith 51 = .ok (.ifCond .ne 7, 3) := by decide +kernel
theorem dX10_smith_54 : decode cX10_smith 54 = .ok (.ldc2_w 248, 3) := by decide +kernel
theorem dX10_smith_57 : decode cX10_smith 57 = .ok (.lreturn, 1) := by decide +kernel
theorem dX10_smith_58 : decode cX10_smith 58 = .ok (.iload_n 1, 1) := by decide +kernel
theorem dX10_smith_59 : decode cX10_smith 59 = .ok (.bipush 10, 2) := by decide +kernel
theorem dX10_smith_61 : decode cX10_smith 61 = .ok (.idiv, 1) := by decide +kernel
theorem dX10_smith_62 : decode cX10_smith 62 = .ok (.istore 5, 2) := by decide +kernel
theorem dX10_smith_64 : decode cX10_smith 64 = .ok (.iload_n 1, 1) := by decide +kernel
theorem dX10_smith_65 : decode cX10_smith 65 = .ok (.bipush 10, 2) := by decide +kernel
theorem dX10_smith_67 : decode cX10_smith 67 = .ok (.irem, 1) := by decide +kernel
theorem dX10_smith_68 : decode cX10_smith 68 = .ok (.istore 6, 2) := by decide +kernel
theorem dX10_smith_70 : decode cX10_smith 70 = .ok (.aload_n 0, 1) := by decide +kernel
theorem dX10_smith_71 : decode cX10_smith 71 = .ok (.getfield 12, 3) := by decide +kernel
theorem dX10_smith_74 : decode cX10_smith 74 = .ok (.getfield 165, 3) := by decide +kernel
theorem dX10_smith_77 : decode cX10_smith 77 = .ok (.iload 5, 2) := by decide +kernel
theorem dX10_smith_79 : decode cX10_smith 79 = .ok (.iaload, 1) := by decide +kernel
theorem dX10_smith_80 : decode cX10_smith 80 = .ok (.istore 7, 2) := by decide +kernel
theorem dX10_smith_82 : decode cX10_smith 82 = .ok (.aload_n 0, 1) := by decide +kernel
theorem dX10_smith_83 : decode cX10_smith 83 = .ok (.getfield 44, 3) := by decide +kernel
theorem dX10_smith_86 : decode cX10_smith 86 = .ok (.getfield 174, 3) := by decide +kernel
theorem dX10_smith_89 : decode cX10_smith 89 = .ok (.iload 5, 2) := by decide +kernel
theorem dX10_smith_91 : decode cX10_smith 91 = .ok (.iaload, 1) := by decide +kernel
theorem dX10_smith_92 : decode cX10_smith 92 = .ok (.aload_n 0, 1) := by decide +kernel
theorem dX10_smith_93 : decode cX10_smith 93 = .ok (.getfield 12, 3) := by decide +kernel
theorem dX10_smith_96 : decode cX10_smith 96 = .ok (.getfield 146, 3) := by decide +kernel
theorem dX10_smith_99 : decode cX10_smith 99 = .ok (.iload_n 2, 1) := by decide +kernel
theorem dX10_smith_100 : decode cX10_smith 100 = .ok (.iaload, 1) := by decide +kernel
theorem dX10_smith_101 : decode cX10_smith 101 = .ok (.invokestatic 275, 3) := by decide +kernel
theorem dX10_smith_104 : decode cX10_smith 104 = .ok (.istore 8, 2) := by decide +kernel
theorem dX10_smith_106 : decode cX10_smith 106 = .ok (.iload_n 3, 1) := by decide +kernel
theorem dX10_smith_107 : decode cX10_smith 107 = .ok (.iconst 1, 1) := by decide +kernel
theorem dX10_smith_108 : decode cX10_smith 108 = .ok (.if_icmp .ne 25, 3) := by decide +kernel
theorem dX10_smith_111 : decode cX10_smith 111 = .ok (.aload_n 0, 1) := by decide +kernel
theorem dX10_smith_112 : decode cX10_smith 112 = .ok (.getfield 28, 3) := by decide +kernel
theorem dX10_smith_115 : decode cX10_smith 115 = .ok (.iload 5, 2) := by decide +kernel
theorem dX10_smith_117 : decode cX10_smith 117 = .ok (.iload 8, 2) := by decide +kernel
theorem dX10_smith_119 : decode cX10_smith 119 = .ok (.iconst 0, 1) := by decide +kernel
theorem dX10_smith_120 : decode cX10_smith 120 = .ok (.iload 6, 2) := by decide +kernel
theorem dX10_smith_122 : decode cX10_smith 122 = .ok (.invokevirtual 278, 3) := by decide +kernel
theorem dX10_smith_125 : decode cX10_smith 125 = .ok (.iload 6, 2) := by decide +kernel
theorem dX10_smith_127 : decode cX10_smith 127 = .ok (.iload 4, 2) := by decide +kernel
theorem dX10_smith_129 : decode cX10_smith 129 = .ok (.invokestatic 265, 3) := by decide +kernel
theorem dX10_smith_132 : decode cX10_smith 132 = .ok (.lreturn, 1) := by decide +kernel
theorem dX10_smith_133 : decode cX10_smith 133 = .ok (.aload_n 0, 1) := by decide +kernel
theorem dX10_smith_134 : decode cX10_smith 134 = .ok (.getfield 28, 3) := by decide +kernel
theorem dX10_smith_137 : decode cX10_smith 137 = .ok (.iload 5, 2) := by decide +kernel
theorem dX10_smith_139 : decode cX10_smith 139 = .ok (.iload 7, 2) := by decide +kernel
theorem dX10_smith_141 : decode cX10_smith 141 = .ok (.aload_n 0, 1) := by decide +kernel
theorem dX10_smith_142 : decode cX10_smith 142 = .ok (.getfield 12, 3) := by decide +kernel
theorem dX10_smith_145 : decode cX10_smith 145 = .ok (.getfield 146, 3) := by decide +kernel
theorem dX10_smith_148 : decode cX10_smith 148 = .ok (.iload 7, 2) := by decide +kernel
theorem dX10_smith_150 : decode cX10_smith 150 = .ok (.iaload, 1) := by decide +kernel
theorem dX10_smith_151 : decode cX10_smith 151 = .ok (.invokevirtual 250, 3) := by decide +kernel
theorem dX10_smith_154 : decode cX10_smith 154 = .ok (.aload_n 0, 1) := by decide +kernel
theorem dX10_smith_155 : decode cX10_smith 155 = .ok (.getfield 28, 3) := by decide +kernel
theorem dX10_smith_158 : decode cX10_smith 158 = .ok (.iload_n 2, 1) := by decide +kernel
theorem dX10_smith_159 : decode cX10_smith 159 = .ok (.iconst 0, 1) := by decide +kernel
theorem dX10_smith_160 : decode cX10_smith 160 = .ok (.invokevirtual 254, 3) := by decide +kernel
theorem dX10_smith_163 : decode cX10_smith 163 = .ok (.aload_n 0, 1) := by decide +kernel
theorem dX10_smith_164 : decode cX10_smith 164 = .ok (.getfield 28, 3) := by decide +kernel
theorem dX10_smith_167 : decode cX10_smith 167 = .ok (.iload 6, 2) := by decide +kernel
theorem dX10_smith_169 : decode cX10_smith 169 = .ok (.iconst 4, 1) := by decide +kernel
theorem dX10_smith_170 : decode cX10_smith 170 = .ok (.invokevirtual 258, 3) := by decide +kernel
theorem dX10_smith_173 : decode cX10_smith 173 = .ok (.aload_n 0, 1) := by decide +kernel
theorem dX10_smith_174 : decode cX10_smith 174 = .ok (.getfield 28, 3) := by decide +kernel
theorem dX10_smith_177 : decode cX10_smith 177 = .ok (.iload 8, 2) := by decide +kernel
theorem dX10_smith_179 : decode cX10_smith 179 = .ok (.invokevirtual 282, 3) := by decide +kernel
theorem dX10_smith_182 : decode cX10_smith 182 = .ok (.lstore 9, 2) := by decide +kernel
theorem dX10_smith_184 : decode cX10_smith 184 = .ok (.aload_n 0, 1) := by decide +kernel
theorem dX10_smith_185 : decode cX10_smith 185 = .ok (.getfield 28, 3) := by decide +kernel
theorem dX10_smith_188 : decode cX10_smith 188 = .ok (.aload_n 0, 1) := by decide +kernel
theorem dX10_smith_189 : decode cX10_smith 189 = .ok (.getfield 44, 3) := by decide +kernel
theorem dX10_smith_192 : decode cX10_smith 192 = .ok (.getfield 180, 3) := by decide +kernel
theorem dX10_smith_195 : decode cX10_smith 195 = .ok (.iload 5, 2) := by decide +kernel
theorem dX10_smith_197 : decode cX10_smith 197 = .ok (.iaload, 1) := by decide +kernel
theorem dX10_smith_198 : decode cX10_smith 198 = .ok (.aload_n 0, 1) := by decide +kernel
theorem dX10_smith_199 : decode cX10_smith 199 = .ok (.getfield 44, 3) := by decide +kernel
theorem dX10_smith_202 : decode cX10_smith 202 = .ok (.getfield 186, 3) := by decide +kernel
theorem dX10_smith_205 : decode cX10_smith 205 = .ok (.iload 5, 2) := by decide +kernel
theorem dX10_smith_207 : decode cX10_smith 207 = .ok (.iaload, 1) := by decide +kernel
theorem dX10_smith_208 : decode cX10_smith 208 = .ok (.invokevirtual 254, 3) := by decide +kernel
theorem dX10_smith_211 : decode cX10_smith 211 = .ok (.aload_n 0, 1) := by decide +kernel
theorem dX10_smith_212 : decode cX10_smith 212 = .ok (.getfield 28, 3) := by decide +kernel
theorem dX10_smith_215 : decode cX10_smith 215 = .ok (.iload 6, 2) := by decide +kernel
theorem dX10_smith_217 : decode cX10_smith 217 = .ok (.iconst 4, 1) := by decide +kernel
theorem dX10_smith_218 : decode cX10_smith 218 = .ok (.invokevirtual 258, 3) := by decide +kernel
theorem dX10_smith_221 : decode cX10_smith 221 = .ok (.lload 9, 2) := by decide +kernel
theorem dX10_smith_223 : decode cX10_smith 223 = .ok (.aload_n 0, 1) := by decide +kernel
theorem dX10_smith_224 : decode cX10_smith 224 = .ok (.getfield 28, 3) := by decide +kernel
theorem dX10_smith_227 : decode cX10_smith 227 = .ok (.aload_n 0, 1) := by decide +kernel
theorem dX10_smith_228 : decode cX10_smith 228 = .ok (.getfield 44, 3) := by decide +kernel
theorem dX10_smith_231 : decode cX10_smith 231 = .ok (.getfield 174, 3) := by decide +kernel
theorem dX10_smith_234 : decode cX10_smith 234 = .ok (.iload 5, 2) := by decide +kernel
theorem dX10_smith_236 : decode cX10_smith 236 = .ok (.iaload, 1) := by decide +kernel
theorem dX10_smith_237 : decode cX10_smith 237 = .ok (.invokevirtual 282, 3) := by decide +kernel
theorem dX10_smith_240 : decode cX10_smith 240 = .ok (.lsub, 1) := by decide +kernel
theorem dX10_smith_241 : decode cX10_smith 241 = .ok (.iload 6, 2) := by decide +kernel
theorem dX10_smith_243 : decode cX10_smith 243 = .ok (.iload 4, 2) := by decide +kernel
theorem dX10_smith_245 : decode cX10_smith 245 = .ok (.invokestatic 265, 3) := by decide +kernel
theorem dX10_smith_248 : decode cX10_smith 248 = .ok (.lreturn, 1) := by decide +kernel
theorem dX10_gift_0 : decode cX10_gift 0 = .ok (.aload_n 0, 1) := by decide +kernel
theorem dX10_gift_1 : decode cX10_gift 1 = .ok (.iload_n 1, 1) := by decide +kernel
theorem dX10_gift_2 : decode cX10_gift 2 = .ok (.invokevirtual 242, 3) := by decide +kernel
theorem dX10_gift_5 : decode cX10_gift 5 = .ok (.ifCond .eq 30, 3) := by decide +kernel
theorem dX10_gift_8 : decode cX10_gift 8 = .ok (.aload_n 0, 1) := by decide +kernel
theorem dX10_gift_9 : decode cX10_gift 9 = .ok (.getfield 12, 3) := by decide +kernel
theorem dX10_gift_12 : decode cX10_gift 12 = .ok (.iload_n 2, 1) := by decide +kernel
theorem dX10_gift_13 : decode cX10_gift 13 = .ok (.invokevirtual 90, 3) := by decide +kernel
theorem dX10_gift_16 : decode cX10_gift 16 = .ok (.ifCond .eq 19, 3) := by decide +kernel
theorem dX10_gift_19 : decode cX10_gift 19 = .ok (.iload_n 2, 1) := by decide +kernel
theorem dX10_gift_20 : decode cX10_gift 20 = .ok (.aload_n 0, 1) := by decide +kernel
theorem dX10_gift_21 : decode cX10_gift 21 = .ok (.getfield 12, 3) := by decide +kernel
theorem dX10_gift_24 : decode cX10_gift 24 = .ok (.getfield 165, 3) := by decide +kernel
theorem dX10_gift_27 : decode cX10_gift 27 = .ok (.iload_n 1, 1) := by decide +kernel
theorem dX10_gift_28 : decode cX10_gift 28 = .ok (.bipush 10, 2) := by decide +kernel
theorem dX10_gift_30 : decode cX10_gift 30 = .ok (.idiv, 1) := by decide +kernel
theorem dX10_gift_31 : decode cX10_gift 31 = .ok (.iaload, 1) := by decide +kernel
theorem dX10_gift_32 : decode cX10_gift 32 = .ok (.if_icmp .ne 7, 3) := by decide +kernel
theorem dX10_gift_35 : decode cX10_gift 35 = .ok (.ldc2_w 248, 3) := by decide +kernel
theorem dX10_gift_38 : decode cX10_gift 38 = .ok (.lreturn, 1) := by decide +kernel
theorem dX10_gift_39 : decode cX10_gift 39 = .ok (.iload_n 3, 1) := by decide +kernel
theorem dX10_gift_40 : decode cX10_gift 40 = .ok (.invokestatic 245, 3) := by decide +kernel
theorem dX10_gift_43 : decode cX10_gift 43 = .ok (.ifCond .ne 7, 3) := by decide +kernel
theorem dX10_gift_46 : decode cX10_gift 46 = .ok (.ldc2_w 248, 3) := by decide +kernel
theorem dX10_gift_49 : decode cX10_gift 49 = .ok (.lreturn, 1) := by decide +kernel
theorem dX10_gift_50 : decode cX10_gift 50 = .ok (.iload_n 1, 1) := by decide +kernel
theorem dX10_gift_51 : decode cX10_gift 51 = .ok (.bipush 10, 2) := by decide +kernel
theorem dX10_gift_53 : decode cX10_gift 53 = .ok (.idiv, 1) := by decide +kernel
theorem dX10_gift_54 : decode cX10_gift 54 = .ok (.istore 4, 2) := by decide +kernel
theorem dX10_gift_56 : decode cX10_gift 56 = .ok (.aload_n 0, 1) := by decide +kernel
theorem dX10_gift_57 : decode cX10_gift 57 = .ok (.getfield 28, 3) := by decide +kernel
theorem dX10_gift_60 : decode cX10_gift 60 = .ok (.iload 4, 2) := by decide +kernel
theorem dX10_gift_62 : decode cX10_gift 62 = .ok (.iload_n 2, 1) := by decide +kernel
theorem dX10_gift_63 : decode cX10_gift 63 = .ok (.aload_n 0, 1) := by decide +kernel
theorem dX10_gift_64 : decode cX10_gift 64 = .ok (.getfield 12, 3) := by decide +kernel
theorem dX10_gift_67 : decode cX10_gift 67 = .ok (.getfield 146, 3) := by decide +kernel
theorem dX10_gift_70 : decode cX10_gift 70 = .ok (.iload_n 2, 1) := by decide +kernel
theorem dX10_gift_71 : decode cX10_gift 71 = .ok (.iaload, 1) := by decide +kernel
theorem dX10_gift_72 : decode cX10_gift 72 = .ok (.invokevirtual 250, 3) := by decide +kernel
theorem dX10_gift_75 : decode cX10_gift 75 = .ok (.aload_n 0, 1) := by decide +kernel
theorem dX10_gift_76 : decode cX10_gift 76 = .ok (.getfield 28, 3) := by decide +kernel
theorem dX10_gift_79 : decode cX10_gift 79 = .ok (.aload_n 0, 1) := by decide +kernel
theorem dX10_gift_80 : decode cX10_gift 80 = .ok (.getfield 44, 3) := by decide +kernel
theorem dX10_gift_83 : decode cX10_gift 83 = .ok (.getfield 180, 3) := by decide +kernel
theorem dX10_gift_86 : decode cX10_gift 86 = .ok (.iload 4, 2) := by decide +kernel
theorem dX10_gift_88 : decode cX10_gift 88 = .ok (.iaload, 1) := by decide +kernel
theorem dX10_gift_89 : decode cX10_gift 89 = .ok (.aload_n 0, 1) := by decide +kernel
theorem dX10_gift_90 : decode cX10_gift 90 = .ok (.getfield 44, 3) := by decide +kernel
theorem dX10_gift_93 : decode cX10_gift 93 = .ok (.getfield 186, 3) := by decide +kernel
theorem dX10_gift_96 : decode cX10_gift 96 = .ok (.iload 4, 2) := by decide +kernel
theorem dX10_gift_98 : decode cX10_gift 98 = .ok (.iaload, 1) := by decide +kernel
theorem dX10_gift_99 : decode cX10_gift 99 = .ok (.invokevirtual 254, 3) := by decide +kernel
theorem dX10_gift_102 : decode cX10_gift 102 = .ok (.aload_n 0, 1) := by decide +kernel
theorem dX10_gift_103 : decode cX10_gift 103 = .ok (.getfield 28, 3) := by decide +kernel
theorem dX10_gift_106 : decode cX10_gift 106 = .ok (.iload_n 1, 1) := by decide +kernel
theorem dX10_gift_107 : decode cX10_gift 107 = .ok (.bipush 10, 2) := by decide +kernel
theorem dX10_gift_109 : decode cX10_gift 109 = .ok (.irem, 1) := by decide +kernel
theorem dX10_gift_110 : decode cX10_gift 110 = .ok (.iconst 4, 1) := by decide +kernel
theorem dX10_gift_111 : decode cX10_gift 111 = .ok (.invokevirtual 258, 3) := by decide +kernel
theorem dX10_gift_114 : decode cX10_gift 114 = .ok (.aload_n 0, 1) := by decide +kernel
theorem dX10_gift_115 : decode cX10_gift 115 = .ok (.getfield 28, 3) := by decide +kernel
theorem dX10_gift_118 : decode cX10_gift 118 = .ok (.aload_n 0, 1) := by decide +kernel
theorem dX10_gift_119 : decode cX10_gift 119 = .ok (.getfield 44, 3) := by decide +kernel
theorem dX10_gift_122 : decode cX10_gift 122 = .ok (.getfield 174, 3) := by decide +kernel
theorem dX10_gift_125 : decode cX10_gift 125 = .ok (.iload 4, 2) := by decide +kernel
theorem dX10_gift_127 : decode cX10_gift 127 = .ok (.iaload, 1) := by decide +kernel
theorem dX10_gift_128 : decode cX10_gift 128 = .ok (.invokevirtual 261, 3) := by decide +kernel
theorem dX10_gift_131 : decode cX10_gift 131 = .ok (.iload_n 1, 1) := by decide +kernel
theorem dX10_gift_132 : decode cX10_gift 132 = .ok (.bipush 10, 2) := by decide +kernel
theorem dX10_gift_134 : decode cX10_gift 134 = .ok (.irem, 1) := by decide +kernel
theorem dX10_gift_135 : decode cX10_gift 135 = .ok (.iload_n 3, 1) := by decide +kernel
theorem dX10_gift_136 : decode cX10_gift 136 = .ok (.invokestatic 265, 3) := by decide +kernel
theorem dX10_gift_139 : decode cX10_gift 139 = .ok (.lreturn, 1) := by decide +kernel
theorem dX10_debts_0 : decode cX10_debts 0 = .ok (.iload_n 1, 1) := by decide +kernel
theorem dX10_debts_1 : decode cX10_debts 1 = .ok (.ifCond .lt 33, 3) := by decide +kernel
theorem dX10_debts_4 : decode cX10_debts 4 = .ok (.iload_n 1, 1) := by decide +kernel
theorem dX10_debts_5 : decode cX10_debts 5 = .ok (.bipush 10, 2) := by decide +kernel
theorem dX10_debts_7 : decode cX10_debts 7 = .ok (.irem, 1) := by decide +kernel
theorem dX10_debts_8 : decode cX10_debts 8 = .ok (.bipush 6, 2) := by decide +kernel
theorem dX10_debts_10 : decode cX10_debts 10 = .ok (.if_icmp .gt 24, 3) := by decide +kernel
theorem dX10_debts_13 : decode cX10_debts 13 = .ok (.aload_n 0, 1) := by decide +kernel
theorem dX10_debts_14 : decode cX10_debts 14 = .ok (.getfield 12, 3) := by decide +kernel
theorem dX10_debts_17 : decode cX10_debts 17 = .ok (.iload_n 1, 1) := by decide +kernel
theorem dX10_debts_18 : decode cX10_debts 18 = .ok (.bipush 10, 2) := by decide +kernel
theorem dX10_debts_20 : decode cX10_debts 20 = .ok (.idiv, 1) := by decide +kernel
theorem dX10_debts_21 : decode cX10_debts 21 = .ok (.invokevirtual 90, 3) := by decide +kernel
theorem dX10_debts_24 : decode cX10_debts 24 = .ok (.ifCond .eq 10, 3) := by decide +kernel
theorem dX10_debts_27 : decode cX10_debts 27 = .ok (.iload_n 2, 1) := by decide +kernel
theorem dX10_debts_28 : decode cX10_debts 28 = .ok (.invokestatic 245, 3) := by decide +kernel
theorem dX10_debts_31 : decode cX10_debts 31 = .ok (.ifCond .ne 7, 3) := by decide +kernel
theorem dX10_debts_34 : decode cX10_debts 34 = .ok (.ldc2_w 248, 3) := by decide +kernel
theorem dX10_debts_37 : decode cX10_debts 37 = .ok (.lreturn, 1) := by decide +kernel
theorem dX10_debts_38 : decode cX10_debts 38 = .ok (.lconst 0, 1) := by decide +kernel
theorem dX10_debts_39 : decode cX10_debts 39 = .ok (.lstore_n 3, 1) := by decide +kernel
theorem dX10_debts_40 : decode cX10_debts 40 = .ok (.iconst 0, 1) := by decide +kernel
theorem dX10_debts_41 : decode cX10_debts 41 = .ok (.istore 5, 2) := by decide +kernel
theorem dX10_debts_43 : decode cX10_debts 43 = .ok (.iload 5, 2) := by decide +kernel
theorem dX10_debts_45 : decode cX10_debts 45 = .ok (.aload_n 0, 1) := by decide +kernel
theorem dX10_debts_46 : decode cX10_debts 46 = .ok (.getfield 12, 3) := by decide +kernel
theorem dX10_debts_49 : decode cX10_debts 49 = .ok (.getfield 94, 3) := by decide +kernel
theorem dX10_debts_52 : decode cX10_debts 52 = .ok (.if_icmp .ge 62, 3) := by decide +kernel
theorem dX10_debts_55 : decode cX10_debts 55 = .ok (.aload_n 0, 1) := by decide +kernel
theorem dX10_debts_56 : decode cX10_debts 56 = .ok (.getfield 44, 3) := by decide +kernel
theorem dX10_debts_59 : decode cX10_debts 59 = .ok (.getfield 180, 3) := by decide +kernel
theorem dX10_debts_62 : decode cX10_debts 62 = .ok (.iload 5, 2) := by decide +kernel
theorem dX10_debts_64 : decode cX10_debts 64 = .ok (.iaload, 1) := by decide +kernel
theorem dX10_debts_65 : decode cX10_debts 65 = .ok (.iload_n 1, 1) := by decide +kernel
theorem dX10_debts_66 : decode cX10_debts 66 = .ok (.bipush 10, 2) := by decide +kernel
theorem dX10_debts_68 : decode cX10_debts 68 = .ok (.idiv, 1) := by decide +kernel
theorem dX10_debts_69 : decode cX10_debts 69 = .ok (.if_icmp .ne 39, 3) := by decide +kernel
theorem dX10_debts_72 : decode cX10_debts 72 = .ok (.lload_n 3, 1) := by decide +kernel
theorem dX10_debts_73 : decode cX10_debts 73 = .ok (.aload_n 0, 1) := by decide +kernel
theorem dX10_debts_74 : decode cX10_debts 74 = .ok (.getfield 28, 3) := by decide +kernel
theorem dX10_debts_77 : decode cX10_debts 77 = .ok (.iload 5, 2) := by decide +kernel
theorem dX10_debts_79 : decode cX10_debts 79 = .ok (.aload_n 0, 1) := by decide +kernel
theorem dX10_debts_80 : decode cX10_debts 80 = .ok (.getfield 44, 3) := by decide +kernel
theorem dX10_debts_83 : decode cX10_debts 83 = .ok (.getfield 174, 3) := by decide +kernel
theorem dX10_debts_86 : decode cX10_debts 86 = .ok (.iload 5, 2) := by decide +kernel
theorem dX10_debts_88 : decode cX10_debts 88 = .ok (.iaload, 1) := by decide +kernel
theorem dX10_debts_89 : decode cX10_debts 89 = .ok (.aload_n 0, 1) := by decide +kernel
theorem dX10_debts_90 : decode cX10_debts 90 = .ok (.getfield 44, 3) := by decide +kernel
theorem dX10_debts_93 : decode cX10_debts 93 = .ok (.getfield 186, 3) := by decide +kernel
theorem dX10_debts_96 : decode cX10_debts 96 = .ok (.iload 5, 2) := by decide +kernel
theorem dX10_debts_98 : decode cX10_debts 98 = .ok (.iaload, 1) := by decide +kernel
theorem dX10_debts_99 : decode cX10_debts 99 = .ok (.iload_n 1, 1) := by decide +kernel
theorem dX10_debts_100 : decode cX10_debts 100 = .ok (.bipush 10, 2) := by decide +kernel
theorem dX10_debts_102 : decode cX10_debts 102 = .ok (.irem, 1) := by decide +kernel
theorem dX10_debts_103 : decode cX10_debts 103 = .ok (.invokevirtual 278, 3) := by decide +kernel
theorem dX10_debts_106 : decode cX10_debts 106 = .ok (.ladd, 1) := by decide +kernel
theorem dX10_debts_107 : decode cX10_debts 107 = .ok (.lstore_n 3, 1) := by decide +kernel
theorem dX10_debts_108 : decode cX10_debts 108 = .ok (.iinc 5 1, 3) := by decide +kernel
theorem dX10_debts_111 : decode cX10_debts 111 = .ok (.goto (-68), 3) := by decide +kernel
theorem dX10_debts_114 : decode cX10_debts 114 = .ok (.lload_n 3, 1) := by decide +kernel
theorem dX10_debts_115 : decode cX10_debts 115 = .ok (.iload_n 1, 1) := by decide +kernel
theorem dX10_debts_116 : decode cX10_debts 116 = .ok (.bipush 10, 2) := by decide +kernel
theorem dX10_debts_118 : decode cX10_debts 118 = .ok (.irem, 1) := by decide +kernel
theorem dX10_debts_119 : decode cX10_debts 119 = .ok (.iload_n 2, 1) := by decide +kernel
theorem dX10_debts_120 : decode cX10_debts 120 = .ok (.invokestatic 265, 3) := by decide +kernel
theorem dX10_debts_123 : decode cX10_debts 123 = .ok (.lreturn, 1) := by decide +kernel
theorem dX10_startThought_0 : decode cX10_startThought 0 = .ok (.aload_n 0, 1) := by decide +kernel
theorem dX10_startThought_1 : decode cX10_startThought 1 = .ok (.getfield 48, 3) := by decide +kernel
theorem dX10_startThought_4 : decode cX10_startThought 4 = .ok (.aload_n 0, 1) := by decide +kernel
theorem dX10_startThought_5 : decode cX10_startThought 5 = .ok (.getfield 44, 3) := by decide +kernel
theorem dX10_startThought_8 : decode cX10_startThought 8 = .ok (.aload_n 0, 1) := by decide +kernel
theorem dX10_startThought_9 : decode cX10_startThought 9 = .ok (.getfield 12, 3) := by decide +kernel
theorem dX10_startThought_12 : decode cX10_startThought 12 = .ok (.getfield 79, 3) := by decide +kernel
theorem dX10_startThought_15 : decode cX10_startThought 15 = .ok (.aload_n 0, 1) := by decide +kernel
theorem dX10_startThought_16 : decode cX10_startThought 16 = .ok (.getfield 12, 3) := by decide +kernel
theorem dX10_startThought_19 : decode cX10_startThought 19 = .ok (.getfield 94, 3) := by decide +kernel
theorem dX10_startThought_22 : decode cX10_startThought 22 = .ok (.invokevirtual 285, 3) := by decide +kernel
theorem dX10_startThought_25 : decode cX10_startThought 25 = .ok (.aload_n 0, 1) := by decide +kernel
theorem dX10_startThought_26 : decode cX10_startThought 26 = .ok (.getfield 37, 3) := by decide +kernel
theorem dX10_startThought_29 : decode cX10_startThought 29 = .ok (.iload_n 1, 1) := by decide +kernel
theorem dX10_startThought_30 : decode cX10_startThought 30 = .ok (.invokevirtual 212, 3) := by decide +kernel
theorem dX10_startThought_33 : decode cX10_startThought 33 = .ok (.return_, 1) := by decide +kernel
theorem dX10_ruled_0 : decode cX10_ruled 0 = .ok (.iload_n 2, 1) := by decide +kernel
theorem dX10_ruled_1 : decode cX10_ruled 1 = .ok (.iconst 1, 1) := by decide +kernel
theorem dX10_ruled_2 : decode cX10_ruled 2 = .ok (.if_icmp .lt 16, 3) := by decide +kernel
theorem dX10_ruled_5 : decode cX10_ruled 5 = .ok (.iload_n 2, 1) := by decide +kernel
theorem dX10_ruled_6 : decode cX10_ruled 6 = .ok (.bipush 20, 2) := by decide +kernel
theorem dX10_ruled_8 : decode cX10_ruled 8 = .ok (.if_icmp .gt 10, 3) := by decide +kernel
theorem dX10_ruled_11 : decode cX10_ruled 11 = .ok (.iload_n 3, 1) := by decide +kernel
theorem dX10_ruled_12 : decode cX10_ruled 12 = .ok (.invokestatic 245, 3) := by decide +kernel
theorem dX10_ruled_15 : decode cX10_ruled 15 = .ok (.ifCond .ne 5, 3) := by decide +kernel
theorem dX10_ruled_18 : decode cX10_ruled 18 = .ok (.iconst (-1), 1) := by decide +kernel
theorem dX10_ruled_19 : decode cX10_ruled 19 = .ok (.ireturn, 1) := by decide +kernel
theorem dX10_ruled_20 : decode cX10_ruled 20 = .ok (.aload_n 0, 1) := by decide +kernel
theorem dX10_ruled_21 : decode cX10_ruled 21 = .ok (.getfield 12, 3) := by decide +kernel
theorem dX10_ruled_24 : decode cX10_ruled 24 = .ok (.getfield 119, 3) := by decide +kernel
theorem dX10_ruled_27 : decode cX10_ruled 27 = .ok (.istore 4, 2) := by decide +kernel
theorem dX10_ruled_29 : decode cX10_ruled 29 = .ok (.iconst 0, 1) := by decide +kernel
theorem dX10_ruled_30 : decode cX10_ruled 30 = .ok (.istore 5, 2) := by decide +kernel
theorem dX10_ruled_32 : decode cX10_ruled 32 = .ok (.iconst (-1), 1) := by decide +kernel
theorem dX10_ruled_33 : decode cX10_ruled 33 = .ok (.istore 6, 2) := by decide +kernel
theorem dX10_ruled_35 : decode cX10_ruled 35 = .ok (.aload_n 0, 1) := by decide +kernel
theorem dX10_ruled_36 : decode cX10_ruled 36 = .ok (.getfield 12, 3) := by decide +kernel
theorem dX10_ruled_39 : decode cX10_ruled 39 = .ok (.invokevirtual 289, 3) := by decide +kernel
theorem dX10_ruled_42 : decode cX10_ruled 42 = .ok (.ifCond .eq 8, 3) := by decide +kernel
theorem dX10_ruled_45 : decode cX10_ruled 45 = .ok (.bipush 9, 2) := by decide +kernel
theorem dX10_ruled_47 : decode cX10_ruled 47 = .ok (.goto 4, 3) := by decide +kernel
theorem dX10_ruled_50 : decode cX10_ruled 50 = .ok (.iconst 0, 1) := by decide +kernel
theorem dX10_ruled_51 : decode cX10_ruled 51 = .ok (.istore 7, 2) := by decide +kernel
theorem dX10_ruled_53 : decode cX10_ruled 53 = .ok (.iconst 0, 1) := by decide +kernel
theorem dX10_ruled_54 : decode cX10_ruled 54 = .ok (.istore 8, 2) := by decide +kernel
theorem dX10_ruled_56 : decode cX10_ruled 56 = .ok (.iload 8, 2) := by decide +kernel
theorem dX10_ruled_58 : decode cX10_ruled 58 = .ok (.iload 7, 2) := by decide +kernel
theorem dX10_ruled_60 : decode cX10_ruled 60 = .ok (.if_icmp .gt 77, 3) := by decide +kernel
theorem dX10_ruled_63 : decode cX10_ruled 63 = .ok (.aload_n 0, 1) := by decide +kernel
theorem dX10_ruled_64 : decode cX10_ruled 64 = .ok (.getfield 12, 3) := by decide +kernel
theorem dX10_ruled_67 : decode cX10_ruled 67 = .ok (.iload 8, 2) := by decide +kernel
theorem dX10_ruled_69 : decode cX10_ruled 69 = .ok (.putfield 119, 3) := by decide +kernel
theorem dX10_ruled_72 : decode cX10_ruled 72 = .ok (.aload_n 0, 1) := by decide +kernel
theorem dX10_ruled_73 : decode cX10_ruled 73 = .ok (.iload_n 1, 1) := by decide +kernel
theorem dX10_ruled_74 : decode cX10_ruled 74 = .ok (.invokevirtual 293, 3) := by decide +kernel
theorem dX10_ruled_77 : decode cX10_ruled 77 = .ok (.iconst 0, 1) := by decide +kernel
theorem dX10_ruled_78 : decode cX10_ruled 78 = .ok (.istore 9, 2) := by decide +kernel
theorem dX10_ruled_80 : decode cX10_ruled 80 = .ok (.iconst 0, 1) := by decide +kernel
theorem dX10_ruled_81 : decode cX10_ruled 81 = .ok (.istore 10, 2) := by decide +kernel
theorem dX10_ruled_83 : decode cX10_ruled 83 = .ok (.iload 10, 2) := by decide +kernel
theorem dX10_ruled_85 : decode cX10_ruled 85 = .ok (.iload_n 2, 1) := by decide +kernel
theorem dX10_ruled_86 : decode cX10_ruled 86 = .ok (.if_icmp .ge 25, 3) := by decide +kernel
theorem dX10_ruled_89 : decode cX10_ruled 89 = .ok (.iload 9, 2) := by decide +kernel
theorem dX10_ruled_91 : decode cX10_ruled 91 = .ok (.aload_n 0, 1) := by decide +kernel
theorem dX10_ruled_92 : decode cX10_ruled 92 = .ok (.getfield 37, 3) := by decide +kernel
theorem dX10_ruled_95 : decode cX10_ruled 95 = .ok (.aload_n 0, 1) := by decide +kernel
theorem dX10_ruled_96 : decode cX10_ruled 96 = .ok (.getfield 48, 3) := by decide +kernel
theorem dX10_ruled_99 : decode cX10_ruled 99 = .ok (.invokevirtual 215, 3) := by decide +kernel
theorem dX10_ruled_102 : decode cX10_ruled 102 = .ok (.iadd, 1) := by decide +kernel
theorem dX10_ruled_103 : decode cX10_ruled 103 = .ok (.istore 9, 2) := by decide +kernel
theorem dX10_ruled_105 : decode cX10_ruled 105 = .ok (.iinc 10 1, 3) := by decide +kernel
theorem dX10_ruled_108 : decode cX10_ruled 108 = .ok (.goto (-25), 3) := by decide +kernel
theorem dX10_ruled_111 : decode cX10_ruled 111 = .ok (.iload 8, 2) := by decide +kernel
theorem dX10_ruled_113 : decode cX10_ruled 113 = .ok (.ifCond .eq 10, 3) := by decide +kernel
theorem dX10_ruled_116 : decode cX10_ruled 116 = .ok (.iload 9, 2) := by decide +kernel
theorem dX10_ruled_118 : decode cX10_ruled 118 = .ok (.iload 6, 2) := by decide +kernel
theorem dX10_ruled_120 : decode cX10_ruled 120 = .ok (.if_icmp .ge 11, 3) := by decide +kernel
theorem dX10_ruled_123 : decode cX10_ruled 123 = .ok (.iload 9, 2) := by decide +kernel
theorem dX10_ruled_125 : decode cX10_ruled 125 = .ok (.istore 6, 2) := by decide +kernel
theorem dX10_ruled_127 : decode cX10_ruled 127 = .ok (.iload 8, 2) := by decide +kernel
theorem dX10_ruled_129 : decode cX10_ruled 129 = .ok (.istore 5, 2) := by decide +kernel
theorem dX10_ruled_131 : decode cX10_ruled 131 = .ok (.iinc 8 1, 3) := by decide +kernel
theorem dX10_ruled_134 : decode cX10_ruled 134 = .ok (.goto (-78), 3) := by decide +kernel
theorem dX10_ruled_137 : decode cX10_ruled 137 = .ok (.aload_n 0, 1) := by decide +kernel
theorem dX10_ruled_138 : decode cX10_ruled 138 = .ok (.getfield 12, 3) := by decide +kernel
theorem dX10_ruled_141 : decode cX10_ruled 141 = .ok (.iload 4, 2) := by decide +kernel
theorem dX10_ruled_143 : decode cX10_ruled 143 = .ok (.putfield 119, 3) := by decide +kernel
theorem dX10_ruled_146 : decode cX10_ruled 146 = .ok (.iload_n 3, 1) := by decide +kernel
theorem dX10_ruled_147 : decode cX10_ruled 147 = .ok (.ifCond .ne 8, 3) := by decide +kernel
theorem dX10_ruled_150 : decode cX10_ruled 150 = .ok (.iload 5, 2) := by decide +kernel
theorem dX10_ruled_152 : decode cX10_ruled 152 = .ok (.goto 5, 3) := by decide +kernel
theorem dX10_ruled_155 : decode cX10_ruled 155 = .ok (.iload 6, 2) := by decide +kernel
theorem dX10_ruled_157 : decode cX10_ruled 157 = .ok (.ireturn, 1) := by decide +kernel
theorem dX10_ruined_0 : decode cX10_ruined 0 = .ok (.iload_n 2, 1) := by decide +kernel
theorem dX10_ruined_1 : decode cX10_ruined 1 = .ok (.sipush (-999), 3) := by decide +kernel
theorem dX10_ruined_4 : decode cX10_ruined 4 = .ok (.if_icmp .lt 14, 3) := by decide +kernel
theorem dX10_ruined_7 : decode cX10_ruined 7 = .ok (.iload_n 2, 1) := by decide +kernel
theorem dX10_ruined_8 : decode cX10_ruined 8 = .ok (.ifCond .gt 10, 3) := by decide +kernel
theorem dX10_ruined_11 : decode cX10_ruined 11 = .ok (.iload_n 3, 1) := by decide +kernel
theorem dX10_ruined_12 : decode cX10_ruined 12 = .ok (.invokestatic 245, 3) := by decide +kernel
theorem dX10_ruined_15 : decode cX10_ruined 15 = .ok (.ifCond .ne 5, 3) := by decide +kernel
theorem dX10_ruined_18 : decode cX10_ruined 18 = .ok (.iconst (-1), 1) := by decide +kernel
theorem dX10_ruined_19 : decode cX10_ruined 19 = .ok (.ireturn, 1) := by decide +kernel
theorem dX10_ruined_20 : decode cX10_ruined 20 = .ok (.aload_n 0, 1) := by decide +kernel
theorem dX10_ruined_21 : decode cX10_ruined 21 = .ok (.iload_n 1, 1) := by decide +kernel
theorem dX10_ruined_22 : decode cX10_ruined 22 = .ok (.invokevirtual 293, 3) := by decide +kernel
theorem dX10_ruined_25 : decode cX10_ruined 25 = .ok (.iconst 1, 1) := by decide +kernel
theorem dX10_ruined_26 : decode cX10_ruined 26 = .ok (.istore 4, 2) := by decide +kernel
theorem dX10_ruined_28 : decode cX10_ruined 28 = .ok (.iload 4, 2) := by decide +kernel
theorem dX10_ruined_30 : decode cX10_ruined 30 = .ok (.bipush 30, 2) := by decide +kernel
theorem dX10_ruined_32 : decode cX10_ruined 32 = .ok (.if_icmp .gt 68, 3) := by decide +kernel
theorem dX10_ruined_35 : decode cX10_ruined 35 = .ok (.aload_n 0, 1) := by decide +kernel
theorem dX10_ruined_36 : decode cX10_ruined 36 = .ok (.getfield 37, 3) := by decide +kernel
theorem dX10_ruined_39 : decode cX10_ruined 39 = .ok (.aload_n 0, 1) := by decide +kernel
theorem dX10_ruined_40 : decode cX10_ruined 40 = .ok (.getfield 48, 3) := by decide +kernel
theorem dX10_ruined_43 : decode cX10_ruined 43 = .ok (.invokevirtual 215, 3) := by decide +kernel
theorem dX10_ruined_46 : decode cX10_ruined 46 = .ok (.pop, 1) := by decide +kernel
theorem dX10_ruined_47 : decode cX10_ruined 47 = .ok (.iconst 0, 1) := by decide +kernel
theorem dX10_ruined_48 : decode cX10_ruined 48 = .ok (.istore 5, 2) := by decide +kernel
theorem dX10_ruined_50 : decode cX10_ruined 50 = .ok (.iload 5, 2) := by decide +kernel
theorem dX10_ruined_52 : decode cX10_ruined 52 = .ok (.aload_n 0, 1) := by decide +kernel
theorem dX10_ruined_53 : decode cX10_ruined 53 = .ok (.getfield 12, 3) := by decide +kernel
theorem dX10_ruined_56 : decode cX10_ruined 56 = .ok (.getfield 79, 3) := by decide +kernel
theorem dX10_ruined_59 : decode cX10_ruined 59 = .ok (.if_icmp .ge 35, 3) := by decide +kernel
theorem dX10_ruined_62 : decode cX10_ruined 62 = .ok (.aload_n 0, 1) := by decide +kernel
theorem dX10_ruined_63 : decode cX10_ruined 63 = .ok (.getfield 48, 3) := by decide +kernel
theorem dX10_ruined_66 : decode cX10_ruined 66 = .ok (.getfield 156, 3) := by decide +kernel
theorem dX10_ruined_69 : decode cX10_ruined 69 = .ok (.iload 5, 2) := by decide +kernel
theorem dX10_ruined_71 : decode cX10_ruined 71 = .ok (.iaload, 1) := by decide +kernel
theorem dX10_ruined_72 : decode cX10_ruined 72 = .ok (.iload_n 2, 1) := by decide +kernel
theorem dX10_ruined_73 : decode cX10_ruined 73 = .ok (.if_icmp .ge 15, 3) := by decide +kernel
theorem dX10_ruined_76 : decode cX10_ruined 76 = .ok (.iload_n 3, 1) := by decide +kernel
theorem dX10_ruined_77 : decode cX10_ruined 77 = .ok (.ifCond .ne 8, 3) := by decide +kernel
theorem dX10_ruined_80 : decode cX10_ruined 80 = .ok (.iload 4, 2) := by decide +kernel
theorem dX10_ruined_82 : decode cX10_ruined 82 = .ok (.goto 5, 3) := by decide +kernel
theorem dX10_ruined_85 : decode cX10_ruined 85 = .ok (.iload 5, 2) := by decide +kernel
theorem dX10_ruined_87 : decode cX10_ruined 87 = .ok (.ireturn, 1) := by decide +kernel
theorem dX10_ruined_88 : decode cX10_ruined 88 = .ok (.iinc 5 1, 3) := by decide +kernel
theorem dX10_ruined_91 : decode cX10_ruined 91 = .ok (.goto (-41), 3) := by decide +kernel
theorem dX10_ruined_94 : decode cX10_ruined 94 = .ok (.iinc 4 1, 3) := by decide +kernel
theorem dX10_ruined_97 : decode cX10_ruined 97 = .ok (.goto (-69), 3) := by decide +kernel
theorem dX10_ruined_100 : decode cX10_ruined 100 = .ok (.bipush (-2), 2) := by decide +kernel
theorem dX10_ruined_102 : decode cX10_ruined 102 = .ok (.ireturn, 1) := by decide +kernel
theorem dX10_image_0 : decode cX10_image 0 = .ok (.aload_n 0, 1) := by decide +kernel
theorem dX10_image_1 : decode cX10_image 1 = .ok (.getfield 51, 3) := by decide +kernel
theorem dX10_image_4 : decode cX10_image 4 = .ok (.aload_n 0, 1) := by decide +kernel
theorem dX10_image_5 : decode cX10_image 5 = .ok (.getfield 44, 3) := by decide +kernel
theorem dX10_image_8 : decode cX10_image 8 = .ok (.aload_n 0, 1) := by decide +kernel
theorem dX10_image_9 : decode cX10_image 9 = .ok (.getfield 12, 3) := by decide +kernel
theorem dX10_image_12 : decode cX10_image 12 = .ok (.getfield 79, 3) := by decide +kernel
theorem dX10_image_15 : decode cX10_image 15 = .ok (.aload_n 0, 1) := by decide +kernel
theorem dX10_image_16 : decode cX10_image 16 = .ok (.getfield 12, 3) := by decide +kernel
theorem dX10_image_19 : decode cX10_image 19 = .ok (.getfield 94, 3) := by decide +kernel
theorem dX10_image_22 : decode cX10_image 22 = .ok (.invokevirtual 285, 3) := by decide +kernel
theorem dX10_image_25 : decode cX10_image 25 = .ok (.aload_n 0, 1) := by decide +kernel
theorem dX10_image_26 : decode cX10_image 26 = .ok (.aload_n 0, 1) := by decide +kernel
theorem dX10_image_27 : decode cX10_image 27 = .ok (.getfield 12, 3) := by decide +kernel
theorem dX10_image_30 : decode cX10_image 30 = .ok (.getfield 79, 3) := by decide +kernel
theorem dX10_image_33 : decode cX10_image 33 = .ok (.putfield 296, 3) := by decide +kernel
theorem dX10_image_36 : decode cX10_image 36 = .ok (.aload_n 0, 1) := by decide +kernel
theorem dX10_image_37 : decode cX10_image 37 = .ok (.aload_n 0, 1) := by decide +kernel
theorem dX10_image_38 : decode cX10_image 38 = .ok (.getfield 12, 3) := by decide +kernel
theorem dX10_image_41 : decode cX10_image 41 = .ok (.getfield 94, 3) := by decide +kernel
theorem dX10_image_44 : decode cX10_image 44 = .ok (.putfield 74, 3) := by decide +kernel
theorem dX10_image_47 : decode cX10_image 47 = .ok (.aload_n 0, 1) := by decide +kernel
theorem dX10_image_48 : decode cX10_image 48 = .ok (.getfield 74, 3) := by decide +kernel
theorem dX10_image_51 : decode cX10_image 51 = .ok (.ireturn, 1) := by decide +kernel
theorem dX10_back_0 : decode cX10_back 0 = .ok (.aload_n 0, 1) := by decide +kernel
theorem dX10_back_1 : decode cX10_back 1 = .ok (.getfield 74, 3) := by decide +kernel
theorem dX10_back_4 : decode cX10_back 4 = .ok (.ifCond .ge 6, 3) := by decide +kernel
theorem dX10_back_7 : decode cX10_back 7 = .ok (.bipush (-5), 2) := by decide +kernel
theorem dX10_back_9 : decode cX10_back 9 = .ok (.ireturn, 1) := by decide +kernel
theorem dX10_back_10 : decode cX10_back 10 = .ok (.aload_n 0, 1) := by decide +kernel
theorem dX10_back_11 : decode cX10_back 11 = .ok (.getfield 44, 3) := by decide +kernel
theorem dX10_back_14 : decode cX10_back 14 = .ok (.aload_n 0, 1) := by decide +kernel
theorem dX10_back_15 : decode cX10_back 15 = .ok (.getfield 51, 3) := by decide +kernel
theorem dX10_back_18 : decode cX10_back 18 = .ok (.aload_n 0, 1) := by decide +kernel
theorem dX10_back_19 : decode cX10_back 19 = .ok (.getfield 296, 3) := by decide +kernel
theorem dX10_back_22 : decode cX10_back 22 = .ok (.aload_n 0, 1) := by decide +kernel
theorem dX10_back_23 : decode cX10_back 23 = .ok (.getfield 74, 3) := by decide +kernel
theorem dX10_back_26 : decode cX10_back 26 = .ok (.invokevirtual 285, 3) := by decide +kernel
theorem dX10_back_29 : decode cX10_back 29 = .ok (.aload_n 0, 1) := by decide +kernel
theorem dX10_back_30 : decode cX10_back 30 = .ok (.getfield 74, 3) := by decide +kernel
theorem dX10_back_33 : decode cX10_back 33 = .ok (.ireturn, 1) := by decide +kernel
theorem dX10_undo_0 : decode cX10_undo 0 = .ok (.aload_n 0, 1) := by decide +kernel
theorem dX10_undo_1 : decode cX10_undo 1 = .ok (.getfield 57, 3) := by decide +kernel
theorem dX10_undo_4 : decode cX10_undo 4 = .ok (.aload_n 0, 1) := by decide +kernel
theorem dX10_undo_5 : decode cX10_undo 5 = .ok (.getfield 12, 3) := by decide +kernel
theorem dX10_undo_8 : decode cX10_undo 8 = .ok (.invokevirtual 299, 3) := by decide +kernel
theorem dX10_undo_11 : decode cX10_undo 11 = .ok (.ifCond .eq 13, 3) := by decide +kernel
theorem dX10_undo_14 : decode cX10_undo 14 = .ok (.aload_n 0, 1) := by decide +kernel
theorem dX10_undo_15 : decode cX10_undo 15 = .ok (.getfield 57, 3) := by decide +kernel
theorem dX10_undo_18 : decode cX10_undo 18 = .ok (.getfield 303, 3) := by decide +kernel
theorem dX10_undo_21 : decode cX10_undo 21 = .ok (.goto 5, 3) := by decide +kernel
theorem dX10_undo_24 : decode cX10_undo 24 = .ok (.bipush (-5), 2) := by decide +kernel
theorem dX10_undo_26 : decode cX10_undo 26 = .ok (.ireturn, 1) := by decide +kernel
theorem dX10_redo_0 : decode cX10_redo 0 = .ok (.aload_n 0, 1) := by decide +kernel
theorem dX10_redo_1 : decode cX10_redo 1 = .ok (.getfield 57, 3) := by decide +kernel
theorem dX10_redo_4 : decode cX10_redo 4 = .ok (.aload_n 0, 1) := by decide +kernel
theorem dX10_redo_5 : decode cX10_redo 5 = .ok (.getfield 12, 3) := by decide +kernel
theorem dX10_redo_8 : decode cX10_redo 8 = .ok (.invokevirtual 306, 3) := by decide +kernel
theorem dX10_redo_11 : decode cX10_redo 11 = .ok (.ifCond .eq 13, 3) := by decide +kernel
theorem dX10_redo_14 : decode cX10_redo 14 = .ok (.aload_n 0, 1) := by decide +kernel
theorem dX10_redo_15 : decode cX10_redo 15 = .ok (.getfield 57, 3) := by decide +kernel
theorem dX10_redo_18 : decode cX10_redo 18 = .ok (.invokevirtual 309, 3) := by decide +kernel
theorem dX10_redo_21 : decode cX10_redo 21 = .ok (.goto 5, 3) := by decide +kernel
theorem dX10_redo_24 : decode cX10_redo 24 = .ok (.bipush (-5), 2) := by decide +kernel
theorem dX10_redo_26 : decode cX10_redo 26 = .ok (.ireturn, 1) := by decide +kernel
theorem dX10_body_0 : decode cX10_body 0 = .ok (.iload_n 1, 1) := by decide +kernel
theorem dX10_body_1 : decode cX10_body 1 = .ok (.ifCond .lt 9, 3) := by decide +kernel
theorem dX10_body_4 : decode cX10_body 4 = .ok (.iload_n 1, 1) := by decide +kernel
theorem dX10_body_5 : decode cX10_body 5 = .ok (.bipush 8, 2) := by decide +kernel
theorem dX10_body_7 : decode cX10_body 7 = .ok (.if_icmp .lt 5, 3) := by decide +kernel
theorem dX10_body_10 : decode cX10_body 10 = .ok (.iconst (-1), 1) := by decide +kernel
theorem dX10_body_11 : decode cX10_body 11 = .ok (.ireturn, 1) := by decide +kernel
theorem dX10_body_12 : decode cX10_body 12 = .ok (.aload_n 0, 1) := by decide +kernel
theorem dX10_body_13 : decode cX10_body 13 = .ok (.getfield 64, 3) := by decide +kernel
theorem dX10_body_16 : decode cX10_body 16 = .ok (.getfield 312, 3) := by decide +kernel
theorem dX10_body_19 : decode cX10_body 19 = .ok (.bipush 50, 2) := by decide +kernel
theorem dX10_body_21 : decode cX10_body 21 = .ok (.if_icmp .lt 8, 3) := by decide +kernel
theorem dX10_body_24 : decode cX10_body 24 = .ok (.bipush (-3), 2) := by decide +kernel
theorem dX10_body_26 : decode cX10_body 26 = .ok (.goto 11, 3) := by decide +kernel
theorem dX10_body_29 : decode cX10_body 29 = .ok (.aload_n 0, 1) := by decide +kernel
theorem dX10_body_30 : decode cX10_body 30 = .ok (.getfield 64, 3) := by decide +kernel
theorem dX10_body_33 : decode cX10_body 33 = .ok (.iload_n 1, 1) := by decide +kernel
theorem dX10_body_34 : decode cX10_body 34 = .ok (.invokevirtual 315, 3) := by decide +kernel
theorem dX10_body_37 : decode cX10_body 37 = .ok (.ireturn, 1) := by decide +kernel
theorem dX10_act_0 : decode cX10_act 0 = .ok (.aload_n 0, 1) := by decide +kernel
theorem dX10_act_1 : decode cX10_act 1 = .ok (.getfield 64, 3) := by decide +kernel
theorem dX10_act_4 : decode cX10_act 4 = .ok (.iload_n 1, 1) := by decide +kernel
theorem dX10_act_5 : decode cX10_act 5 = .ok (.iload_n 2, 1) := by decide +kernel
theorem dX10_act_6 : decode cX10_act 6 = .ok (.iload_n 3, 1) := by decide +kernel
theorem dX10_act_7 : decode cX10_act 7 = .ok (.invokevirtual 319, 3) := by decide +kernel
theorem dX10_act_10 : decode cX10_act 10 = .ok (.ireturn, 1) := by decide +kernel
theorem dX10_trace_0 : decode cX10_trace 0 = .ok (.iload_n 1, 1) := by decide +kernel
theorem dX10_trace_1 : decode cX10_trace 1 = .ok (.ifCond .lt 26, 3) := by decide +kernel
theorem dX10_trace_4 : decode cX10_trace 4 = .ok (.iload_n 1, 1) := by decide +kernel
theorem dX10_trace_5 : decode cX10_trace 5 = .ok (.aload_n 0, 1) := by decide +kernel
theorem dX10_trace_6 : decode cX10_trace 6 = .ok (.getfield 64, 3) := by decide +kernel
theorem dX10_trace_9 : decode cX10_trace 9 = .ok (.invokevirtual 322, 3) := by decide +kernel
theorem dX10_trace_12 : decode cX10_trace 12 = .ok (.if_icmp .ge 15, 3) := by decide +kernel
theorem dX10_trace_15 : decode cX10_trace 15 = .ok (.aload_n 0, 1) := by decide +kernel
theorem dX10_trace_16 : decode cX10_trace 16 = .ok (.getfield 64, 3) := by decide +kernel
theorem dX10_trace_19 : decode cX10_trace 19 = .ok (.getfield 325, 3) := by decide +kernel
theorem dX10_trace_22 : decode cX10_trace 22 = .ok (.iload_n 1, 1) := by decide +kernel
theorem dX10_trace_23 : decode cX10_trace 23 = .ok (.iaload, 1) := by decide +kernel
theorem dX10_trace_24 : decode cX10_trace 24 = .ok (.goto 4, 3) := by decide +kernel
theorem dX10_trace_27 : decode cX10_trace 27 = .ok (.iconst (-1), 1) := by decide +kernel
theorem dX10_trace_28 : decode cX10_trace 28 = .ok (.ireturn, 1) := by decide +kernel
theorem dX10_shelfAt_0 : decode cX10_shelfAt 0 = .ok (.iload_n 1, 1) := by decide +kernel
theorem dX10_shelfAt_1 : decode cX10_shelfAt 1 = .ok (.ifCond .lt 18, 3) := by decide +kernel
theorem dX10_shelfAt_4 : decode cX10_shelfAt 4 = .ok (.iload_n 1, 1) := by decide +kernel
theorem dX10_shelfAt_5 : decode cX10_shelfAt 5 = .ok (.bipush 6, 2) := by decide +kernel
theorem dX10_shelfAt_7 : decode cX10_shelfAt 7 = .ok (.if_icmp .ge 12, 3) := by decide +kernel
theorem dX10_shelfAt_10 : decode cX10_shelfAt 10 = .ok (.aload_n 0, 1) := by decide +kernel
theorem dX10_shelfAt_11 : decode cX10_shelfAt 11 = .ok (.getfield 70, 3) := by decide +kernel
theorem dX10_shelfAt_14 : decode cX10_shelfAt 14 = .ok (.iload_n 1, 1) := by decide +kernel
theorem dX10_shelfAt_15 : decode cX10_shelfAt 15 = .ok (.aaload, 1) := by decide +kernel
theorem dX10_shelfAt_16 : decode cX10_shelfAt 16 = .ok (.goto 4, 3) := by decide +kernel
theorem dX10_shelfAt_19 : decode cX10_shelfAt 19 = .ok (.aconst_null, 1) := by decide +kernel
theorem dX10_shelfAt_20 : decode cX10_shelfAt 20 = .ok (.areturn, 1) := by decide +kernel
theorem dX10_keep_0 : decode cX10_keep 0 = .ok (.aload_n 0, 1) := by decide +kernel
theorem dX10_keep_1 : decode cX10_keep 1 = .ok (.iload_n 1, 1) := by decide +kernel
theorem dX10_keep_2 : decode cX10_keep 2 = .ok (.invokevirtual 102, 3) := by decide +kernel
theorem dX10_keep_5 : decode cX10_keep 5 = .ok (.astore_n 3, 1) := by decide +kernel
theorem dX10_keep_6 : decode cX10_keep 6 = .ok (.aload_n 3, 1) := by decide +kernel
theorem dX10_keep_7 : decode cX10_keep 7 = .ok (.ifnull 19, 3) := by decide +kernel
theorem dX10_keep_10 : decode cX10_keep 10 = .ok (.iload_n 2, 1) := by decide +kernel
theorem dX10_keep_11 : decode cX10_keep 11 = .ok (.iconst (-1), 1) := by decide +kernel
theorem dX10_keep_12 : decode cX10_keep 12 = .ok (.if_icmp .lt 14, 3) := by decide +kernel
theorem dX10_keep_15 : decode cX10_keep 15 = .ok (.iload_n 2, 1) := by decide +kernel
theorem dX10_keep_16 : decode cX10_keep 16 = .ok (.aload_n 0, 1) := by decide +kernel
theorem dX10_keep_17 : decode cX10_keep 17 = .ok (.getfield 64, 3) := by decide +kernel
theorem dX10_keep_20 : decode cX10_keep 20 = .ok (.getfield 312, 3) := by decide +kernel
theorem dX10_keep_23 : decode cX10_keep 23 = .ok (.if_icmp .lt 5, 3) := by decide +kernel
theorem dX10_keep_26 : decode cX10_keep 26 = .ok (.iconst (-1), 1) := by decide +kernel
theorem dX10_keep_27 : decode cX10_keep 27 = .ok (.ireturn, 1) := by decide +kernel
theorem dX10_keep_28 : decode cX10_keep 28 = .ok (.iload_n 2, 1) := by decide +kernel
theorem dX10_keep_29 : decode cX10_keep 29 = .ok (.ifCond .ge 10, 3) := by decide +kernel
theorem dX10_keep_32 : decode cX10_keep 32 = .ok (.aload_n 3, 1) := by decide +kernel
theorem dX10_keep_33 : decode cX10_keep 33 = .ok (.invokevirtual 328, 3) := by decide +kernel
theorem dX10_keep_36 : decode cX10_keep 36 = .ok (.goto 8, 3) := by decide +kernel
theorem dX10_keep_39 : decode cX10_keep 39 = .ok (.aload_n 3, 1) := by decide +kernel
theorem dX10_keep_40 : decode cX10_keep 40 = .ok (.iload_n 2, 1) := by decide +kernel
theorem dX10_keep_41 : decode cX10_keep 41 = .ok (.invokevirtual 331, 3) := by decide +kernel
theorem dX10_keep_44 : decode cX10_keep 44 = .ok (.iconst 1, 1) := by decide +kernel
theorem dX10_keep_45 : decode cX10_keep 45 = .ok (.ireturn, 1) := by decide +kernel
theorem dX10_row_0 : decode cX10_row 0 = .ok (.aload_n 0, 1) := by decide +kernel
theorem dX10_row_1 : decode cX10_row 1 = .ok (.iload_n 1, 1) := by decide +kernel
theorem dX10_row_2 : decode cX10_row 2 = .ok (.invokevirtual 102, 3) := by decide +kernel
theorem dX10_row_5 : decode cX10_row 5 = .ok (.astore 4, 2) := by decide +kernel
theorem dX10_row_7 : decode cX10_row 7 = .ok (.aload 4, 2) := by decide +kernel
theorem dX10_row_9 : decode cX10_row 9 = .ok (.ifnull 18, 3) := by decide +kernel
theorem dX10_row_12 : decode cX10_row 12 = .ok (.iload_n 2, 1) := by decide +kernel
theorem dX10_row_13 : decode cX10_row 13 = .ok (.ifCond .lt 14, 3) := by decide +kernel
theorem dX10_row_16 : decode cX10_row 16 = .ok (.iload_n 2, 1) := by decide +kernel
theorem dX10_row_17 : decode cX10_row 17 = .ok (.iconst 5, 1) := by decide +kernel
theorem dX10_row_18 : decode cX10_row 18 = .ok (.if_icmp .ge 9, 3) := by decide +kernel
theorem dX10_row_21 : decode cX10_row 21 = .ok (.iload_n 3, 1) := by decide +kernel
theorem dX10_row_22 : decode cX10_row 22 = .ok (.bipush 60, 2) := by decide +kernel
theorem dX10_row_24 : decode cX10_row 24 = .ok (.if_icmp .le 5, 3) := by decide +kernel
theorem dX10_row_27 : decode cX10_row 27 = .ok (.iconst (-1), 1) := by decide +kernel
theorem dX10_row_28 : decode cX10_row 28 = .ok (.ireturn, 1) := by decide +kernel
theorem dX10_row_29 : decode cX10_row 29 = .ok (.iload_n 3, 1) := by decide +kernel
theorem dX10_row_30 : decode cX10_row 30 = .ok (.ifCond .ge 6, 3) := by decide +kernel
theorem dX10_row_33 : decode cX10_row 33 = .ok (.bipush (-14), 2) := by decide +kernel
theorem dX10_row_35 : decode cX10_row 35 = .ok (.ireturn, 1) := by decide +kernel
theorem dX10_row_36 : decode cX10_row 36 = .ok (.aload 4, 2) := by decide +kernel
theorem dX10_row_38 : decode cX10_row 38 = .ok (.iload_n 2, 1) := by decide +kernel
theorem dX10_row_39 : decode cX10_row 39 = .ok (.iload_n 3, 1) := by decide +kernel
theorem dX10_row_40 : decode cX10_row 40 = .ok (.invokevirtual 334, 3) := by decide +kernel
theorem dX10_row_43 : decode cX10_row 43 = .ok (.iconst 1, 1) := by decide +kernel
theorem dX10_row_44 : decode cX10_row 44 = .ok (.ireturn, 1) := by decide +kernel
theorem dX10_put_0 : decode cX10_put 0 = .ok (.aload_n 0, 1) := by decide +kernel
theorem dX10_put_1 : decode cX10_put 1 = .ok (.iload_n 1, 1) := by decide +kernel
theorem dX10_put_2 : decode cX10_put 2 = .ok (.invokevirtual 102, 3) := by decide +kernel
theorem dX10_put_5 : decode cX10_put 5 = .ok (.astore 5, 2) := by decide +kernel
theorem dX10_put_7 : decode cX10_put 7 = .ok (.aload 5, 2) := by decide +kernel
theorem dX10_put_9 : decode cX10_put 9 = .ok (.ifnonnull 5, 3) := by decide +kernel
theorem dX10_put_12 : decode cX10_put 12 = .ok (.iconst (-1), 1) := by decide +kernel
theorem dX10_put_13 : decode cX10_put 13 = .ok (.ireturn, 1) := by decide +kernel
theorem dX10_put_14 : decode cX10_put 14 = .ok (.aload 5, 2) := by decide +kernel
theorem dX10_put_16 : decode cX10_put 16 = .ok (.iload_n 2, 1) := by decide +kernel
theorem dX10_put_17 : decode cX10_put 17 = .ok (.invokevirtual 337, 3) := by decide +kernel
theorem dX10_put_20 : decode cX10_put 20 = .ok (.istore 6, 2) := by decide +kernel
theorem dX10_put_22 : decode cX10_put 22 = .ok (.iload 6, 2) := by decide +kernel
theorem dX10_put_24 : decode cX10_put 24 = .ok (.ifCond .eq 6, 3) := by decide +kernel
theorem dX10_put_27 : decode cX10_put 27 = .ok (.iload 6, 2) := by decide +kernel
theorem dX10_put_29 : decode cX10_put 29 = .ok (.ireturn, 1) := by decide +kernel
theorem dX10_put_30 : decode cX10_put 30 = .ok (.aload 5, 2) := by decide +kernel
theorem dX10_put_32 : decode cX10_put 32 = .ok (.getfield 115, 3) := by decide +kernel
theorem dX10_put_35 : decode cX10_put 35 = .ok (.iload_n 2, 1) := by decide +kernel
theorem dX10_put_36 : decode cX10_put 36 = .ok (.aload 5, 2) := by decide +kernel
theorem dX10_put_38 : decode cX10_put 38 = .ok (.lload_n 3, 1) := by decide +kernel
theorem dX10_put_39 : decode cX10_put 39 = .ok (.invokevirtual 340, 3) := by decide +kernel
theorem dX10_put_42 : decode cX10_put 42 = .ok (.lastore, 1) := by decide +kernel
theorem dX10_put_43 : decode cX10_put 43 = .ok (.iconst 1, 1) := by decide +kernel
theorem dX10_put_44 : decode cX10_put 44 = .ok (.ireturn, 1) := by decide +kernel
theorem dX10_element_0 : decode cX10_element 0 = .ok (.aload_n 0, 1) := by decide +kernel
theorem dX10_element_1 : decode cX10_element 1 = .ok (.iload_n 1, 1) := by decide +kernel
theorem dX10_element_2 : decode cX10_element 2 = .ok (.invokevirtual 102, 3) := by decide +kernel
theorem dX10_element_5 : decode cX10_element 5 = .ok (.astore_n 3, 1) := by decide +kernel
theorem dX10_element_6 : decode cX10_element 6 = .ok (.aload_n 3, 1) := by decide +kernel
theorem dX10_element_7 : decode cX10_element 7 = .ok (.ifnull 11, 3) := by decide +kernel
theorem dX10_element_10 : decode cX10_element 10 = .ok (.aload_n 3, 1) := by decide +kernel
theorem dX10_element_11 : decode cX10_element 11 = .ok (.iload_n 2, 1) := by decide +kernel
theorem dX10_element_12 : decode cX10_element 12 = .ok (.invokevirtual 337, 3) := by decide +kernel
theorem dX10_element_15 : decode cX10_element 15 = .ok (.ifCond .eq 9, 3) := by decide +kernel
theorem dX10_element_18 : decode cX10_element 18 = .ok (.ldc2_w 248, 3) := by decide +kernel
theorem dX10_element_21 : decode cX10_element 21 = .ok (.goto 9, 3) := by decide +kernel
theorem dX10_element_24 : decode cX10_element 24 = .ok (.aload_n 3, 1) := by decide +kernel
theorem dX10_element_25 : decode cX10_element 25 = .ok (.getfield 115, 3) := by decide +kernel
theorem dX10_element_28 : decode cX10_element 28 = .ok (.iload_n 2, 1) := by decide +kernel
theorem dX10_element_29 : decode cX10_element 29 = .ok (.laload, 1) := by decide +kernel
theorem dX10_element_30 : decode cX10_element 30 = .ok (.lreturn, 1) := by decide +kernel
theorem dX10_shift_0 : decode cX10_shift 0 = .ok (.aload_n 0, 1) := by decide +kernel
theorem dX10_shift_1 : decode cX10_shift 1 = .ok (.iload_n 1, 1) := by decide +kernel
theorem dX10_shift_2 : decode cX10_shift 2 = .ok (.invokevirtual 102, 3) := by decide +kernel
theorem dX10_shift_5 : decode cX10_shift 5 = .ok (.astore 6, 2) := by decide +kernel
theorem dX10_shift_7 : decode cX10_shift 7 = .ok (.aload_n 0, 1) := by decide +kernel
theorem dX10_shift_8 : decode cX10_shift 8 = .ok (.iload_n 3, 1) := by decide +kernel
theorem dX10_shift_9 : decode cX10_shift 9 = .ok (.invokevirtual 102, 3) := by decide +kernel
theorem dX10_shift_12 : decode cX10_shift 12 = .ok (.astore 7, 2) := by decide +kernel
theorem dX10_shift_14 : decode cX10_shift 14 = .ok (.aload 6, 2) := by decide +kernel
theorem dX10_shift_16 : decode cX10_shift 16 = .ok (.ifnull 8, 3) := by decide +kernel
theorem dX10_shift_19 : decode cX10_shift 19 = .ok (.aload 7, 2) := by decide +kernel
theorem dX10_shift_21 : decode cX10_shift 21 = .ok (.ifnonnull 5, 3) := by decide +kernel
theorem dX10_shift_24 : decode cX10_shift 24 = .ok (.iconst (-1), 1) := by decide +kernel
theorem dX10_shift_25 : decode cX10_shift 25 = .ok (.ireturn, 1) := by decide +kernel
theorem dX10_shift_26 : decode cX10_shift 26 = .ok (.aload 6, 2) := by decide +kernel
theorem dX10_shift_28 : decode cX10_shift 28 = .ok (.getfield 106, 3) := by decide +kernel
theorem dX10_shift_31 : decode cX10_shift 31 = .ok (.ifCond .eq 11, 3) := by decide +kernel
theorem dX10_shift_34 : decode cX10_shift 34 = .ok (.aload 7, 2) := by decide +kernel
theorem dX10_shift_36 : decode cX10_shift 36 = .ok (.getfield 106, 3) := by decide +kernel
theorem dX10_shift_39 : decode cX10_shift 39 = .ok (.ifCond .ne 6, 3) := by decide +kernel
theorem dX10_shift_42 : decode cX10_shift 42 = .ok (.bipush (-11), 2) := by decide +kernel
theorem dX10_shift_44 : decode cX10_shift 44 = .ok (.ireturn, 1) := by decide +kernel
theorem dX10_shift_45 : decode cX10_shift 45 = .ok (.aload 6, 2) := by decide +kernel
theorem dX10_shift_47 : decode cX10_shift 47 = .ok (.getfield 106, 3) := by decide +kernel
theorem dX10_shift_50 : decode cX10_shift 50 = .ok (.iconst 2, 1) := by decide +kernel
theorem dX10_shift_51 : decode cX10_shift 51 = .ok (.if_icmp .ne 16, 3) := by decide +kernel
theorem dX10_shift_54 : decode cX10_shift 54 = .ok (.aload 7, 2) := by decide +kernel
theorem dX10_shift_56 : decode cX10_shift 56 = .ok (.aload 6, 2) := by decide +kernel
theorem dX10_shift_58 : decode cX10_shift 58 = .ok (.getfield 343, 3) := by decide +kernel
theorem dX10_shift_61 : decode cX10_shift 61 = .ok (.invokevirtual 109, 3) := by decide +kernel
theorem dX10_shift_64 : decode cX10_shift 64 = .ok (.ifCond .ne 6, 3) := by decide +kernel
theorem dX10_shift_67 : decode cX10_shift 67 = .ok (.bipush (-12), 2) := by decide +kernel
theorem dX10_shift_69 : decode cX10_shift 69 = .ok (.ireturn, 1) := by decide +kernel
theorem dX10_shift_70 : decode cX10_shift 70 = .ok (.aload 6, 2) := by decide +kernel
theorem dX10_shift_72 : decode cX10_shift 72 = .ok (.iload_n 2, 1) := by decide +kernel
theorem dX10_shift_73 : decode cX10_shift 73 = .ok (.iload 5, 2) := by decide +kernel
theorem dX10_shift_75 : decode cX10_shift 75 = .ok (.invokevirtual 346, 3) := by decide +kernel
theorem dX10_shift_78 : decode cX10_shift 78 = .ok (.ifCond .eq 15, 3) := by decide +kernel
theorem dX10_shift_81 : decode cX10_shift 81 = .ok (.aload 7, 2) := by decide +kernel
theorem dX10_shift_83 : decode cX10_shift 83 = .ok (.iload 4, 2) := by decide +kernel
theorem dX10_shift_85 : decode cX10_shift 85 = .ok (.iload 5, 2) := by decide +kernel
theorem dX10_shift_87 : decode cX10_shift 87 = .ok (.invokevirtual 346, 3) := by decide +kernel
theorem dX10_shift_90 : decode cX10_shift 90 = .ok (.ifCond .ne 6, 3) := by decide +kernel
theorem dX10_shift_93 : decode cX10_shift 93 = .ok (.bipush (-13), 2) := by decide +kernel
theorem dX10_shift_95 : decode cX10_shift 95 = .ok (.ireturn, 1) := by decide +kernel
theorem dX10_shift_96 : decode cX10_shift 96 = .ok (.aload 6, 2) := by decide +kernel
theorem dX10_shift_98 : decode cX10_shift 98 = .ok (.getfield 115, 3) := by decide +kernel
theorem dX10_shift_101 : decode cX10_shift 101 = .ok (.iload_n 2, 1) := by decide +kernel
theorem dX10_shift_102 : decode cX10_shift 102 = .ok (.aload 7, 2) := by decide +kernel
theorem dX10_shift_104 : decode cX10_shift 104 = .ok (.getfield 115, 3) := by decide +kernel
theorem dX10_shift_107 : decode cX10_shift 107 = .ok (.iload 4, 2) := by decide +kernel
theorem dX10_shift_109 : decode cX10_shift 109 = .ok (.iload 5, 2) := by decide +kernel
theorem dX10_shift_111 : decode cX10_shift 111 = .ok (.invokestatic 350, 3) := by decide +kernel
theorem dX10_shift_114 : decode cX10_shift 114 = .ok (.iload 5, 2) := by decide +kernel
theorem dX10_shift_116 : decode cX10_shift 116 = .ok (.ireturn, 1) := by decide +kernel
theorem dX10_taken_0 : decode cX10_taken 0 = .ok (.aload_n 0, 1) := by decide +kernel
theorem dX10_taken_1 : decode cX10_taken 1 = .ok (.iload_n 1, 1) := by decide +kernel
theorem dX10_taken_2 : decode cX10_taken 2 = .ok (.invokevirtual 102, 3) := by decide +kernel
theorem dX10_taken_5 : decode cX10_taken 5 = .ok (.astore_n 3, 1) := by decide +kernel
theorem dX10_taken_6 : decode cX10_taken 6 = .ok (.aload_n 3, 1) := by decide +kernel
theorem dX10_taken_7 : decode cX10_taken 7 = .ok (.ifnull 13, 3) := by decide +kernel
theorem dX10_taken_10 : decode cX10_taken 10 = .ok (.iload_n 2, 1) := by decide +kernel
theorem dX10_taken_11 : decode cX10_taken 11 = .ok (.ifCond .lt 9, 3) := by decide +kernel
theorem dX10_taken_14 : decode cX10_taken 14 = .ok (.iload_n 2, 1) := by decide +kernel
theorem dX10_taken_15 : decode cX10_taken 15 = .ok (.bipush 8, 2) := by decide +kernel
theorem dX10_taken_17 : decode cX10_taken 17 = .ok (.if_icmp .lt 5, 3) := by decide +kernel
theorem dX10_taken_20 : decode cX10_taken 20 = .ok (.iconst (-1), 1) := by decide +kernel
theorem dX10_taken_21 : decode cX10_taken 21 = .ok (.ireturn, 1) := by decide +kernel
theorem dX10_taken_22 : decode cX10_taken 22 = .ok (.aload_n 3, 1) := by decide +kernel
theorem dX10_taken_23 : decode cX10_taken 23 = .ok (.getfield 106, 3) := by decide +kernel
theorem dX10_taken_26 : decode cX10_taken 26 = .ok (.ifCond .ne 6, 3) := by decide +kernel
theorem dX10_taken_29 : decode cX10_taken 29 = .ok (.bipush (-11), 2) := by decide +kernel
theorem dX10_taken_31 : decode cX10_taken 31 = .ok (.ireturn, 1) := by decide +kernel
theorem dX10_taken_32 : decode cX10_taken 32 = .ok (.aload_n 3, 1) := by decide +kernel
theorem dX10_taken_33 : decode cX10_taken 33 = .ok (.getfield 106, 3) := by decide +kernel
theorem dX10_taken_36 : decode cX10_taken 36 = .ok (.iconst 1, 1) := by decide +kernel
theorem dX10_taken_37 : decode cX10_taken 37 = .ok (.if_icmp .ne 18, 3) := by decide +kernel
theorem dX10_taken_40 : decode cX10_taken 40 = .ok (.aload_n 0, 1) := by decide +kernel
theorem dX10_taken_41 : decode cX10_taken 41 = .ok (.getfield 64, 3) := by decide +kernel
theorem dX10_taken_44 : decode cX10_taken 44 = .ok (.aload_n 3, 1) := by decide +kernel
theorem dX10_taken_45 : decode cX10_taken 45 = .ok (.getfield 356, 3) := by decide +kernel
theorem dX10_taken_48 : decode cX10_taken 48 = .ok (.iload_n 2, 1) := by decide +kernel
theorem dX10_taken_49 : decode cX10_taken 49 = .ok (.invokevirtual 359, 3) := by decide +kernel
theorem dX10_taken_52 : decode cX10_taken 52 = .ok (.ifCond .ne 6, 3) := by decide +kernel
theorem dX10_taken_55 : decode cX10_taken 55 = .ok (.bipush (-12), 2) := by decide +kernel
theorem dX10_taken_57 : decode cX10_taken 57 = .ok (.ireturn, 1) := by decide +kernel
theorem dX10_taken_58 : decode cX10_taken 58 = .ok (.aload_n 0, 1) := by decide +kernel
theorem dX10_taken_59 : decode cX10_taken 59 = .ok (.getfield 64, 3) := by decide +kernel
theorem dX10_taken_62 : decode cX10_taken 62 = .ok (.aload_n 3, 1) := by decide +kernel
theorem dX10_taken_63 : decode cX10_taken 63 = .ok (.getfield 356, 3) := by decide +kernel
theorem dX10_taken_66 : decode cX10_taken 66 = .ok (.invokevirtual 362, 3) := by decide +kernel
theorem dX10_taken_69 : decode cX10_taken 69 = .ok (.ireturn, 1) := by decide +kernel
theorem dX10_count_0 : decode cX10_count 0 = .ok (.iload_n 1, 1) := by decide +kernel
theorem dX10_count_1 : decode cX10_count 1 = .ok (.tableswitch 111 0 7 #[47, 55, 63, 71, 79, 87, 95, 103], 47) := by decide +kernel
theorem dX10_count_48 : decode cX10_count 48 = .ok (.aload_n 0, 1) := by decide +kernel
theorem dX10_count_49 : decode cX10_count 49 = .ok (.getfield 12, 3) := by decide +kernel
theorem dX10_count_52 : decode cX10_count 52 = .ok (.getfield 79, 3) := by decide +kernel
theorem dX10_count_55 : decode cX10_count 55 = .ok (.ireturn, 1) := by decide +kernel
theorem dX10_count_56 : decode cX10_count 56 = .ok (.aload_n 0, 1) := by decide +kernel
theorem dX10_count_57 : decode cX10_count 57 = .ok (.getfield 12, 3) := by decide +kernel
theorem dX10_count_60 : decode cX10_count 60 = .ok (.getfield 94, 3) := by decide +kernel
theorem dX10_count_63 : decode cX10_count 63 = .ok (.ireturn, 1) := by decide +kernel
theorem dX10_count_64 : decode cX10_count 64 = .ok (.aload_n 0, 1) := by decide +kernel
theorem dX10_count_65 : decode cX10_count 65 = .ok (.getfield 44, 3) := by decide +kernel
theorem dX10_count_68 : decode cX10_count 68 = .ok (.getfield 365, 3) := by decide +kernel
theorem dX10_count_71 : decode cX10_count 71 = .ok (.ireturn, 1) := by decide +kernel
theorem dX10_count_72 : decode cX10_count 72 = .ok (.aload_n 0, 1) := by decide +kernel
theorem dX10_count_73 : decode cX10_count 73 = .ok (.getfield 44, 3) := by decide +kernel
theorem dX10_count_76 : decode cX10_count 76 = .ok (.getfield 368, 3) := by decide +kernel
theorem dX10_count_79 : decode cX10_count 79 = .ok (.ireturn, 1) := by decide +kernel
theorem dX10_count_80 : decode cX10_count 80 = .ok (.aload_n 0, 1) := by decide +kernel
theorem dX10_count_81 : decode cX10_count 81 = .ok (.getfield 19, 3) := by decide +kernel
theorem dX10_count_84 : decode cX10_count 84 = .ok (.getfield 199, 3) := by decide +kernel
theorem dX10_count_87 : decode cX10_count 87 = .ok (.ireturn, 1) := by decide +kernel
theorem dX10_count_88 : decode cX10_count 88 = .ok (.aload_n 0, 1) := by decide +kernel
theorem dX10_count_89 : decode cX10_count 89 = .ok (.getfield 57, 3) := by decide +kernel
theorem dX10_count_92 : decode cX10_count 92 = .ok (.getfield 303, 3) := by decide +kernel
theorem dX10_count_95 : decode cX10_count 95 = .ok (.ireturn, 1) := by decide +kernel
theorem dX10_count_96 : decode cX10_count 96 = .ok (.aload_n 0, 1) := by decide +kernel
theorem dX10_count_97 : decode cX10_count 97 = .ok (.getfield 64, 3) := by decide +kernel
theorem dX10_count_100 : decode cX10_count 100 = .ok (.getfield 312, 3) := by decide +kernel
theorem dX10_count_103 : decode cX10_count 103 = .ok (.ireturn, 1) := by decide +kernel
theorem dX10_count_104 : decode cX10_count 104 = .ok (.aload_n 0, 1) := by decide +kernel
theorem dX10_count_105 : decode cX10_count 105 = .ok (.getfield 64, 3) := by decide +kernel
theorem dX10_count_108 : decode cX10_count 108 = .ok (.getfield 371, 3) := by decide +kernel
theorem dX10_count_111 : decode cX10_count 111 = .ok (.ireturn, 1) := by decide +kernel
theorem dX10_count_112 : decode cX10_count 112 = .ok (.iconst (-1), 1) := by decide +kernel
theorem dX10_count_113 : decode cX10_count 113 = .ok (.ireturn, 1) := by decide +kernel
theorem dX11_within_0 : decode cX11_within 0 = .ok (.lload_n 0, 1) := by decide +kernel
theorem dX11_within_1 : decode cX11_within 1 = .ok (.lload_n 2, 1) := by decide +kernel
theorem dX11_within_2 : decode cX11_within 2 = .ok (.lcmp, 1) := by decide +kernel
theorem dX11_within_3 : decode cX11_within 3 = .ok (.ifCond .lt 14, 3) := by decide +kernel
theorem dX11_within_6 : decode cX11_within 6 = .ok (.lload_n 0, 1) := by decide +kernel
theorem dX11_within_7 : decode cX11_within 7 = .ok (.lload 4, 2) := by decide +kernel
theorem dX11_within_9 : decode cX11_within 9 = .ok (.lcmp, 1) := by decide +kernel
theorem dX11_within_10 : decode cX11_within 10 = .ok (.ifCond .gt 7, 3) := by decide +kernel
theorem dX11_within_13 : decode cX11_within 13 = .ok (.iconst 1, 1) := by decide +kernel
theorem dX11_within_14 : decode cX11_within 14 = .ok (.goto 4, 3) := by decide +kernel
theorem dX11_within_17 : decode cX11_within 17 = .ok (.iconst 0, 1) := by decide +kernel
theorem dX11_within_18 : decode cX11_within 18 = .ok (.ireturn, 1) := by decide +kernel
theorem dX11_init_0 : decode cX11_init 0 = .ok (.aload_n 0, 1) := by decide +kernel
theorem dX11_init_1 : decode cX11_init 1 = .ok (.invokespecial 3, 3) := by decide +kernel
theorem dX11_init_4 : decode cX11_init 4 = .ok (.aload_n 0, 1) := by decide +kernel
theorem dX11_init_5 : decode cX11_init 5 = .ok (.bipush 33, 2) := by decide +kernel
theorem dX11_init_7 : decode cX11_init 7 = .ok (.newarray .int, 2) := by decide +kernel
theorem dX11_init_9 : decode cX11_init 9 = .ok (.putfield 9, 3) := by decide +kernel
theorem dX11_init_12 : decode cX11_init 12 = .ok (.aload_n 0, 1) := by decide +kernel
theorem dX11_init_13 : decode cX11_init 13 = .ok (.bipush 40, 2) := by decide +kernel
theorem dX11_init_15 : decode cX11_init 15 = .ok (.newarray .int, 2) := by decide +kernel
theorem dX11_init_17 : decode cX11_init 17 = .ok (.putfield 13, 3) := by decide +kernel
theorem dX11_init_20 : decode cX11_init 20 = .ok (.aload_n 0, 1) := by decide +kernel
theorem dX11_init_21 : decode cX11_init 21 = .ok (.bipush 40, 2) := by decide +kernel
theorem dX11_init_23 : decode cX11_init 23 = .ok (.newarray .int, 2) := by decide +kernel
theorem dX11_init_25 : decode cX11_init 25 = .ok (.putfield 16, 3) := by decide +kernel
theorem dX11_init_28 : decode cX11_init 28 = .ok (.aload_n 0, 1) := by decide +kernel
theorem dX11_init_29 : decode cX11_init 29 = .ok (.bipush 40, 2) := by decide +kernel
theorem dX11_init_31 : decode cX11_init 31 = .ok (.newarray .int, 2) := by decide +kernel
theorem dX11_init_33 : decode cX11_init 33 = .ok (.putfield 19, 3) := by decide +kernel
theorem dX11_init_36 : decode cX11_init 36 = .ok (.aload_n 0, 1) := by decide +kernel
theorem dX11_init_37 : decode cX11_init 37 = .ok (.iconst 5, 1) := by decide +kernel
theorem dX11_init_38 : decode cX11_init 38 = .ok (.newarray .int, 2) := by decide +kernel
theorem dX11_init_40 : decode cX11_init 40 = .ok (.putfield 22, 3) := by decide +kernel
theorem dX11_init_43 : decode cX11_init 43 = .ok (.aload_n 0, 1) := by decide +kernel
theorem dX11_init_44 : decode cX11_init 44 = .ok (.iconst 5, 1) := by decide +kernel
theorem dX11_init_45 : decode cX11_init 45 = .ok (.newarray .int, 2) := by decide +kernel
theorem dX11_init_47 : decode cX11_init 47 = .ok (.putfield 25, 3) := by decide +kernel
theorem dX11_init_50 : decode cX11_init 50 = .ok (.aload_n 0, 1) := by decide +kernel
theorem dX11_init_51 : decode cX11_init 51 = .ok (.iconst 5, 1) := by decide +kernel
theorem dX11_init_52 : decode cX11_init 52 = .ok (.newarray .int, 2) := by decide +kernel
theorem dX11_init_54 : decode cX11_init 54 = .ok (.putfield 28, 3) := by decide +kernel
theorem dX11_init_57 : decode cX11_init 57 = .ok (.aload_n 0, 1) := by decide +kernel
theorem dX11_init_58 : decode cX11_init 58 = .ok (.bipush 6, 2) := by decide +kernel
theorem dX11_init_60 : decode cX11_init 60 = .ok (.newarray .int, 2) := by decide +kernel
theorem dX11_init_62 : decode cX11_init 62 = .ok (.putfield 31, 3) := by decide +kernel
theorem dX11_init_65 : decode cX11_init 65 = .ok (.aload_n 0, 1) := by decide +kernel
theorem dX11_init_66 : decode cX11_init 66 = .ok (.bipush 6, 2) := by decide +kernel
theorem dX11_init_68 : decode cX11_init 68 = .ok (.newarray .int, 2) := by decide +kernel
theorem dX11_init_70 : decode cX11_init 70 = .ok (.putfield 34, 3) := by decide +kernel
theorem dX11_init_73 : decode cX11_init 73 = .ok (.aload_n 0, 1) := by decide +kernel
theorem dX11_init_74 : decode cX11_init 74 = .ok (.bipush 6, 2) := by decide +kernel
theorem dX11_init_76 : decode cX11_init 76 = .ok (.newarray .int, 2) := by decide +kernel
theorem dX11_init_78 : decode cX11_init 78 = .ok (.putfield 37, 3) := by decide +kernel
theorem dX11_init_81 : decode cX11_init 81 = .ok (.aload_n 0, 1) := by decide +kernel
theorem dX11_init_82 : decode cX11_init 82 = .ok (.bipush 6, 2) := by decide +kernel
theorem dX11_init_84 : decode cX11_init 84 = .ok (.newarray .int, 2) := by decide +kernel
theorem dX11_init_86 : decode cX11_init 86 = .ok (.putfield 40, 3) := by decide +kernel
theorem dX11_init_89 : decode cX11_init 89 = .ok (.aload_n 0, 1) := by decide +kernel
theorem dX11_init_90 : decode cX11_init 90 = .ok (.bipush 6, 2) := by decide +kernel
theorem dX11_init_92 : decode cX11_init 92 = .ok (.newarray .int, 2) := by decide +kernel
theorem dX11_init_94 : decode cX11_init 94 = .ok (.putfield 43, 3) := by decide +kernel
theorem dX11_init_97 : decode cX11_init 97 = .ok (.aload_n 0, 1) := by decide +kernel
theorem dX11_init_98 : decode cX11_init 98 = .ok (.bipush 48, 2) := by decide +kernel
theorem dX11_init_100 : decode cX11_init 100 = .ok (.newarray .int, 2) := by decide +kernel
theorem dX11_init_102 : decode cX11_init 102 = .ok (.putfield 46, 3) := by decide +kernel
theorem dX11_init_105 : decode cX11_init 105 = .ok (.aload_n 0, 1) := by decide +kernel
theorem dX11_init_106 : decode cX11_init 106 = .ok (.bipush 6, 2) := by decide +kernel
theorem dX11_init_108 : decode cX11_init 108 = .ok (.newarray .int, 2) := by decide +kernel
theorem dX11_init_110 : decode cX11_init 110 = .ok (.putfield 49, 3) := by decide +kernel
theorem dX11_init_113 : decode cX11_init 113 = .ok (.aload_n 0, 1) := by decide +kernel
theorem dX11_init_114 : decode cX11_init 114 = .ok (.bipush 6, 2) := by decide +kernel
theorem dX11_init_116 : decode cX11_init 116 = .ok (.newarray .int, 2) := by decide +kernel
theorem dX11_init_118 : decode cX11_init 118 = .ok (.putfield 52, 3) := by decide +kernel
theorem dX11_init_121 : decode cX11_init 121 = .ok (.aload_n 0, 1) := by decide +kernel
theorem dX11_init_122 : decode cX11_init 122 = .ok (.bipush 120, 2) := by decide +kernel
theorem dX11_init_124 : decode cX11_init 124 = .ok (.newarray .int, 2) := by decide +kernel
theorem dX11_init_126 : decode cX11_init 126 = .ok (.putfield 55, 3) := by decide +kernel
theorem dX11_init_129 : decode cX11_init 129 = .ok (.aload_n 0, 1) := by decide +kernel
theorem dX11_init_130 : decode cX11_init 130 = .ok (.bipush 120, 2) := by decide +kernel
theorem dX11_init_132 : decode cX11_init 132 = .ok (.newarray .int, 2) := by decide +kernel
theorem dX11_init_134 : decode cX11_init 134 = .ok (.putfield 58, 3) := by decide +kernel
theorem dX11_init_137 : decode cX11_init 137 = .ok (.aload_n 0, 1) := by decide +kernel
theorem dX11_init_138 : decode cX11_init 138 = .ok (.iconst 4, 1) := by decide +kernel
theorem dX11_init_139 : decode cX11_init 139 = .ok (.newarray .int, 2) := by decide +kernel
theorem dX11_init_141 : decode cX11_init 141 = .ok (.putfield 61, 3) := by decide +kernel
theorem dX11_init_144 : decode cX11_init 144 = .ok (.aload_n 0, 1) := by decide +kernel
theorem dX11_init_145 : decode cX11_init 145 = .ok (.bipush 7, 2) := by decide +kernel
theorem dX11_init_147 : decode cX11_init 147 = .ok (.newarray .long, 2) := by decide +kernel
theorem dX11_init_149 : decode cX11_init 149 = .ok (.putfield 64, 3) := by decide +kernel
theorem dX11_init_152 : decode cX11_init 152 = .ok (.aload_n 0, 1) := by decide +kernel
theorem dX11_init_153 : decode cX11_init 153 = .ok (.sipush 800, 3) := by decide +kernel
theorem dX11_init_156 : decode cX11_init 156 = .ok (.newarray .int, 2) := by decide +kernel
theorem dX11_init_158 : decode cX11_init 158 = .ok (.putfield 68, 3) := by decide +kernel
theorem dX11_init_161 : decode cX11_init 161 = .ok (.aload_n 0, 1) := by decide +kernel
theorem dX11_init_162 : decode cX11_init 162 = .ok (.sipush 8400, 3) := by decide +kernel
theorem dX11_init_165 : decode cX11_init 165 = .ok (.newarray .long, 2) := by decide +kernel
theorem dX11_init_167 : decode cX11_init 167 = .ok (.putfield 71, 3) := by decide +kernel
theorem dX11_init_170 : decode cX11_init 170 = .ok (.aload_n 0, 1) := by decide +kernel
theorem dX11_init_171 : decode cX11_init 171 = .ok (.sipush 8400, 3) := by decide +kernel
theorem dX11_init_174 : decode cX11_init 174 = .ok (.newarray .boolean, 2) := by decide +kernel
theorem dX11_init_176 : decode cX11_init 176 = .ok (.putfield 74, 3) := by decide +kernel
theorem dX11_init_179 : decode cX11_init 179 = .ok (.aload_n 0, 1) := by decide +kernel
theorem dX11_init_180 : decode cX11_init 180 = .ok (.sipush 2800, 3) := by decide +kernel
theorem dX11_init_183 : decode cX11_init 183 = .ok (.newarray .long, 2) := by decide +kernel
theorem dX11_init_185 : decode cX11_init 185 = .ok (.putfield 78, 3) := by decide +kernel
theorem dX11_init_188 : decode cX11_init 188 = .ok (.aload_n 0, 1) := by decide +kernel
theorem dX11_init_189 : decode cX11_init 189 = .ok (.sipush 7200, 3) := by decide +kernel
theorem dX11_init_192 : decode cX11_init 192 = .ok (.newarray .boolean, 2) := by decide +kernel
theorem dX11_init_194 : decode cX11_init 194 = .ok (.putfield 81, 3) := by decide +kernel
theorem dX11_init_197 : decode cX11_init 197 = .ok (.aload_n 0, 1) := by decide +kernel
theorem dX11_init_198 : decode cX11_init 198 = .ok (.bipush 72, 2) := by decide +kernel
theorem dX11_init_200 : decode cX11_init 200 = .ok (.newarray .int, 2) := by decide +kernel
theorem dX11_init_202 : decode cX11_init 202 = .ok (.putfield 84, 3) := by decide +kernel
theorem dX11_init_205 : decode cX11_init 205 = .ok (.aload_n 0, 1) := by decide +kernel
theorem dX11_init_206 : decode cX11_init 206 = .ok (.bipush 96, 2) := by decide +kernel
theorem dX11_init_208 : decode cX11_init 208 = .ok (.newarray .int, 2) := by decide +kernel
theorem dX11_init_210 : decode cX11_init 210 = .ok (.putfield 87, 3) := by decide +kernel
theorem dX11_init_213 : decode cX11_init 213 = .ok (.aload_n 0, 1) := by decide +kernel
theorem dX11_init_214 : decode cX11_init 214 = .ok (.bipush 30, 2) := by decide +kernel
theorem dX11_init_216 : decode cX11_init 216 = .ok (.newarray .int, 2) := by decide +kernel
theorem dX11_init_218 : decode cX11_init 218 = .ok (.putfield 90, 3) := by decide +kernel
theorem dX11_init_221 : decode cX11_init 221 = .ok (.aload_n 0, 1) := by decide +kernel
theorem dX11_init_222 : decode cX11_init 222 = .ok (.iconst 4, 1) := by decide +kernel
theorem dX11_init_223 : decode cX11_init 223 = .ok (.newarray .int, 2) := by decide +kernel
theorem dX11_init_225 : decode cX11_init 225 = .ok (.putfield 93, 3) := by decide +kernel
theorem dX11_init_228 : decode cX11_init 228 = .ok (.aload_n 0, 1) := by decide +kernel
theorem dX11_init_229 : decode cX11_init 229 = .ok (.bipush 50, 2) := by decide +kernel
theorem dX11_init_231 : decode cX11_init 231 = .ok (.newarray .int, 2) := by decide +kernel
theorem dX11_init_233 : decode cX11_init 233 = .ok (.putfield 96, 3) := by decide +kernel
theorem dX11_init_236 : decode cX11_init 236 = .ok (.aload_n 0, 1) := by decide +kernel
theorem dX11_init_237 : decode cX11_init 237 = .ok (.bipush 24, 2) := by decide +kernel
theorem dX11_init_239 : decode cX11_init 239 = .ok (.newarray .int, 2) := by decide +kernel
theorem dX11_init_241 : decode cX11_init 241 = .ok (.putfield 99, 3) := by decide +kernel
theorem dX11_init_244 : decode cX11_init 244 = .ok (.aload_n 0, 1) := by decide +kernel
theorem dX11_init_245 : decode cX11_init 245 = .ok (.bipush 6, 2) := by decide +kernel
theorem dX11_init_247 : decode cX11_init 247 = .ok (.newarray .int, 2) := by decide +kernel
theorem dX11_init_249 : decode cX11_init 249 = .ok (.putfield 102, 3) := by decide +kernel
theorem dX11_init_252 : decode cX11_init 252 = .ok (.aload_n 0, 1) := by decide +kernel
theorem dX11_init_253 : decode cX11_init 253 = .ok (.bipush 6, 2) := by decide +kernel
theorem dX11_init_255 : decode cX11_init 255 = .ok (.newarray .int, 2) := by decide +kernel
theorem dX11_init_257 : decode cX11_init 257 = .ok (.putfield 105, 3) := by decide +kernel
theorem dX11_init_260 : decode cX11_init 260 = .ok (.aload_n 0, 1) := by decide +kernel
theorem dX11_init_261 : decode cX11_init 261 = .ok (.sipush 360, 3) := by decide +kernel
theorem dX11_init_264 : decode cX11_init 264 = .ok (.newarray .long, 2) := by decide +kernel
theorem dX11_init_266 : decode cX11_init 266 = .ok (.putfield 108, 3) := by decide +kernel
theorem dX11_init_269 : decode cX11_init 269 = .ok (.aload_n 0, 1) := by decide +kernel
theorem dX11_init_270 : decode cX11_init 270 = .ok (.bipush 60, 2) := by decide +kernel
theorem dX11_init_272 : decode cX11_init 272 = .ok (.newarray .long, 2) := by decide +kernel
theorem dX11_init_274 : decode cX11_init 274 = .ok (.putfield 111, 3) := by decide +kernel
theorem dX11_init_277 : decode cX11_init 277 = .ok (.iconst 0, 1) := by decide +kernel
theorem dX11_init_278 : decode cX11_init 278 = .ok (.istore_n 1, 1) := by decide +kernel
theorem dX11_init_279 : decode cX11_init 279 = .ok (.iload_n 1, 1) := by decide +kernel
theorem dX11_init_280 : decode cX11_init 280 = .ok (.bipush 6, 2) := by decide +kernel
theorem dX11_init_282 : decode cX11_init 282 = .ok (.if_icmp .ge 16, 3) := by decide +kernel
theorem dX11_init_285 : decode cX11_init 285 = .ok (.aload_n 0, 1) := by decide +kernel
theorem dX11_init_286 : decode cX11_init 286 = .ok (.getfield 102, 3) := by decide +kernel
theorem dX11_init_289 : decode cX11_init 289 = .ok (.iload_n 1, 1) := by decide +kernel
theorem dX11_init_290 : decode cX11_init 290 = .ok (.iconst (-1), 1) := by decide +kernel
theorem dX11_init_291 : decode cX11_init 291 = .ok (.iastore, 1) := by decide +kernel
theorem dX11_init_292 : decode cX11_init 292 = .ok (.iinc 1 1, 3) := by decide +kernel
theorem dX11_init_295 : decode cX11_init 295 = .ok (.goto (-16), 3) := by decide +kernel
theorem dX11_init_298 : decode cX11_init 298 = .ok (.aload_n 0, 1) := by decide +kernel
theorem dX11_init_299 : decode cX11_init 299 = .ok (.iconst (-1), 1) := by decide +kernel
theorem dX11_init_300 : decode cX11_init 300 = .ok (.putfield 114, 3) := by decide +kernel
theorem dX11_init_303 : decode cX11_init 303 = .ok (.return_, 1) := by decide +kernel
theorem dX11_becomes_0 : decode cX11_becomes 0 = .ok (.aload_n 0, 1) := by decide +kernel
theorem dX11_becomes_1 : decode cX11_becomes 1 = .ok (.getfield 9, 3) := by decide +kernel
theorem dX11_becomes_4 : decode cX11_becomes 4 = .ok (.iload_n 1, 1) := by decide +kernel
theorem dX11_becomes_5 : decode cX11_becomes 5 = .ok (.iaload, 1) := by decide +kernel
theorem dX11_becomes_6 : decode cX11_becomes 6 = .ok (.istore_n 3, 1) := by decide +kernel
theorem dX11_becomes_7 : decode cX11_becomes 7 = .ok (.iload_n 3, 1) := by decide +kernel
theorem dX11_becomes_8 : decode cX11_becomes 8 = .ok (.iload_n 2, 1) := by decide +kernel
theorem dX11_becomes_9 : decode cX11_becomes 9 = .ok (.if_icmp .ne 5, 3) := by decide +kernel
theorem dX11_becomes_12 : decode cX11_becomes 12 = .ok (.iload_n 3, 1) := by decide +kernel
theorem dX11_becomes_13 : decode cX11_becomes 13 = .ok (.ireturn, 1) := by decide +kernel
theorem dX11_becomes_14 : decode cX11_becomes 14 = .ok (.aload_n 0, 1) := by decide +kernel
theorem dX11_becomes_15 : decode cX11_becomes 15 = .ok (.getfield 118, 3) := by decide +kernel
theorem dX11_becomes_18 : decode cX11_becomes 18 = .ok (.bipush 40, 2) := by decide +kernel
theorem dX11_becomes_20 : decode cX11_becomes 20 = .ok (.if_icmp .ne 77, 3) := by decide +kernel
theorem dX11_becomes_23 : decode cX11_becomes 23 = .ok (.iconst 1, 1) := by decide +kernel
theorem dX11_becomes_24 : decode cX11_becomes 24 = .ok (.istore 4, 2) := by decide +kernel
theorem dX11_becomes_26 : decode cX11_becomes 26 = .ok (.iload 4, 2) := by decide +kernel
theorem dX11_becomes_28 : decode cX11_becomes 28 = .ok (.bipush 40, 2) := by decide +kernel
theorem dX11_becomes_30 : decode cX11_becomes 30 = .ok (.if_icmp .ge 57, 3) := by decide +kernel
theorem dX11_becomes_33 : decode cX11_becomes 33 = .ok (.aload_n 0, 1) := by decide +kernel
theorem dX11_becomes_34 : decode cX11_becomes 34 = .ok (.getfield 13, 3) := by decide +kernel
theorem dX11_becomes_37 : decode cX11_becomes 37 = .ok (.iload 4, 2) := by decide +kernel
theorem dX11_becomes_39 : decode cX11_becomes 39 = .ok (.iconst 1, 1) := by decide +kernel
theorem dX11_becomes_40 : decode cX11_becomes 40 = .ok (.isub, 1) := by decide +kernel
theorem dX11_becomes_41 : decode cX11_becomes 41 = .ok (.aload_n 0, 1) := by decide +kernel
theorem dX11_becomes_42 : decode cX11_becomes 42 = .ok (.getfield 13, 3) := by decide +kernel
theorem dX11_becomes_45 : decode cX11_becomes 45 = .ok (.iload 4, 2) := by decide +kernel
theorem dX11_becomes_47 : decode cX11_becomes 47 = .ok (.iaload, 1) := by decide +kernel
theorem dX11_becomes_48 : decode cX11_becomes 48 = .ok (.iastore, 1) := by decide +kernel
theorem dX11_becomes_49 : decode cX11_becomes 49 = .ok (.aload_n 0, 1) := by decide +kernel
theorem dX11_becomes_50 : decode cX11_becomes 50 = .ok (.getfield 16, 3) := by decide +kernel
theorem dX11_becomes_53 : decode cX11_becomes 53 = .ok (.iload 4, 2) := by decide +kernel
theorem dX11_becomes_55 : decode cX11_becomes 55 = .ok (.iconst 1, 1) := by decide +kernel
theorem dX11_becomes_56 : decode cX11_becomes 56 = .ok (.isub, 1) := by decide +kernel
theorem dX11_becomes_57 : decode cX11_becomes 57 = .ok (.aload_n 0, 1) := by decide +kernel
theorem dX11_becomes_58 : decode cX11_becomes 58 = .ok (.getfield 16, 3) := by decide +kernel
theorem dX11_becomes_61 : decode cX11_becomes 61 = .ok (.iload 4, 2) := by decide +kernel
theorem dX11_becomes_63 : decode cX11_becomes 63 = .ok (.iaload, 1) := by decide +kernel
theorem dX11_becomes_64 : decode cX11_becomes 64 = .ok (.iastore, 1) := by decide +kernel
theorem dX11_becomes_65 : decode cX11_becomes 65 = .ok (.aload_n 0, 1) := by decide +kernel
theorem dX11_becomes_66 : decode cX11_becomes 66 = .ok (.getfield 19, 3) := by decide +kernel
theorem dX11_becomes_69 : decode cX11_becomes 69 = .ok (.iload 4, 2) := by decide +kernel
theorem dX11_becomes_71 : decode cX11_becomes 71 = .ok (.iconst 1, 1) := by decide +kernel
theorem dX11_becomes_72 : decode cX11_becomes 72 = .ok (.isub, 1) := by decide +kernel
theorem dX11_becomes_73 : decode cX11_becomes 73 = .ok (.aload_n 0, 1) := by decide +kernel
theorem dX11_becomes_74 : decode cX11_becomes 74 = .ok (.getfield 19, 3) := by decide +kernel
theorem dX11_becomes_77 : decode cX11_becomes 77 = .ok (.iload 4, 2) := by decide +kernel
theorem dX11_becomes_79 : decode cX11_becomes 79 = .ok (.iaload, 1) := by decide +kernel
theorem dX11_becomes_80 : decode cX11_becomes 80 = .ok (.iastore, 1) := by decide +kernel
theorem dX11_becomes_81 : decode cX11_becomes 81 = .ok (.iinc 4 1, 3) := by decide +kernel
theorem dX11_becomes_84 : decode cX11_becomes 84 = .ok (.goto (-58), 3) := by decide +kernel
theorem dX11_becomes_87 : decode cX11_becomes 87 = .ok (.aload_n 0, 1) := by decide +kernel
theorem dX11_becomes_88 : decode cX11_becomes 88 = .ok (.dup, 1) := by decide +kernel
theorem dX11_becomes_89 : decode cX11_becomes 89 = .ok (.getfield 118, 3) := by decide +kernel
theorem dX11_becomes_92 : decode cX11_becomes 92 = .ok (.iconst 1, 1) := by decide +kernel
theorem dX11_becomes_93 : decode cX11_becomes 93 = .ok (.isub, 1) := by decide +kernel
theorem dX11_becomes_94 : decode cX11_becomes 94 = .ok (.putfield 118, 3) := by decide +kernel
theorem dX11_becomes_97 : decode cX11_becomes 97 = .ok (.aload_n 0, 1) := by decide +kernel
theorem dX11_becomes_98 : decode cX11_becomes 98 = .ok (.getfield 13, 3) := by decide +kernel
theorem dX11_becomes_101 : decode cX11_becomes 101 = .ok (.aload_n 0, 1) := by decide +kernel
theorem dX11_becomes_102 : decode cX11_becomes 102 = .ok (.getfield 118, 3) := by decide +kernel
theorem dX11_becomes_105 : decode cX11_becomes 105 = .ok (.iload_n 1, 1) := by decide +kernel
theorem dX11_becomes_106 : decode cX11_becomes 106 = .ok (.iastore, 1) := by decide +kernel
theorem dX11_becomes_107 : decode cX11_becomes 107 = .ok (.aload_n 0, 1) := by decide +kernel
theorem dX11_becomes_108 : decode cX11_becomes 108 = .ok (.getfield 16, 3) := by decide +kernel
theorem dX11_becomes_111 : decode cX11_becomes 111 = .ok (.aload_n 0, 1) := by decide +kernel
theorem dX11_becomes_112 : decode cX11_becomes 112 = .ok (.getfield 118, 3) := by decide +kernel
theorem dX11_becomes_115 : decode cX11_becomes 115 = .ok (.iload_n 3, 1) := by decide +kernel
theorem dX11_becomes_116 : decode cX11_becomes 116 = .ok (.iastore, 1) := by decide +kernel
theorem dX11_becomes_117 : decode cX11_becomes 117 = .ok (.aload_n 0, 1) := by decide +kernel
theorem dX11_becomes_118 : decode cX11_becomes 118 = .ok (.getfield 19, 3) := by decide +kernel
theorem dX11_becomes_121 : decode cX11_becomes 121 = .ok (.aload_n 0, 1) := by decide +kernel
theorem dX11_becomes_122 : decode cX11_becomes 122 = .ok (.getfield 118, 3) := by decide +kernel
theorem dX11_becomes_125 : decode cX11_becomes 125 = .ok (.iload_n 2, 1) := by decide +kernel
theorem dX11_becomes_126 : decode cX11_becomes 126 = .ok (.iastore, 1) := by decide +kernel
theorem dX11_becomes_127 : decode cX11_becomes 127 = .ok (.aload_n 0, 1) := by decide +kernel
theorem dX11_becomes_128 : decode cX11_becomes 128 = .ok (.dup, 1) := by decide +kernel
theorem dX11_becomes_129 : decode cX11_becomes 129 = .ok (.getfield 118, 3) := by decide +kernel
theorem dX11_becomes_132 : decode cX11_becomes 132 = .ok (.iconst 1, 1) := by decide +kernel
theorem dX11_becomes_133 : decode cX11_becomes 133 = .ok (.iadd, 1) := by decide +kernel
theorem dX11_becomes_134 : decode cX11_becomes 134 = .ok (.putfield 118, 3) := by decide +kernel
theorem dX11_becomes_137 : decode cX11_becomes 137 = .ok (.aload_n 0, 1) := by decide +kernel
theorem dX11_becomes_138 : decode cX11_becomes 138 = .ok (.aload_n 0, 1) := by decide +kernel
theorem dX11_becomes_139 : decode cX11_becomes 139 = .ok (.getfield 118, 3) := by decide +kernel
theorem dX11_becomes_142 : decode cX11_becomes 142 = .ok (.putfield 121, 3) := by decide +kernel
theorem dX11_becomes_145 : decode cX11_becomes 145 = .ok (.aload_n 0, 1) := by decide +kernel
theorem dX11_becomes_146 : decode cX11_becomes 146 = .ok (.getfield 9, 3) := by decide +kernel
theorem dX11_becomes_149 : decode cX11_becomes 149 = .ok (.iload_n 1, 1) := by decide +kernel
theorem dX11_becomes_150 : decode cX11_becomes 150 = .ok (.iload_n 2, 1) := by decide +kernel
theorem dX11_becomes_151 : decode cX11_becomes 151 = .ok (.iastore, 1) := by decide +kernel
theorem dX11_becomes_152 : decode cX11_becomes 152 = .ok (.iload_n 3, 1) := by decide +kernel
theorem dX11_becomes_153 : decode cX11_becomes 153 = .ok (.ireturn, 1) := by decide +kernel
theorem dX11_undo_0 : decode cX11_undo 0 = .ok (.aload_n 0, 1) := by decide +kernel
theorem dX11_undo_1 : decode cX11_undo 1 = .ok (.getfield 118, 3) := by decide +kernel
theorem dX11_undo_4 : decode cX11_undo 4 = .ok (.ifCond .ne 6, 3) := by decide +kernel
theorem dX11_undo_7 : decode cX11_undo 7 = .ok (.bipush (-5), 2) := by decide +kernel
theorem dX11_undo_9 : decode cX11_undo 9 = .ok (.ireturn, 1) := by decide +kernel
theorem dX11_undo_10 : decode cX11_undo 10 = .ok (.aload_n 0, 1) := by decide +kernel
theorem dX11_undo_11 : decode cX11_undo 11 = .ok (.dup, 1) := by decide +kernel
theorem dX11_undo_12 : decode cX11_undo 12 = .ok (.getfield 118, 3) := by decide +kernel
theorem dX11_undo_15 : decode cX11_undo 15 = .ok (.iconst 1, 1) := by decide +kernel
theorem dX11_undo_16 : decode cX11_undo 16 = .ok (.isub, 1) := by decide +kernel
theorem dX11_undo_17 : decode cX11_undo 17 = .ok (.putfield 118, 3) := by decide +kernel
theorem dX11_undo_20 : decode cX11_undo 20 = .ok (.aload_n 0, 1) := by decide +kernel
theorem dX11_undo_21 : decode cX11_undo 21 = .ok (.getfield 9, 3) := by decide +kernel
theorem dX11_undo_24 : decode cX11_undo 24 = .ok (.aload_n 0, 1) := by decide +kernel
theorem dX11_undo_25 : decode cX11_undo 25 = .ok (.getfield 13, 3) := by decide +kernel
theorem dX11_undo_28 : decode cX11_undo 28 = .ok (.aload_n 0, 1) := by decide +kernel
theorem dX11_undo_29 : decode cX11_undo 29 = .ok (.getfield 118, 3) := by decide +kernel
theorem dX11_undo_32 : decode cX11_undo 32 = .ok (.iaload, 1) := by decide +kernel
theorem dX11_undo_33 : decode cX11_undo 33 = .ok (.aload_n 0, 1) := by decide +kernel
theorem dX11_undo_34 : decode cX11_undo 34 = .ok (.getfield 16, 3) := by decide +kernel
theorem dX11_undo_37 : decode cX11_undo 37 = .ok (.aload_n 0, 1) := by decide +kernel
theorem dX11_undo_38 : decode cX11_undo 38 = .ok (.getfield 118, 3) := by decide +kernel
theorem dX11_undo_41 : decode cX11_undo 41 = .ok (.iaload, 1) := by decide +kernel
theorem dX11_undo_42 : decode cX11_undo 42 = .ok (.iastore, 1) := by decide +kernel
theorem dX11_undo_43 : decode cX11_undo 43 = .ok (.aload_n 0, 1) := by decide +kernel
theorem dX11_undo_44 : decode cX11_undo 44 = .ok (.getfield 118, 3) := by decide +kernel
theorem dX11_undo_47 : decode cX11_undo 47 = .ok (.ireturn, 1) := by decide +kernel
theorem dX11_redo_0 : decode cX11_redo 0 = .ok (.aload_n 0, 1) := by decide +kernel
theorem dX11_redo_1 : decode cX11_redo 1 = .ok (.getfield 118, 3) := by decide +kernel
theorem dX11_redo_4 : decode cX11_redo 4 = .ok (.aload_n 0, 1) := by decide +kernel
theorem dX11_redo_5 : decode cX11_redo 5 = .ok (.getfield 121, 3) := by decide +kernel
theorem dX11_redo_8 : decode cX11_redo 8 = .ok (.if_icmp .ne 6, 3) := by decide +kernel
theorem dX11_redo_11 : decode cX11_redo 11 = .ok (.bipush (-5), 2) := by decide +kernel
theorem dX11_redo_13 : decode cX11_redo 13 = .ok (.ireturn, 1) := by decide +kernel
theorem dX11_redo_14 : decode cX11_redo 14 = .ok (.aload_n 0, 1) := by decide +kernel
theorem dX11_redo_15 : decode cX11_redo 15 = .ok (.getfield 9, 3) := by decide +kernel
theorem dX11_redo_18 : decode cX11_redo 18 = .ok (.aload_n 0, 1) := by decide +kernel
theorem dX11_redo_19 : decode cX11_redo 19 = .ok (.getfield 13, 3) := by decide +kernel
theorem dX11_redo_22 : decode cX11_redo 22 = .ok (.aload_n 0, 1) := by decide +kernel
theorem dX11_redo_23 : decode cX11_redo 23 = .ok (.getfield 118, 3) := by decide +kernel
theorem dX11_redo_26 : decode cX11_redo 26 = .ok (.iaload, 1) := by decide +kernel
theorem dX11_redo_27 : decode cX11_redo 27 = .ok (.aload_n 0, 1) := by decide +kernel
theorem dX11_redo_28 : decode cX11_redo 28 = .ok (.getfield 19, 3) := by decide +kernel
theorem dX11_redo_31 : decode cX11_redo 31 = .ok (.aload_n 0, 1) := by decide +kernel
theorem dX11_redo_32 : decode cX11_redo 32 = .ok (.getfield 118, 3) := by decide +kernel
theorem dX11_redo_35 : decode cX11_redo 35 = .ok (.iaload, 1) := by decide +kernel
theorem dX11_redo_36 : decode cX11_redo 36 = .ok (.iastore, 1) := by decide +kernel
theorem dX11_redo_37 : decode cX11_redo 37 = .ok (.aload_n 0, 1) := by decide +kernel
theorem dX11_redo_38 : decode cX11_redo 38 = .ok (.dup, 1) := by decide +kernel
theorem dX11_redo_39 : decode cX11_redo 39 = .ok (.getfield 118, 3) := by decide +kernel
theorem dX11_redo_42 : decode cX11_redo 42 = .ok (.iconst 1, 1) := by decide +kernel
theorem dX11_redo_43 : decode cX11_redo 43 = .ok (.iadd, 1) := by decide +kernel
theorem dX11_redo_44 : decode cX11_redo 44 = .ok (.putfield 118, 3) := by decide +kernel
theorem dX11_redo_47 : decode cX11_redo 47 = .ok (.aload_n 0, 1) := by decide +kernel
theorem dX11_redo_48 : decode cX11_redo 48 = .ok (.getfield 121, 3) := by decide +kernel
theorem dX11_redo_51 : decode cX11_redo 51 = .ok (.aload_n 0, 1) := by decide +kernel
theorem dX11_redo_52 : decode cX11_redo 52 = .ok (.getfield 118, 3) := by decide +kernel
theorem dX11_redo_55 : decode cX11_redo 55 = .ok (.isub, 1) := by decide +kernel
theorem dX11_redo_56 : decode cX11_redo 56 = .ok (.ireturn, 1) := by decide +kernel
theorem dX11_isPerson_0 : decode cX11_isPerson 0 = .ok (.iload_n 1, 1) := by decide +kernel
theorem dX11_isPerson_1 : decode cX11_isPerson 1 = .ok (.i2l, 1) := by decide +kernel
theorem dX11_isPerson_2 : decode cX11_isPerson 2 = .ok (.lconst 0, 1) := by decide +kernel
theorem dX11_isPerson_3 : decode cX11_isPerson 3 = .ok (.aload_n 0, 1) := by decide +kernel
theorem dX11_isPerson_4 : decode cX11_isPerson 4 = .ok (.getfield 124, 3) := by decide +kernel
theorem dX11_isPerson_7 : decode cX11_isPerson 7 = .ok (.iconst 1, 1) := by decide +kernel
theorem dX11_isPerson_8 : decode cX11_isPerson 8 = .ok (.isub, 1) := by decide +kernel
theorem dX11_isPerson_9 : decode cX11_isPerson 9 = .ok (.i2l, 1) := by decide +kernel
theorem dX11_isPerson_10 : decode cX11_isPerson 10 = .ok (.invokestatic 127, 3) := by decide +kernel
theorem dX11_isPerson_13 : decode cX11_isPerson 13 = .ok (.ireturn, 1) := by decide +kernel
theorem dX11_isThing_0 : decode cX11_isThing 0 = .ok (.iload_n 1, 1) := by decide +kernel
theorem dX11_isThing_1 : decode cX11_isThing 1 = .ok (.i2l, 1) := by decide +kernel
theorem dX11_isThing_2 : decode cX11_isThing 2 = .ok (.lconst 0, 1) := by decide +kernel
theorem dX11_isThing_3 : decode cX11_isThing 3 = .ok (.aload_n 0, 1) := by decide +kernel
theorem dX11_isThing_4 : decode cX11_isThing 4 = .ok (.getfield 131, 3) := by decide +kernel
theorem dX11_isThing_7 : decode cX11_isThing 7 = .ok (.iconst 1, 1) := by decide +kernel
theorem dX11_isThing_8 : decode cX11_isThing 8 = .ok (.isub, 1) := by decide +kernel
theorem dX11_isThing_9 : decode cX11_isThing 9 = .ok (.i2l, 1) := by decide +kernel
theorem dX11_isThing_10 : decode cX11_isThing 10 = .ok (.invokestatic 127, 3) := by decide +kernel
theorem dX11_isThing_13 : decode cX11_isThing 13 = .ok (.ireturn, 1) := by decide +kernel
theorem dX11_person_0 : decode cX11_person 0 = .ok (.iload_n 1, 1) := by decide +kernel
theorem dX11_person_1 : decode cX11_person 1 = .ok (.i2l, 1) := by decide +kernel
theorem dX11_person_2 : decode cX11_person 2 = .ok (.lconst 1, 1) := by decide +kernel
theorem dX11_person_3 : decode cX11_person 3 = .ok (.ldc2_w 134, 3) := by decide +kernel
theorem dX11_person_6 : decode cX11_person 6 = .ok (.invokestatic 127, 3) := by decide +kernel
theorem dX11_person_9 : decode cX11_person 9 = .ok (.ifCond .eq 15, 3) := by decide +kernel
theorem dX11_person_12 : decode cX11_person 12 = .ok (.iload_n 2, 1) := by decide +kernel
theorem dX11_person_13 : decode cX11_person 13 = .ok (.i2l, 1) := by decide +kernel
theorem dX11_person_14 : decode cX11_person 14 = .ok (.lconst 0, 1) := by decide +kernel
theorem dX11_person_15 : decode cX11_person 15 = .ok (.ldc2_w 136, 3) := by decide +kernel
theorem dX11_person_18 : decode cX11_person 18 = .ok (.invokestatic 127, 3) := by decide +kernel
theorem dX11_person_21 : decode cX11_person 21 = .ok (.ifCond .ne 5, 3) := by decide +kernel
theorem dX11_person_24 : decode cX11_person 24 = .ok (.iconst (-1), 1) := by decide +kernel
theorem dX11_person_25 : decode cX11_person 25 = .ok (.ireturn, 1) := by decide +kernel
theorem dX11_person_26 : decode cX11_person 26 = .ok (.aload_n 0, 1) := by decide +kernel
theorem dX11_person_27 : decode cX11_person 27 = .ok (.getfield 124, 3) := by decide +kernel
theorem dX11_person_30 : decode cX11_person 30 = .ok (.iconst 5, 1) := by decide +kernel
theorem dX11_person_31 : decode cX11_person 31 = .ok (.if_icmp .ne 6, 3) := by decide +kernel
theorem dX11_person_34 : decode cX11_person 34 = .ok (.bipush (-3), 2) := by decide +kernel
theorem dX11_person_36 : decode cX11_person 36 = .ok (.ireturn, 1) := by decide +kernel
theorem dX11_person_37 : decode cX11_person 37 = .ok (.aload_n 0, 1) := by decide +kernel
theorem dX11_person_38 : decode cX11_person 38 = .ok (.getfield 9, 3) := by decide +kernel
theorem dX11_person_41 : decode cX11_person 41 = .ok (.aload_n 0, 1) := by decide +kernel
theorem dX11_person_42 : decode cX11_person 42 = .ok (.getfield 124, 3) := by decide +kernel
theorem dX11_person_45 : decode cX11_person 45 = .ok (.iload_n 1, 1) := by decide +kernel
theorem dX11_person_46 : decode cX11_person 46 = .ok (.iastore, 1) := by decide +kernel
theorem dX11_person_47 : decode cX11_person 47 = .ok (.aload_n 0, 1) := by decide +kernel
theorem dX11_person_48 : decode cX11_person 48 = .ok (.getfield 9, 3) := by decide +kernel
theorem dX11_person_51 : decode cX11_person 51 = .ok (.iconst 5, 1) := by decide +kernel
theorem dX11_person_52 : decode cX11_person 52 = .ok (.aload_n 0, 1) := by decide +kernel
theorem dX11_person_53 : decode cX11_person 53 = .ok (.getfield 124, 3) := by decide +kernel
theorem dX11_person_56 : decode cX11_person 56 = .ok (.iadd, 1) := by decide +kernel
theorem dX11_person_57 : decode cX11_person 57 = .ok (.iload_n 2, 1) := by decide +kernel
theorem dX11_person_58 : decode cX11_person 58 = .ok (.iastore, 1) := by decide +kernel
theorem dX11_person_59 : decode cX11_person 59 = .ok (.aload_n 0, 1) := by decide +kernel
theorem dX11_person_60 : decode cX11_person 60 = .ok (.getfield 9, 3) := by decide +kernel
theorem dX11_person_63 : decode cX11_person 63 = .ok (.bipush 10, 2) := by decide +kernel
theorem dX11_person_65 : decode cX11_person 65 = .ok (.aload_n 0, 1) := by decide +kernel
theorem dX11_person_66 : decode cX11_person 66 = .ok (.getfield 124, 3) := by decide +kernel
theorem dX11_person_69 : decode cX11_person 69 = .ok (.iadd, 1) := by decide +kernel
theorem dX11_person_70 : decode cX11_person 70 = .ok (.iconst 0, 1) := by decide +kernel
theorem dX11_person_71 : decode cX11_person 71 = .ok (.iastore, 1) := by decide +kernel
theorem dX11_person_72 : decode cX11_person 72 = .ok (.aload_n 0, 1) := by decide +kernel
theorem dX11_person_73 : decode cX11_person 73 = .ok (.dup, 1) := by decide +kernel
theorem dX11_person_74 : decode cX11_person 74 = .ok (.getfield 124, 3) := by decide +kernel
theorem dX11_person_77 : decode cX11_person 77 = .ok (.iconst 1, 1) := by decide +kernel
theorem dX11_person_78 : decode cX11_person 78 = .ok (.iadd, 1) := by decide +kernel
theorem dX11_person_79 : decode cX11_person 79 = .ok (.putfield 124, 3) := by decide +kernel
theorem dX11_person_82 : decode cX11_person 82 = .ok (.aload_n 0, 1) := by decide +kernel
theorem dX11_person_83 : decode cX11_person 83 = .ok (.getfield 124, 3) := by decide +kernel
theorem dX11_person_86 : decode cX11_person 86 = .ok (.iconst 1, 1) := by decide +kernel
theorem dX11_person_87 : decode cX11_person 87 = .ok (.isub, 1) := by decide +kernel
theorem dX11_person_88 : decode cX11_person 88 = .ok (.ireturn, 1) := by decide +kernel
theorem dX11_isOne_0 : decode cX11_isOne 0 = .ok (.lload_n 1, 1) := by decide +kernel
theorem dX11_isOne_1 : decode cX11_isOne 1 = .ok (.lconst 0, 1) := by decide +kernel
theorem dX11_isOne_2 : decode cX11_isOne 2 = .ok (.aload_n 0, 1) := by decide +kernel
theorem dX11_isOne_3 : decode cX11_isOne 3 = .ok (.getfield 124, 3) := by decide +kernel
theorem dX11_isOne_6 : decode cX11_isOne 6 = .ok (.iconst 1, 1) := by decide +kernel
theorem dX11_isOne_7 : decode cX11_isOne 7 = .ok (.isub, 1) := by decide +kernel
theorem dX11_isOne_8 : decode cX11_isOne 8 = .ok (.i2l, 1) := by decide +kernel
theorem dX11_isOne_9 : decode cX11_isOne 9 = .ok (.invokestatic 127, 3) := by decide +kernel
theorem dX11_isOne_12 : decode cX11_isOne 12 = .ok (.ifCond .eq 30, 3) := by decide +kernel
theorem dX11_isOne_15 : decode cX11_isOne 15 = .ok (.lload_n 3, 1) := by decide +kernel
theorem dX11_isOne_16 : decode cX11_isOne 16 = .ok (.lconst 0, 1) := by decide +kernel
theorem dX11_isOne_17 : decode cX11_isOne 17 = .ok (.ldc2_w 136, 3) := by decide +kernel
theorem dX11_isOne_20 : decode cX11_isOne 20 = .ok (.invokestatic 127, 3) := by decide +kernel
theorem dX11_isOne_23 : decode cX11_isOne 23 = .ok (.ifCond .eq 19, 3) := by decide +kernel
theorem dX11_isOne_26 : decode cX11_isOne 26 = .ok (.lload 5, 2) := by decide +kernel
theorem dX11_isOne_28 : decode cX11_isOne 28 = .ok (.lconst 0, 1) := by decide +kernel
theorem dX11_isOne_29 : decode cX11_isOne 29 = .ok (.ldc2_w 136, 3) := by decide +kernel
theorem dX11_isOne_32 : decode cX11_isOne 32 = .ok (.invokestatic 127, 3) := by decide +kernel
theorem dX11_isOne_35 : decode cX11_isOne 35 = .ok (.ifCond .eq 7, 3) := by decide +kernel
theorem dX11_isOne_38 : decode cX11_isOne 38 = .ok (.iconst 1, 1) := by decide +kernel
theorem dX11_isOne_39 : decode cX11_isOne 39 = .ok (.goto 4, 3) := by decide +kernel
theorem dX11_isOne_42 : decode cX11_isOne 42 = .ok (.iconst 0, 1) := by decide +kernel
theorem dX11_isOne_43 : decode cX11_isOne 43 = .ok (.ireturn, 1) := by decide +kernel
theorem dX11_adds_0 : decode cX11_adds 0 = .ok (.aload_n 0, 1) := by decide +kernel
theorem dX11_adds_1 : decode cX11_adds 1 = .ok (.getfield 131, 3) := by decide +kernel
theorem dX11_adds_4 : decode cX11_adds 4 = .ok (.istore 4, 2) := by decide +kernel
theorem dX11_adds_6 : decode cX11_adds 6 = .ok (.aload_n 0, 1) := by decide +kernel
theorem dX11_adds_7 : decode cX11_adds 7 = .ok (.getfield 31, 3) := by decide +kernel
theorem dX11_adds_10 : decode cX11_adds 10 = .ok (.iload 4, 2) := by decide +kernel
theorem dX11_adds_12 : decode cX11_adds 12 = .ok (.iload_n 1, 1) := by decide +kernel
theorem dX11_adds_13 : decode cX11_adds 13 = .ok (.iastore, 1) := by decide +kernel
theorem dX11_adds_14 : decode cX11_adds 14 = .ok (.aload_n 0, 1) := by decide +kernel
theorem dX11_adds_15 : decode cX11_adds 15 = .ok (.getfield 9, 3) := by decide +kernel
theorem dX11_adds_18 : decode cX11_adds 18 = .ok (.bipush 15, 2) := by decide +kernel
theorem dX11_adds_20 : decode cX11_adds 20 = .ok (.iload 4, 2) := by decide +kernel
theorem dX11_adds_22 : decode cX11_adds 22 = .ok (.iadd, 1) := by decide +kernel
theorem dX11_adds_23 : decode cX11_adds 23 = .ok (.iload_n 2, 1) := by decide +kernel
theorem dX11_adds_24 : decode cX11_adds 24 = .ok (.iastore, 1) := by decide +kernel
theorem dX11_adds_25 : decode cX11_adds 25 = .ok (.aload_n 0, 1) := by decide +kernel
theorem dX11_adds_26 : decode cX11_adds 26 = .ok (.getfield 9, 3) := by decide +kernel
theorem dX11_adds_29 : decode cX11_adds 29 = .ok (.bipush 21, 2) := by decide +kernel
theorem dX11_adds_31 : decode cX11_adds 31 = .ok (.iload 4, 2) := by decide +kernel
theorem dX11_adds_33 : decode cX11_adds 33 = .ok (.iadd, 1) := by decide +kernel
theorem dX11_adds_34 : decode cX11_adds 34 = .ok (.iload_n 3, 1) := by decide +kernel
theorem dX11_adds_35 : decode cX11_adds 35 = .ok (.iastore, 1) := by decide +kernel
theorem dX11_adds_36 : decode cX11_adds 36 = .ok (.aload_n 0, 1) := by decide +kernel
theorem dX11_adds_37 : decode cX11_adds 37 = .ok (.getfield 9, 3) := by decide +kernel
theorem dX11_adds_40 : decode cX11_adds 40 = .ok (.bipush 27, 2) := by decide +kernel
theorem dX11_adds_42 : decode cX11_adds 42 = .ok (.iload 4, 2) := by decide +kernel
theorem dX11_adds_44 : decode cX11_adds 44 = .ok (.iadd, 1) := by decide +kernel
theorem dX11_adds_45 : decode cX11_adds 45 = .ok (.iload 4, 2) := by decide +kernel
theorem dX11_adds_47 : decode cX11_adds 47 = .ok (.iastore, 1) := by decide +kernel
theorem dX11_adds_48 : decode cX11_adds 48 = .ok (.aload_n 0, 1) := by decide +kernel
theorem dX11_adds_49 : decode cX11_adds 49 = .ok (.getfield 34, 3) := by decide +kernel
theorem dX11_adds_52 : decode cX11_adds 52 = .ok (.iload 4, 2) := by decide +kernel
theorem dX11_adds_54 : decode cX11_adds 54 = .ok (.iconst 3, 1) := by decide +kernel
theorem dX11_adds_55 : decode cX11_adds 55 = .ok (.iastore, 1) := by decide +kernel
theorem dX11_adds_56 : decode cX11_adds 56 = .ok (.aload_n 0, 1) := by decide +kernel
theorem dX11_adds_57 : decode cX11_adds 57 = .ok (.getfield 37, 3) := by decide +kernel
theorem dX11_adds_60 : decode cX11_adds 60 = .ok (.iload 4, 2) := by decide +kernel
theorem dX11_adds_62 : decode cX11_adds 62 = .ok (.bipush (-2), 2) := by decide +kernel
theorem dX11_adds_64 : decode cX11_adds 64 = .ok (.iastore, 1) := by decide +kernel
theorem dX11_adds_65 : decode cX11_adds 65 = .ok (.aload_n 0, 1) := by decide +kernel
theorem dX11_adds_66 : decode cX11_adds 66 = .ok (.getfield 40, 3) := by decide +kernel
theorem dX11_adds_69 : decode cX11_adds 69 = .ok (.iload 4, 2) := by decide +kernel
theorem dX11_adds_71 : decode cX11_adds 71 = .ok (.bipush (-2), 2) := by decide +kernel
theorem dX11_adds_73 : decode cX11_adds 73 = .ok (.iastore, 1) := by decide +kernel
theorem dX11_adds_74 : decode cX11_adds 74 = .ok (.aload_n 0, 1) := by decide +kernel
theorem dX11_adds_75 : decode cX11_adds 75 = .ok (.getfield 43, 3) := by decide +kernel
theorem dX11_adds_78 : decode cX11_adds 78 = .ok (.iload 4, 2) := by decide +kernel
theorem dX11_adds_80 : decode cX11_adds 80 = .ok (.iconst 0, 1) := by decide +kernel
theorem dX11_adds_81 : decode cX11_adds 81 = .ok (.iastore, 1) := by decide +kernel
theorem dX11_adds_82 : decode cX11_adds 82 = .ok (.aload_n 0, 1) := by decide +kernel
theorem dX11_adds_83 : decode cX11_adds 83 = .ok (.getfield 49, 3) := by decide +kernel
theorem dX11_adds_86 : decode cX11_adds 86 = .ok (.iload 4, 2) := by decide +kernel
theorem dX11_adds_88 : decode cX11_adds 88 = .ok (.iconst 0, 1) := by decide +kernel
theorem dX11_adds_89 : decode cX11_adds 89 = .ok (.iastore, 1) := by decide +kernel
theorem dX11_adds_90 : decode cX11_adds 90 = .ok (.aload_n 0, 1) := by decide +kernel
theorem dX11_adds_91 : decode cX11_adds 91 = .ok (.getfield 52, 3) := by decide +kernel
theorem dX11_adds_94 : decode cX11_adds 94 = .ok (.iload 4, 2) := by decide +kernel
theorem dX11_adds_96 : decode cX11_adds 96 = .ok (.bipush (-5), 2) := by decide +kernel
theorem dX11_adds_98 : decode cX11_adds 98 = .ok (.iastore, 1) := by decide +kernel
theorem dX11_adds_99 : decode cX11_adds 99 = .ok (.aload_n 0, 1) := by decide +kernel
theorem dX11_adds_100 : decode cX11_adds 100 = .ok (.dup, 1) := by decide +kernel
theorem dX11_adds_101 : decode cX11_adds 101 = .ok (.getfield 131, 3) := by decide +kernel
theorem dX11_adds_104 : decode cX11_adds 104 = .ok (.iconst 1, 1) := by decide +kernel
theorem dX11_adds_105 : decode cX11_adds 105 = .ok (.iadd, 1) := by decide +kernel
theorem dX11_adds_106 : decode cX11_adds 106 = .ok (.putfield 131, 3) := by decide +kernel
theorem dX11_adds_109 : decode cX11_adds 109 = .ok (.return_, 1) := by decide +kernel
theorem dX11_thing_0 : decode cX11_thing 0 = .ok (.iload_n 2, 1) := by decide +kernel
theorem dX11_thing_1 : decode cX11_thing 1 = .ok (.ifCond .lt 22, 3) := by decide +kernel
theorem dX11_thing_4 : decode cX11_thing 4 = .ok (.aload_n 0, 1) := by decide +kernel
theorem dX11_thing_5 : decode cX11_thing 5 = .ok (.iload_n 1, 1) := by decide +kernel
theorem dX11_thing_6 : decode cX11_thing 6 = .ok (.i2l, 1) := by decide +kernel
theorem dX11_thing_7 : decode cX11_thing 7 = .ok (.iload_n 2, 1) := by decide +kernel
theorem dX11_thing_8 : decode cX11_thing 8 = .ok (.bipush 100, 2) := by decide +kernel
theorem dX11_thing_10 : decode cX11_thing 10 = .ok (.idiv, 1) := by decide +kernel
theorem dX11_thing_11 : decode cX11_thing 11 = .ok (.i2l, 1) := by decide +kernel
theorem dX11_thing_12 : decode cX11_thing 12 = .ok (.iload_n 2, 1) := by decide +kernel
theorem dX11_thing_13 : decode cX11_thing 13 = .ok (.bipush 100, 2) := by decide +kernel
theorem dX11_thing_15 : decode cX11_thing 15 = .ok (.irem, 1) := by decide +kernel
theorem dX11_thing_16 : decode cX11_thing 16 = .ok (.i2l, 1) := by decide +kernel
theorem dX11_thing_17 : decode cX11_thing 17 = .ok (.invokevirtual 138, 3) := by decide +kernel
theorem dX11_thing_20 : decode cX11_thing 20 = .ok (.ifCond .ne 5, 3) := by decide +kernel
theorem dX11_thing_23 : decode cX11_thing 23 = .ok (.iconst (-1), 1) := by decide +kernel
theorem dX11_thing_24 : decode cX11_thing 24 = .ok (.ireturn, 1) := by decide +kernel
theorem dX11_thing_25 : decode cX11_thing 25 = .ok (.aload_n 0, 1) := by decide +kernel
theorem dX11_thing_26 : decode cX11_thing 26 = .ok (.getfield 131, 3) := by decide +kernel
theorem dX11_thing_29 : decode cX11_thing 29 = .ok (.bipush 6, 2) := by decide +kernel
theorem dX11_thing_31 : decode cX11_thing 31 = .ok (.if_icmp .ne 6, 3) := by decide +kernel
theorem dX11_thing_34 : decode cX11_thing 34 = .ok (.bipush (-3), 2) := by decide +kernel
theorem dX11_thing_36 : decode cX11_thing 36 = .ok (.ireturn, 1) := by decide +kernel
theorem dX11_thing_37 : decode cX11_thing 37 = .ok (.aload_n 0, 1) := by decide +kernel
theorem dX11_thing_38 : decode cX11_thing 38 = .ok (.iload_n 1, 1) := by decide +kernel
theorem dX11_thing_39 : decode cX11_thing 39 = .ok (.iload_n 2, 1) := by decide +kernel
theorem dX11_thing_40 : decode cX11_thing 40 = .ok (.bipush 100, 2) := by decide +kernel
theorem dX11_thing_42 : decode cX11_thing 42 = .ok (.idiv, 1) := by decide +kernel
theorem dX11_thing_43 : decode cX11_thing 43 = .ok (.iload_n 2, 1) := by decide +kernel
theorem dX11_thing_44 : decode cX11_thing 44 = .ok (.bipush 100, 2) := by decide +kernel
theorem dX11_thing_46 : decode cX11_thing 46 = .ok (.irem, 1) := by decide +kernel
theorem dX11_thing_47 : decode cX11_thing 47 = .ok (.invokevirtual 141, 3) := by decide +kernel
theorem dX11_thing_50 : decode cX11_thing 50 = .ok (.aload_n 0, 1) := by decide +kernel
theorem dX11_thing_51 : decode cX11_thing 51 = .ok (.getfield 131, 3) := by decide +kernel
theorem dX11_thing_54 : decode cX11_thing 54 = .ok (.iconst 1, 1) := by decide +kernel
theorem dX11_thing_55 : decode cX11_thing 55 = .ok (.isub, 1) := by decide +kernel
theorem dX11_thing_56 : decode cX11_thing 56 = .ok (.ireturn, 1) := by decide +kernel
theorem dX11_things_0 : decode cX11_things 0 = .ok (.iload_n 1, 1) := by decide +kernel
theorem dX11_things_1 : decode cX11_things 1 = .ok (.invokestatic 145, 3) := by decide +kernel
theorem dX11_things_4 : decode cX11_things 4 = .ok (.ifCond .eq 15, 3) := by decide +kernel
theorem dX11_things_7 : decode cX11_things 7 = .ok (.iload_n 3, 1) := by decide +kernel
theorem dX11_things_8 : decode cX11_things 8 = .ok (.i2l, 1) := by decide +kernel
theorem dX11_things_9 : decode cX11_things 9 = .ok (.lconst 1, 1) := by decide +kernel
theorem dX11_things_10 : decode cX11_things 10 = .ok (.ldc2_w 149, 3) := by decide +kernel
