theorem dX7_init_0 : decode cX7_init 0 = .ok (.aload_n 0, 1) := by decide +kernel
theorem dX7_init_1 : decode cX7_init 1 = .ok (.invokespecial 1, 3) := by decide +kernel
theorem dX7_init_4 : decode cX7_init 4 = .ok (.aload_n 0, 1) := by decide +kernel
theorem dX7_init_5 : decode cX7_init 5 = .ok (.bipush 16, 2) := by decide +kernel
theorem dX7_init_7 : decode cX7_init 7 = .ok (.newarray .int, 2) := by decide +kernel
theorem dX7_init_9 : decode cX7_init 9 = .ok (.putfield 7, 3) := by decide +kernel
theorem dX7_init_12 : decode cX7_init 12 = .ok (.aload_n 0, 1) := by decide +kernel
theorem dX7_init_13 : decode cX7_init 13 = .ok (.iconst 4, 1) := by decide +kernel
theorem dX7_init_14 : decode cX7_init 14 = .ok (.newarray .int, 2) := by decide +kernel
theorem dX7_init_16 : decode cX7_init 16 = .ok (.putfield 13, 3) := by decide +kernel
theorem dX7_init_19 : decode cX7_init 19 = .ok (.aload_n 0, 1) := by decide +kernel
theorem dX7_init_20 : decode cX7_init 20 = .ok (.bipush 48, 2) := by decide +kernel
theorem dX7_init_22 : decode cX7_init 22 = .ok (.newarray .int, 2) := by decide +kernel
theorem dX7_init_24 : decode cX7_init 24 = .ok (.putfield 16, 3) := by decide +kernel
theorem dX7_init_27 : decode cX7_init 27 = .ok (.aload_n 0, 1) := by decide +kernel
theorem dX7_init_28 : decode cX7_init 28 = .ok (.bipush 80, 2) := by decide +kernel
theorem dX7_init_30 : decode cX7_init 30 = .ok (.newarray .int, 2) := by decide +kernel
theorem dX7_init_32 : decode cX7_init 32 = .ok (.putfield 19, 3) := by decide +kernel
theorem dX7_init_35 : decode cX7_init 35 = .ok (.aload_n 0, 1) := by decide +kernel
theorem dX7_init_36 : decode cX7_init 36 = .ok (.sipush 3200, 3) := by decide +kernel
theorem dX7_init_39 : decode cX7_init 39 = .ok (.newarray .int, 2) := by decide +kernel
theorem dX7_init_41 : decode cX7_init 41 = .ok (.putfield 22, 3) := by decide +kernel
theorem dX7_init_44 : decode cX7_init 44 = .ok (.aload_n 0, 1) := by decide +kernel
theorem dX7_init_45 : decode cX7_init 45 = .ok (.sipush 3200, 3) := by decide +kernel
theorem dX7_init_48 : decode cX7_init 48 = .ok (.newarray .float, 2) := by decide +kernel
theorem dX7_init_50 : decode cX7_init 50 = .ok (.putfield 25, 3) := by decide +kernel
theorem dX7_init_53 : decode cX7_init 53 = .ok (.aload_n 0, 1) := by decide +kernel
theorem dX7_init_54 : decode cX7_init 54 = .ok (.bipush 80, 2) := by decide +kernel
theorem dX7_init_56 : decode cX7_init 56 = .ok (.newarray .boolean, 2) := by decide +kernel
theorem dX7_init_58 : decode cX7_init 58 = .ok (.putfield 29, 3) := by decide +kernel
theorem dX7_init_61 : decode cX7_init 61 = .ok (.aload_n 0, 1) := by decide +kernel
theorem dX7_init_62 : decode cX7_init 62 = .ok (.iconst (-1), 1) := by decide +kernel
theorem dX7_init_63 : decode cX7_init 63 = .ok (.putfield 33, 3) := by decide +kernel
theorem dX7_init_66 : decode cX7_init 66 = .ok (.aload_n 0, 1) := by decide +kernel
theorem dX7_init_67 : decode cX7_init 67 = .ok (.sipush 144, 3) := by decide +kernel
theorem dX7_init_70 : decode cX7_init 70 = .ok (.newarray .int, 2) := by decide +kernel
theorem dX7_init_72 : decode cX7_init 72 = .ok (.putfield 37, 3) := by decide +kernel
theorem dX7_init_75 : decode cX7_init 75 = .ok (.aload_n 0, 1) := by decide +kernel
theorem dX7_init_76 : decode cX7_init 76 = .ok (.bipush 8, 2) := by decide +kernel
theorem dX7_init_78 : decode cX7_init 78 = .ok (.newarray .int, 2) := by decide +kernel
theorem dX7_init_80 : decode cX7_init 80 = .ok (.putfield 40, 3) := by decide +kernel
theorem dX7_init_83 : decode cX7_init 83 = .ok (.iconst 0, 1) := by decide +kernel
theorem dX7_init_84 : decode cX7_init 84 = .ok (.istore_n 1, 1) := by decide +kernel
theorem dX7_init_85 : decode cX7_init 85 = .ok (.iload_n 1, 1) := by decide +kernel
theorem dX7_init_86 : decode cX7_init 86 = .ok (.bipush 16, 2) := by decide +kernel
theorem dX7_init_88 : decode cX7_init 88 = .ok (.if_icmp .ge 16, 3) := by decide +kernel
theorem dX7_init_91 : decode cX7_init 91 = .ok (.aload_n 0, 1) := by decide +kernel
theorem dX7_init_92 : decode cX7_init 92 = .ok (.getfield 7, 3) := by decide +kernel
theorem dX7_init_95 : decode cX7_init 95 = .ok (.iload_n 1, 1) := by decide +kernel
theorem dX7_init_96 : decode cX7_init 96 = .ok (.iconst (-1), 1) := by decide +kernel
theorem dX7_init_97 : decode cX7_init 97 = .ok (.iastore, 1) := by decide +kernel
theorem dX7_init_98 : decode cX7_init 98 = .ok (.iinc 1 1, 3) := by decide +kernel
theorem dX7_init_101 : decode cX7_init 101 = .ok (.goto (-16), 3) := by decide +kernel
theorem dX7_init_104 : decode cX7_init 104 = .ok (.iconst 0, 1) := by decide +kernel
theorem dX7_init_105 : decode cX7_init 105 = .ok (.istore_n 1, 1) := by decide +kernel
theorem dX7_init_106 : decode cX7_init 106 = .ok (.iload_n 1, 1) := by decide +kernel
theorem dX7_init_107 : decode cX7_init 107 = .ok (.bipush 48, 2) := by decide +kernel
theorem dX7_init_109 : decode cX7_init 109 = .ok (.if_icmp .ge 16, 3) := by decide +kernel
theorem dX7_init_112 : decode cX7_init 112 = .ok (.aload_n 0, 1) := by decide +kernel
theorem dX7_init_113 : decode cX7_init 113 = .ok (.getfield 16, 3) := by decide +kernel
theorem dX7_init_116 : decode cX7_init 116 = .ok (.iload_n 1, 1) := by decide +kernel
theorem dX7_init_117 : decode cX7_init 117 = .ok (.iconst (-1), 1) := by decide +kernel
theorem dX7_init_118 : decode cX7_init 118 = .ok (.iastore, 1) := by decide +kernel
theorem dX7_init_119 : decode cX7_init 119 = .ok (.iinc 1 1, 3) := by decide +kernel
theorem dX7_init_122 : decode cX7_init 122 = .ok (.goto (-16), 3) := by decide +kernel
theorem dX7_init_125 : decode cX7_init 125 = .ok (.iconst 0, 1) := by decide +kernel
theorem dX7_init_126 : decode cX7_init 126 = .ok (.istore_n 1, 1) := by decide +kernel
theorem dX7_init_127 : decode cX7_init 127 = .ok (.iload_n 1, 1) := by decide +kernel
theorem dX7_init_128 : decode cX7_init 128 = .ok (.iconst 4, 1) := by decide +kernel
theorem dX7_init_129 : decode cX7_init 129 = .ok (.if_icmp .ge 16, 3) := by decide +kernel
theorem dX7_init_132 : decode cX7_init 132 = .ok (.aload_n 0, 1) := by decide +kernel
theorem dX7_init_133 : decode cX7_init 133 = .ok (.getfield 13, 3) := by decide +kernel
theorem dX7_init_136 : decode cX7_init 136 = .ok (.iload_n 1, 1) := by decide +kernel
theorem dX7_init_137 : decode cX7_init 137 = .ok (.iconst (-1), 1) := by decide +kernel
theorem dX7_init_138 : decode cX7_init 138 = .ok (.iastore, 1) := by decide +kernel
theorem dX7_init_139 : decode cX7_init 139 = .ok (.iinc 1 1, 3) := by decide +kernel
theorem dX7_init_142 : decode cX7_init 142 = .ok (.goto (-15), 3) := by decide +kernel
theorem dX7_init_145 : decode cX7_init 145 = .ok (.return_, 1) := by decide +kernel
theorem dX7_refuse_0 : decode cX7_refuse 0 = .ok (.aload_n 0, 1) := by decide +kernel
theorem dX7_refuse_1 : decode cX7_refuse 1 = .ok (.getfield 40, 3) := by decide +kernel
theorem dX7_refuse_4 : decode cX7_refuse 4 = .ok (.lload_n 1, 1) := by decide +kernel
theorem dX7_refuse_5 : decode cX7_refuse 5 = .ok (.bipush 40, 2) := by decide +kernel
theorem dX7_refuse_7 : decode cX7_refuse 7 = .ok (.lshr, 1) := by decide +kernel
theorem dX7_refuse_8 : decode cX7_refuse 8 = .ok (.l2i, 1) := by decide +kernel
theorem dX7_refuse_9 : decode cX7_refuse 9 = .ok (.dup2, 1) := by decide +kernel
theorem dX7_refuse_10 : decode cX7_refuse 10 = .ok (.iaload, 1) := by decide +kernel
theorem dX7_refuse_11 : decode cX7_refuse 11 = .ok (.iconst 1, 1) := by decide +kernel
theorem dX7_refuse_12 : decode cX7_refuse 12 = .ok (.iadd, 1) := by decide +kernel
theorem dX7_refuse_13 : decode cX7_refuse 13 = .ok (.iastore, 1) := by decide +kernel
theorem dX7_refuse_14 : decode cX7_refuse 14 = .ok (.lload_n 1, 1) := by decide +kernel
theorem dX7_refuse_15 : decode cX7_refuse 15 = .ok (.lreturn, 1) := by decide +kernel
theorem dX7_isFour_0 : decode cX7_isFour 0 = .ok (.iload_n 0, 1) := by decide +kernel
theorem dX7_isFour_1 : decode cX7_isFour 1 = .ok (.ifCond .lt 12, 3) := by decide +kernel
theorem dX7_isFour_4 : decode cX7_isFour 4 = .ok (.iload_n 0, 1) := by decide +kernel
theorem dX7_isFour_5 : decode cX7_isFour 5 = .ok (.iconst 4, 1) := by decide +kernel
theorem dX7_isFour_6 : decode cX7_isFour 6 = .ok (.if_icmp .ge 7, 3) := by decide +kernel
theorem dX7_isFour_9 : decode cX7_isFour 9 = .ok (.iconst 1, 1) := by decide +kernel
theorem dX7_isFour_10 : decode cX7_isFour 10 = .ok (.goto 4, 3) := by decide +kernel
theorem dX7_isFour_13 : decode cX7_isFour 13 = .ok (.iconst 0, 1) := by decide +kernel
theorem dX7_isFour_14 : decode cX7_isFour 14 = .ok (.ireturn, 1) := by decide +kernel
theorem dX7_reel_0 : decode cX7_reel 0 = .ok (.iconst 0, 1) := by decide +kernel
theorem dX7_reel_1 : decode cX7_reel 1 = .ok (.istore_n 2, 1) := by decide +kernel
theorem dX7_reel_2 : decode cX7_reel 2 = .ok (.iload_n 2, 1) := by decide +kernel
theorem dX7_reel_3 : decode cX7_reel 3 = .ok (.bipush 80, 2) := by decide +kernel
theorem dX7_reel_5 : decode cX7_reel 5 = .ok (.if_icmp .ge 16, 3) := by decide +kernel
theorem dX7_reel_8 : decode cX7_reel 8 = .ok (.aload_n 0, 1) := by decide +kernel
theorem dX7_reel_9 : decode cX7_reel 9 = .ok (.getfield 29, 3) := by decide +kernel
theorem dX7_reel_12 : decode cX7_reel 12 = .ok (.iload_n 2, 1) := by decide +kernel
theorem dX7_reel_13 : decode cX7_reel 13 = .ok (.iconst 0, 1) := by decide +kernel
theorem dX7_reel_14 : decode cX7_reel 14 = .ok (.bastore, 1) := by decide +kernel
theorem dX7_reel_15 : decode cX7_reel 15 = .ok (.iinc 2 1, 3) := by decide +kernel
theorem dX7_reel_18 : decode cX7_reel 18 = .ok (.goto (-16), 3) := by decide +kernel
theorem dX7_reel_21 : decode cX7_reel 21 = .ok (.iconst 0, 1) := by decide +kernel
theorem dX7_reel_22 : decode cX7_reel 22 = .ok (.istore_n 2, 1) := by decide +kernel
theorem dX7_reel_23 : decode cX7_reel 23 = .ok (.iload_n 2, 1) := by decide +kernel
theorem dX7_reel_24 : decode cX7_reel 24 = .ok (.bipush 16, 2) := by decide +kernel
theorem dX7_reel_26 : decode cX7_reel 26 = .ok (.if_icmp .ge 31, 3) := by decide +kernel
theorem dX7_reel_29 : decode cX7_reel 29 = .ok (.aload_n 0, 1) := by decide +kernel
theorem dX7_reel_30 : decode cX7_reel 30 = .ok (.getfield 7, 3) := by decide +kernel
theorem dX7_reel_33 : decode cX7_reel 33 = .ok (.iload_n 2, 1) := by decide +kernel
theorem dX7_reel_34 : decode cX7_reel 34 = .ok (.iaload, 1) := by decide +kernel
theorem dX7_reel_35 : decode cX7_reel 35 = .ok (.iconst (-1), 1) := by decide +kernel
theorem dX7_reel_36 : decode cX7_reel 36 = .ok (.if_icmp .eq 15, 3) := by decide +kernel
theorem dX7_reel_39 : decode cX7_reel 39 = .ok (.aload_n 0, 1) := by decide +kernel
theorem dX7_reel_40 : decode cX7_reel 40 = .ok (.getfield 29, 3) := by decide +kernel
theorem dX7_reel_43 : decode cX7_reel 43 = .ok (.aload_n 0, 1) := by decide +kernel
theorem dX7_reel_44 : decode cX7_reel 44 = .ok (.getfield 7, 3) := by decide +kernel
theorem dX7_reel_47 : decode cX7_reel 47 = .ok (.iload_n 2, 1) := by decide +kernel
theorem dX7_reel_48 : decode cX7_reel 48 = .ok (.iaload, 1) := by decide +kernel
theorem dX7_reel_49 : decode cX7_reel 49 = .ok (.iconst 1, 1) := by decide +kernel
theorem dX7_reel_50 : decode cX7_reel 50 = .ok (.bastore, 1) := by decide +kernel
theorem dX7_reel_51 : decode cX7_reel 51 = .ok (.iinc 2 1, 3) := by decide +kernel
theorem dX7_reel_54 : decode cX7_reel 54 = .ok (.goto (-31), 3) := by decide +kernel
theorem dX7_reel_57 : decode cX7_reel 57 = .ok (.iconst 0, 1) := by decide +kernel
theorem dX7_reel_58 : decode cX7_reel 58 = .ok (.istore_n 2, 1) := by decide +kernel
theorem dX7_reel_59 : decode cX7_reel 59 = .ok (.iload_n 2, 1) := by decide +kernel
theorem dX7_reel_60 : decode cX7_reel 60 = .ok (.bipush 48, 2) := by decide +kernel
theorem dX7_reel_62 : decode cX7_reel 62 = .ok (.if_icmp .ge 31, 3) := by decide +kernel
theorem dX7_reel_65 : decode cX7_reel 65 = .ok (.aload_n 0, 1) := by decide +kernel
theorem dX7_reel_66 : decode cX7_reel 66 = .ok (.getfield 16, 3) := by decide +kernel
theorem dX7_reel_69 : decode cX7_reel 69 = .ok (.iload_n 2, 1) := by decide +kernel
theorem dX7_reel_70 : decode cX7_reel 70 = .ok (.iaload, 1) := by decide +kernel
theorem dX7_reel_71 : decode cX7_reel 71 = .ok (.iconst (-1), 1) := by decide +kernel
theorem dX7_reel_72 : decode cX7_reel 72 = .ok (.if_icmp .eq 15, 3) := by decide +kernel
theorem dX7_reel_75 : decode cX7_reel 75 = .ok (.aload_n 0, 1) := by decide +kernel
theorem dX7_reel_76 : decode cX7_reel 76 = .ok (.getfield 29, 3) := by decide +kernel
theorem dX7_reel_79 : decode cX7_reel 79 = .ok (.aload_n 0, 1) := by decide +kernel
theorem dX7_reel_80 : decode cX7_reel 80 = .ok (.getfield 16, 3) := by decide +kernel
theorem dX7_reel_83 : decode cX7_reel 83 = .ok (.iload_n 2, 1) := by decide +kernel
theorem dX7_reel_84 : decode cX7_reel 84 = .ok (.iaload, 1) := by decide +kernel
theorem dX7_reel_85 : decode cX7_reel 85 = .ok (.iconst 1, 1) := by decide +kernel
theorem dX7_reel_86 : decode cX7_reel 86 = .ok (.bastore, 1) := by decide +kernel
theorem dX7_reel_87 : decode cX7_reel 87 = .ok (.iinc 2 1, 3) := by decide +kernel
theorem dX7_reel_90 : decode cX7_reel 90 = .ok (.goto (-31), 3) := by decide +kernel
theorem dX7_reel_93 : decode cX7_reel 93 = .ok (.iconst 0, 1) := by decide +kernel
theorem dX7_reel_94 : decode cX7_reel 94 = .ok (.istore_n 2, 1) := by decide +kernel
theorem dX7_reel_95 : decode cX7_reel 95 = .ok (.aload_n 0, 1) := by decide +kernel
theorem dX7_reel_96 : decode cX7_reel 96 = .ok (.getfield 29, 3) := by decide +kernel
theorem dX7_reel_99 : decode cX7_reel 99 = .ok (.iload_n 2, 1) := by decide +kernel
theorem dX7_reel_100 : decode cX7_reel 100 = .ok (.baload, 1) := by decide +kernel
theorem dX7_reel_101 : decode cX7_reel 101 = .ok (.ifCond .eq 9, 3) := by decide +kernel
theorem dX7_reel_104 : decode cX7_reel 104 = .ok (.iinc 2 1, 3) := by decide +kernel
theorem dX7_reel_107 : decode cX7_reel 107 = .ok (.goto (-12), 3) := by decide +kernel
theorem dX7_reel_110 : decode cX7_reel 110 = .ok (.aload_n 0, 1) := by decide +kernel
theorem dX7_reel_111 : decode cX7_reel 111 = .ok (.getfield 19, 3) := by decide +kernel
theorem dX7_reel_114 : decode cX7_reel 114 = .ok (.iload_n 2, 1) := by decide +kernel
theorem dX7_reel_115 : decode cX7_reel 115 = .ok (.iload_n 1, 1) := by decide +kernel
theorem dX7_reel_116 : decode cX7_reel 116 = .ok (.iastore, 1) := by decide +kernel
theorem dX7_reel_117 : decode cX7_reel 117 = .ok (.iconst 0, 1) := by decide +kernel
theorem dX7_reel_118 : decode cX7_reel 118 = .ok (.istore_n 3, 1) := by decide +kernel
theorem dX7_reel_119 : decode cX7_reel 119 = .ok (.iload_n 3, 1) := by decide +kernel
theorem dX7_reel_120 : decode cX7_reel 120 = .ok (.iload_n 1, 1) := by decide +kernel
theorem dX7_reel_121 : decode cX7_reel 121 = .ok (.if_icmp .ge 33, 3) := by decide +kernel
theorem dX7_reel_124 : decode cX7_reel 124 = .ok (.aload_n 0, 1) := by decide +kernel
theorem dX7_reel_125 : decode cX7_reel 125 = .ok (.getfield 22, 3) := by decide +kernel
theorem dX7_reel_128 : decode cX7_reel 128 = .ok (.bipush 40, 2) := by decide +kernel
theorem dX7_reel_130 : decode cX7_reel 130 = .ok (.iload_n 2, 1) := by decide +kernel
theorem dX7_reel_131 : decode cX7_reel 131 = .ok (.imul, 1) := by decide +kernel
theorem dX7_reel_132 : decode cX7_reel 132 = .ok (.iload_n 3, 1) := by decide +kernel
theorem dX7_reel_133 : decode cX7_reel 133 = .ok (.iadd, 1) := by decide +kernel
theorem dX7_reel_134 : decode cX7_reel 134 = .ok (.iconst 0, 1) := by decide +kernel
theorem dX7_reel_135 : decode cX7_reel 135 = .ok (.iastore, 1) := by decide +kernel
theorem dX7_reel_136 : decode cX7_reel 136 = .ok (.aload_n 0, 1) := by decide +kernel
theorem dX7_reel_137 : decode cX7_reel 137 = .ok (.getfield 25, 3) := by decide +kernel
theorem dX7_reel_140 : decode cX7_reel 140 = .ok (.bipush 40, 2) := by decide +kernel
theorem dX7_reel_142 : decode cX7_reel 142 = .ok (.iload_n 2, 1) := by decide +kernel
theorem dX7_reel_143 : decode cX7_reel 143 = .ok (.imul, 1) := by decide +kernel
theorem dX7_reel_144 : decode cX7_reel 144 = .ok (.iload_n 3, 1) := by decide +kernel
theorem dX7_reel_145 : decode cX7_reel 145 = .ok (.iadd, 1) := by decide +kernel
theorem dX7_reel_146 : decode cX7_reel 146 = .ok (.fconst 0, 1) := by decide +kernel
theorem dX7_reel_147 : decode cX7_reel 147 = .ok (.fastore, 1) := by decide +kernel
theorem dX7_reel_148 : decode cX7_reel 148 = .ok (.iinc 3 1, 3) := by decide +kernel
theorem dX7_reel_151 : decode cX7_reel 151 = .ok (.goto (-32), 3) := by decide +kernel
theorem dX7_reel_154 : decode cX7_reel 154 = .ok (.iload_n 2, 1) := by decide +kernel
theorem dX7_reel_155 : decode cX7_reel 155 = .ok (.ireturn, 1) := by decide +kernel
theorem dX7_told_0 : decode cX7_told 0 = .ok (.iload_n 1, 1) := by decide +kernel
theorem dX7_told_1 : decode cX7_told 1 = .ok (.iconst 2, 1) := by decide +kernel
theorem dX7_told_2 : decode cX7_told 2 = .ok (.if_icmp .ne 22, 3) := by decide +kernel
theorem dX7_told_5 : decode cX7_told 5 = .ok (.aload_n 0, 1) := by decide +kernel
theorem dX7_told_6 : decode cX7_told 6 = .ok (.getfield 25, 3) := by decide +kernel
theorem dX7_told_9 : decode cX7_told 9 = .ok (.bipush 40, 2) := by decide +kernel
theorem dX7_told_11 : decode cX7_told 11 = .ok (.iload_n 2, 1) := by decide +kernel
theorem dX7_told_12 : decode cX7_told 12 = .ok (.imul, 1) := by decide +kernel
theorem dX7_told_13 : decode cX7_told 13 = .ok (.iload_n 3, 1) := by decide +kernel
theorem dX7_told_14 : decode cX7_told 14 = .ok (.iadd, 1) := by decide +kernel
theorem dX7_told_15 : decode cX7_told 15 = .ok (.faload, 1) := by decide +kernel
theorem dX7_told_16 : decode cX7_told 16 = .ok (.ldc 43, 2) := by decide +kernel
theorem dX7_told_18 : decode cX7_told 18 = .ok (.fmul, 1) := by decide +kernel
theorem dX7_told_19 : decode cX7_told 19 = .ok (.f2i, 1) := by decide +kernel
theorem dX7_told_20 : decode cX7_told 20 = .ok (.i2l, 1) := by decide +kernel
theorem dX7_told_21 : decode cX7_told 21 = .ok (.goto 15, 3) := by decide +kernel
theorem dX7_told_24 : decode cX7_told 24 = .ok (.aload_n 0, 1) := by decide +kernel
theorem dX7_told_25 : decode cX7_told 25 = .ok (.getfield 22, 3) := by decide +kernel
theorem dX7_told_28 : decode cX7_told 28 = .ok (.bipush 40, 2) := by decide +kernel
theorem dX7_told_30 : decode cX7_told 30 = .ok (.iload_n 2, 1) := by decide +kernel
theorem dX7_told_31 : decode cX7_told 31 = .ok (.imul, 1) := by decide +kernel
theorem dX7_told_32 : decode cX7_told 32 = .ok (.iload_n 3, 1) := by decide +kernel
theorem dX7_told_33 : decode cX7_told 33 = .ok (.iadd, 1) := by decide +kernel
theorem dX7_told_34 : decode cX7_told 34 = .ok (.iaload, 1) := by decide +kernel
theorem dX7_told_35 : decode cX7_told 35 = .ok (.i2l, 1) := by decide +kernel
theorem dX7_told_36 : decode cX7_told 36 = .ok (.lreturn, 1) := by decide +kernel
theorem dX7_held_0 : decode cX7_held 0 = .ok (.fload_n 0, 1) := by decide +kernel
theorem dX7_held_1 : decode cX7_held 1 = .ok (.ldc 44, 2) := by decide +kernel
theorem dX7_held_3 : decode cX7_held 3 = .ok (.fcmp .l, 1) := by decide +kernel
theorem dX7_held_4 : decode cX7_held 4 = .ok (.ifCond .le 8, 3) := by decide +kernel
theorem dX7_held_7 : decode cX7_held 7 = .ok (.ldc 44, 2) := by decide +kernel
theorem dX7_held_9 : decode cX7_held 9 = .ok (.goto 16, 3) := by decide +kernel
theorem dX7_held_12 : decode cX7_held 12 = .ok (.fload_n 0, 1) := by decide +kernel
theorem dX7_held_13 : decode cX7_held 13 = .ok (.ldc 45, 2) := by decide +kernel
theorem dX7_held_15 : decode cX7_held 15 = .ok (.fcmp .g, 1) := by decide +kernel
theorem dX7_held_16 : decode cX7_held 16 = .ok (.ifCond .ge 8, 3) := by decide +kernel
theorem dX7_held_19 : decode cX7_held 19 = .ok (.ldc 45, 2) := by decide +kernel
theorem dX7_held_21 : decode cX7_held 21 = .ok (.goto 4, 3) := by decide +kernel
theorem dX7_held_24 : decode cX7_held 24 = .ok (.fload_n 0, 1) := by decide +kernel
theorem dX7_held_25 : decode cX7_held 25 = .ok (.freturn, 1) := by decide +kernel
theorem dX7_eighth_0 : decode cX7_eighth 0 = .ok (.iload_n 0, 1) := by decide +kernel
theorem dX7_eighth_1 : decode cX7_eighth 1 = .ok (.i2f, 1) := by decide +kernel
theorem dX7_eighth_2 : decode cX7_eighth 2 = .ok (.ldc 43, 2) := by decide +kernel
theorem dX7_eighth_4 : decode cX7_eighth 4 = .ok (.fdiv, 1) := by decide +kernel
theorem dX7_eighth_5 : decode cX7_eighth 5 = .ok (.freturn, 1) := by decide +kernel
set_option maxRecDepth 20000 in
theorem ggX7_fill_X7_eighth : GoodIn wsX7_fill wsX7_eighth := goodIn_r _ [7, 8] (by decide +kernel) (by decide +kernel)
set_option maxRecDepth 20000 in
theorem gX7_fill_X7_eighth : GoodIn wsX7_fill (va_wsS RX7 47 yX7_eighth wsX7_eighth) := goodIn_app (goodIn_of _ (by decide +kernel)) ggX7_fill_X7_eighth
set_option maxRecDepth 20000 in
theorem ggX7_fill_X7_held : GoodIn wsX7_fill wsX7_held := goodIn_r _ [11, 12, 13] (by decide +kernel) (by decide +kernel)
set_option maxRecDepth 20000 in
theorem gX7_fill_X7_held : GoodIn wsX7_fill (va_wsS RX7 51 yX7_held wsX7_held) := goodIn_app (goodIn_of _ (by decide +kernel)) ggX7_fill_X7_held
theorem dX7_fill_0 : decode cX7_fill 0 = .ok (.bipush 40, 2) := by decide +kernel
theorem dX7_fill_2 : decode cX7_fill 2 = .ok (.iload_n 2, 1) := by decide +kernel
theorem dX7_fill_3 : decode cX7_fill 3 = .ok (.imul, 1) := by decide +kernel
theorem dX7_fill_4 : decode cX7_fill 4 = .ok (.iload_n 3, 1) := by decide +kernel
theorem dX7_fill_5 : decode cX7_fill 5 = .ok (.iadd, 1) := by decide +kernel
theorem dX7_fill_6 : decode cX7_fill 6 = .ok (.istore 5, 2) := by decide +kernel
theorem dX7_fill_8 : decode cX7_fill 8 = .ok (.iload_n 1, 1) := by decide +kernel
theorem dX7_fill_9 : decode cX7_fill 9 = .ok (.ifCond .ne 18, 3) := by decide +kernel
theorem dX7_fill_12 : decode cX7_fill 12 = .ok (.aload_n 0, 1) := by decide +kernel
theorem dX7_fill_13 : decode cX7_fill 13 = .ok (.getfield 22, 3) := by decide +kernel
theorem dX7_fill_16 : decode cX7_fill 16 = .ok (.iload 5, 2) := by decide +kernel
theorem dX7_fill_18 : decode cX7_fill 18 = .ok (.iload 4, 2) := by decide +kernel
theorem dX7_fill_20 : decode cX7_fill 20 = .ok (.ldc 46, 2) := by decide +kernel
theorem dX7_fill_22 : decode cX7_fill 22 = .ok (.iand, 1) := by decide +kernel
theorem dX7_fill_23 : decode cX7_fill 23 = .ok (.iastore, 1) := by decide +kernel
theorem dX7_fill_24 : decode cX7_fill 24 = .ok (.goto 60, 3) := by decide +kernel
theorem dX7_fill_27 : decode cX7_fill 27 = .ok (.iload_n 1, 1) := by decide +kernel
theorem dX7_fill_28 : decode cX7_fill 28 = .ok (.iconst 1, 1) := by decide +kernel
theorem dX7_fill_29 : decode cX7_fill 29 = .ok (.if_icmp .ne 21, 3) := by decide +kernel
theorem dX7_fill_32 : decode cX7_fill 32 = .ok (.aload_n 0, 1) := by decide +kernel
theorem dX7_fill_33 : decode cX7_fill 33 = .ok (.getfield 22, 3) := by decide +kernel
theorem dX7_fill_36 : decode cX7_fill 36 = .ok (.iload 5, 2) := by decide +kernel
theorem dX7_fill_38 : decode cX7_fill 38 = .ok (.iload 4, 2) := by decide +kernel
theorem dX7_fill_40 : decode cX7_fill 40 = .ok (.bipush 16, 2) := by decide +kernel
theorem dX7_fill_42 : decode cX7_fill 42 = .ok (.ishl, 1) := by decide +kernel
theorem dX7_fill_43 : decode cX7_fill 43 = .ok (.bipush 16, 2) := by decide +kernel
theorem dX7_fill_45 : decode cX7_fill 45 = .ok (.ishr, 1) := by decide +kernel
theorem dX7_fill_46 : decode cX7_fill 46 = .ok (.iastore, 1) := by decide +kernel
theorem dX7_fill_47 : decode cX7_fill 47 = .ok (.goto 37, 3) := by decide +kernel
theorem dX7_fill_50 : decode cX7_fill 50 = .ok (.iload_n 1, 1) := by decide +kernel
theorem dX7_fill_51 : decode cX7_fill 51 = .ok (.iconst 3, 1) := by decide +kernel
theorem dX7_fill_52 : decode cX7_fill 52 = .ok (.if_icmp .ne 17, 3) := by decide +kernel
theorem dX7_fill_55 : decode cX7_fill 55 = .ok (.aload_n 0, 1) := by decide +kernel
theorem dX7_fill_56 : decode cX7_fill 56 = .ok (.getfield 22, 3) := by decide +kernel
theorem dX7_fill_59 : decode cX7_fill 59 = .ok (.iload 5, 2) := by decide +kernel
theorem dX7_fill_61 : decode cX7_fill 61 = .ok (.iload 4, 2) := by decide +kernel
theorem dX7_fill_63 : decode cX7_fill 63 = .ok (.iconst 1, 1) := by decide +kernel
theorem dX7_fill_64 : decode cX7_fill 64 = .ok (.iand, 1) := by decide +kernel
theorem dX7_fill_65 : decode cX7_fill 65 = .ok (.iastore, 1) := by decide +kernel
theorem dX7_fill_66 : decode cX7_fill 66 = .ok (.goto 18, 3) := by decide +kernel
theorem dX7_fill_69 : decode cX7_fill 69 = .ok (.aload_n 0, 1) := by decide +kernel
theorem dX7_fill_70 : decode cX7_fill 70 = .ok (.getfield 25, 3) := by decide +kernel
theorem dX7_fill_73 : decode cX7_fill 73 = .ok (.iload 5, 2) := by decide +kernel
theorem dX7_fill_75 : decode cX7_fill 75 = .ok (.iload 4, 2) := by decide +kernel
theorem dX7_fill_77 : decode cX7_fill 77 = .ok (.invokestatic 47, 3) := by decide +kernel
theorem dX7_fill_80 : decode cX7_fill 80 = .ok (.invokestatic 51, 3) := by decide +kernel
theorem dX7_fill_83 : decode cX7_fill 83 = .ok (.fastore, 1) := by decide +kernel
theorem dX7_fill_84 : decode cX7_fill 84 = .ok (.return_, 1) := by decide +kernel
set_option maxRecDepth 20000 in
theorem ggX7_mount_X7_isFour : GoodIn wsX7_mount wsX7_isFour := goodIn_r _ [8] (by decide +kernel) (by decide +kernel)
set_option maxRecDepth 20000 in
theorem gX7_mount_X7_isFour : GoodIn wsX7_mount (va_wsS RX7 55 yX7_isFour wsX7_isFour) := goodIn_app (goodIn_of _ (by decide +kernel)) ggX7_mount_X7_isFour
set_option maxRecDepth 20000 in
theorem ggX7_mount_X7_refuse : GoodIn wsX7_mount wsX7_refuse := goodIn_r _ [12, 13, 23, 24, 25, 26, 27, 28, 29, 30, 31, 32, 33] (by decide +kernel) (by decide +kernel)
set_option maxRecDepth 20000 in
theorem gX7_mount_X7_refuse : GoodIn wsX7_mount (wsV RX7 61 RX7 yX7_refuse wsX7_refuse) := goodIn_app (goodIn_of _ (by decide +kernel)) ggX7_mount_X7_refuse
set_option maxRecDepth 20000 in
theorem ggX7_mount_X7_reel : GoodIn wsX7_mount wsX7_reel := goodIn_r _ [17, 18, 4, 19, 20, 21, 22, 23, 24, 25, 26, 27, 28, 29, 30, 31, 32, 33] (by decide +kernel) (by decide +kernel)
set_option maxRecDepth 20000 in
theorem gX7_mount_X7_reel : GoodIn wsX7_mount (wsV RX7 69 RX7 yX7_reel wsX7_reel) := goodIn_app (goodIn_of _ (by decide +kernel)) ggX7_mount_X7_reel
theorem dX7_mount_0 : decode cX7_mount 0 = .ok (.iload_n 1, 1) := by decide +kernel
theorem dX7_mount_1 : decode cX7_mount 1 = .ok (.invokestatic 55, 3) := by decide +kernel
theorem dX7_mount_4 : decode cX7_mount 4 = .ok (.ifCond .eq 10, 3) := by decide +kernel
theorem dX7_mount_7 : decode cX7_mount 7 = .ok (.iload_n 2, 1) := by decide +kernel
theorem dX7_mount_8 : decode cX7_mount 8 = .ok (.invokestatic 55, 3) := by decide +kernel
theorem dX7_mount_11 : decode cX7_mount 11 = .ok (.ifCond .ne 11, 3) := by decide +kernel
theorem dX7_mount_14 : decode cX7_mount 14 = .ok (.aload_n 0, 1) := by decide +kernel
theorem dX7_mount_15 : decode cX7_mount 15 = .ok (.ldc2_w 59, 3) := by decide +kernel
theorem dX7_mount_18 : decode cX7_mount 18 = .ok (.invokevirtual 61, 3) := by decide +kernel
theorem dX7_mount_21 : decode cX7_mount 21 = .ok (.lreturn, 1) := by decide +kernel
theorem dX7_mount_22 : decode cX7_mount 22 = .ok (.iload_n 3, 1) := by decide +kernel
theorem dX7_mount_23 : decode cX7_mount 23 = .ok (.bipush 40, 2) := by decide +kernel
theorem dX7_mount_25 : decode cX7_mount 25 = .ok (.if_icmp .le 11, 3) := by decide +kernel
theorem dX7_mount_28 : decode cX7_mount 28 = .ok (.aload_n 0, 1) := by decide +kernel
theorem dX7_mount_29 : decode cX7_mount 29 = .ok (.ldc2_w 65, 3) := by decide +kernel
theorem dX7_mount_32 : decode cX7_mount 32 = .ok (.invokevirtual 61, 3) := by decide +kernel
theorem dX7_mount_35 : decode cX7_mount 35 = .ok (.lreturn, 1) := by decide +kernel
theorem dX7_mount_36 : decode cX7_mount 36 = .ok (.iload_n 3, 1) := by decide +kernel
theorem dX7_mount_37 : decode cX7_mount 37 = .ok (.ifCond .ge 11, 3) := by decide +kernel
theorem dX7_mount_40 : decode cX7_mount 40 = .ok (.aload_n 0, 1) := by decide +kernel
theorem dX7_mount_41 : decode cX7_mount 41 = .ok (.ldc2_w 67, 3) := by decide +kernel
theorem dX7_mount_44 : decode cX7_mount 44 = .ok (.invokevirtual 61, 3) := by decide +kernel
theorem dX7_mount_47 : decode cX7_mount 47 = .ok (.lreturn, 1) := by decide +kernel
theorem dX7_mount_48 : decode cX7_mount 48 = .ok (.aload_n 0, 1) := by decide +kernel
theorem dX7_mount_49 : decode cX7_mount 49 = .ok (.getfield 7, 3) := by decide +kernel
theorem dX7_mount_52 : decode cX7_mount 52 = .ok (.iconst 4, 1) := by decide +kernel
theorem dX7_mount_53 : decode cX7_mount 53 = .ok (.iload_n 1, 1) := by decide +kernel
theorem dX7_mount_54 : decode cX7_mount 54 = .ok (.imul, 1) := by decide +kernel
theorem dX7_mount_55 : decode cX7_mount 55 = .ok (.iload_n 2, 1) := by decide +kernel
theorem dX7_mount_56 : decode cX7_mount 56 = .ok (.iadd, 1) := by decide +kernel
theorem dX7_mount_57 : decode cX7_mount 57 = .ok (.iconst (-1), 1) := by decide +kernel
theorem dX7_mount_58 : decode cX7_mount 58 = .ok (.iastore, 1) := by decide +kernel
theorem dX7_mount_59 : decode cX7_mount 59 = .ok (.aload_n 0, 1) := by decide +kernel
theorem dX7_mount_60 : decode cX7_mount 60 = .ok (.getfield 7, 3) := by decide +kernel
theorem dX7_mount_63 : decode cX7_mount 63 = .ok (.iconst 4, 1) := by decide +kernel
theorem dX7_mount_64 : decode cX7_mount 64 = .ok (.iload_n 1, 1) := by decide +kernel
theorem dX7_mount_65 : decode cX7_mount 65 = .ok (.imul, 1) := by decide +kernel
theorem dX7_mount_66 : decode cX7_mount 66 = .ok (.iload_n 2, 1) := by decide +kernel
theorem dX7_mount_67 : decode cX7_mount 67 = .ok (.iadd, 1) := by decide +kernel
theorem dX7_mount_68 : decode cX7_mount 68 = .ok (.aload_n 0, 1) := by decide +kernel
theorem dX7_mount_69 : decode cX7_mount 69 = .ok (.iload_n 3, 1) := by decide +kernel
theorem dX7_mount_70 : decode cX7_mount 70 = .ok (.invokevirtual 69, 3) := by decide +kernel
theorem dX7_mount_73 : decode cX7_mount 73 = .ok (.iastore, 1) := by decide +kernel
theorem dX7_mount_74 : decode cX7_mount 74 = .ok (.iload_n 3, 1) := by decide +kernel
theorem dX7_mount_75 : decode cX7_mount 75 = .ok (.i2l, 1) := by decide +kernel
theorem dX7_mount_76 : decode cX7_mount 76 = .ok (.lreturn, 1) := by decide +kernel
set_option maxRecDepth 20000 in
theorem ggX7_eject_X7_isFour : GoodIn wsX7_eject wsX7_isFour := goodIn_r _ [8] (by decide +kernel) (by decide +kernel)
set_option maxRecDepth 20000 in
theorem gX7_eject_X7_isFour : GoodIn wsX7_eject (va_wsS RX7 55 yX7_isFour wsX7_isFour) := goodIn_app (goodIn_of _ (by decide +kernel)) ggX7_eject_X7_isFour
set_option maxRecDepth 20000 in
theorem ggX7_eject_X7_refuse : GoodIn wsX7_eject wsX7_refuse := goodIn_r _ [12, 13, 14, 15, 16, 17, 18, 19, 20, 21, 22, 23, 24] (by decide +kernel) (by decide +kernel)
set_option maxRecDepth 20000 in
theorem gX7_eject_X7_refuse : GoodIn wsX7_eject (wsV RX7 61 RX7 yX7_refuse wsX7_refuse) := goodIn_app (goodIn_of _ (by decide +kernel)) ggX7_eject_X7_refuse
theorem dX7_eject_0 : decode cX7_eject 0 = .ok (.iload_n 1, 1) := by decide +kernel
theorem dX7_eject_1 : decode cX7_eject 1 = .ok (.invokestatic 55, 3) := by decide +kernel
theorem dX7_eject_4 : decode cX7_eject 4 = .ok (.ifCond .eq 10, 3) := by decide +kernel
theorem dX7_eject_7 : decode cX7_eject 7 = .ok (.iload_n 2, 1) := by decide +kernel
theorem dX7_eject_8 : decode cX7_eject 8 = .ok (.invokestatic 55, 3) := by decide +kernel
theorem dX7_eject_11 : decode cX7_eject 11 = .ok (.ifCond .ne 11, 3) := by decide +kernel
theorem dX7_eject_14 : decode cX7_eject 14 = .ok (.aload_n 0, 1) := by decide +kernel
theorem dX7_eject_15 : decode cX7_eject 15 = .ok (.ldc2_w 59, 3) := by decide +kernel
theorem dX7_eject_18 : decode cX7_eject 18 = .ok (.invokevirtual 61, 3) := by decide +kernel
theorem dX7_eject_21 : decode cX7_eject 21 = .ok (.lreturn, 1) := by decide +kernel
theorem dX7_eject_22 : decode cX7_eject 22 = .ok (.aload_n 0, 1) := by decide +kernel
theorem dX7_eject_23 : decode cX7_eject 23 = .ok (.getfield 7, 3) := by decide +kernel
theorem dX7_eject_26 : decode cX7_eject 26 = .ok (.iconst 4, 1) := by decide +kernel
theorem dX7_eject_27 : decode cX7_eject 27 = .ok (.iload_n 1, 1) := by decide +kernel
theorem dX7_eject_28 : decode cX7_eject 28 = .ok (.imul, 1) := by decide +kernel
theorem dX7_eject_29 : decode cX7_eject 29 = .ok (.iload_n 2, 1) := by decide +kernel
theorem dX7_eject_30 : decode cX7_eject 30 = .ok (.iadd, 1) := by decide +kernel
theorem dX7_eject_31 : decode cX7_eject 31 = .ok (.iaload, 1) := by decide +kernel
theorem dX7_eject_32 : decode cX7_eject 32 = .ok (.istore_n 3, 1) := by decide +kernel
theorem dX7_eject_33 : decode cX7_eject 33 = .ok (.iload_n 3, 1) := by decide +kernel
theorem dX7_eject_34 : decode cX7_eject 34 = .ok (.iconst (-1), 1) := by decide +kernel
theorem dX7_eject_35 : decode cX7_eject 35 = .ok (.if_icmp .ne 11, 3) := by decide +kernel
theorem dX7_eject_38 : decode cX7_eject 38 = .ok (.aload_n 0, 1) := by decide +kernel
theorem dX7_eject_39 : decode cX7_eject 39 = .ok (.ldc2_w 73, 3) := by decide +kernel
theorem dX7_eject_42 : decode cX7_eject 42 = .ok (.invokevirtual 61, 3) := by decide +kernel
theorem dX7_eject_45 : decode cX7_eject 45 = .ok (.lreturn, 1) := by decide +kernel
theorem dX7_eject_46 : decode cX7_eject 46 = .ok (.aload_n 0, 1) := by decide +kernel
theorem dX7_eject_47 : decode cX7_eject 47 = .ok (.getfield 7, 3) := by decide +kernel
theorem dX7_eject_50 : decode cX7_eject 50 = .ok (.iconst 4, 1) := by decide +kernel
theorem dX7_eject_51 : decode cX7_eject 51 = .ok (.iload_n 1, 1) := by decide +kernel
theorem dX7_eject_52 : decode cX7_eject 52 = .ok (.imul, 1) := by decide +kernel
theorem dX7_eject_53 : decode cX7_eject 53 = .ok (.iload_n 2, 1) := by decide +kernel
theorem dX7_eject_54 : decode cX7_eject 54 = .ok (.iadd, 1) := by decide +kernel
theorem dX7_eject_55 : decode cX7_eject 55 = .ok (.iconst (-1), 1) := by decide +kernel
theorem dX7_eject_56 : decode cX7_eject 56 = .ok (.iastore, 1) := by decide +kernel
theorem dX7_eject_57 : decode cX7_eject 57 = .ok (.aload_n 0, 1) := by decide +kernel
theorem dX7_eject_58 : decode cX7_eject 58 = .ok (.getfield 19, 3) := by decide +kernel
theorem dX7_eject_61 : decode cX7_eject 61 = .ok (.iload_n 3, 1) := by decide +kernel
theorem dX7_eject_62 : decode cX7_eject 62 = .ok (.iaload, 1) := by decide +kernel
theorem dX7_eject_63 : decode cX7_eject 63 = .ok (.i2l, 1) := by decide +kernel
theorem dX7_eject_64 : decode cX7_eject 64 = .ok (.lreturn, 1) := by decide +kernel
set_option maxRecDepth 20000 in
theorem ggX7_share_X7_isFour : GoodIn wsX7_share wsX7_isFour := goodIn_r _ [6] (by decide +kernel) (by decide +kernel)
set_option maxRecDepth 20000 in
theorem gX7_share_X7_isFour : GoodIn wsX7_share (va_wsS RX7 55 yX7_isFour wsX7_isFour) := goodIn_app (goodIn_of _ (by decide +kernel)) ggX7_share_X7_isFour
set_option maxRecDepth 20000 in
theorem ggX7_share_X7_refuse : GoodIn wsX7_share wsX7_refuse := goodIn_r _ [10, 11, 12, 13, 14, 15, 16, 17, 18, 19, 20, 21, 22] (by decide +kernel) (by decide +kernel)
set_option maxRecDepth 20000 in
theorem gX7_share_X7_refuse : GoodIn wsX7_share (wsV RX7 61 RX7 yX7_refuse wsX7_refuse) := goodIn_app (goodIn_of _ (by decide +kernel)) ggX7_share_X7_refuse
theorem dX7_share_0 : decode cX7_share 0 = .ok (.iload_n 1, 1) := by decide +kernel
theorem dX7_share_1 : decode cX7_share 1 = .ok (.invokestatic 55, 3) := by decide +kernel
theorem dX7_share_4 : decode cX7_share 4 = .ok (.ifCond .eq 17, 3) := by decide +kernel
theorem dX7_share_7 : decode cX7_share 7 = .ok (.iload_n 2, 1) := by decide +kernel
theorem dX7_share_8 : decode cX7_share 8 = .ok (.invokestatic 55, 3) := by decide +kernel
theorem dX7_share_11 : decode cX7_share 11 = .ok (.ifCond .eq 10, 3) := by decide +kernel
theorem dX7_share_14 : decode cX7_share 14 = .ok (.iload_n 3, 1) := by decide +kernel
theorem dX7_share_15 : decode cX7_share 15 = .ok (.invokestatic 55, 3) := by decide +kernel
theorem dX7_share_18 : decode cX7_share 18 = .ok (.ifCond .ne 11, 3) := by decide +kernel
theorem dX7_share_21 : decode cX7_share 21 = .ok (.aload_n 0, 1) := by decide +kernel
theorem dX7_share_22 : decode cX7_share 22 = .ok (.ldc2_w 59, 3) := by decide +kernel
theorem dX7_share_25 : decode cX7_share 25 = .ok (.invokevirtual 61, 3) := by decide +kernel
theorem dX7_share_28 : decode cX7_share 28 = .ok (.lreturn, 1) := by decide +kernel
theorem dX7_share_29 : decode cX7_share 29 = .ok (.aload_n 0, 1) := by decide +kernel
theorem dX7_share_30 : decode cX7_share 30 = .ok (.getfield 7, 3) := by decide +kernel
theorem dX7_share_33 : decode cX7_share 33 = .ok (.iconst 4, 1) := by decide +kernel
theorem dX7_share_34 : decode cX7_share 34 = .ok (.iload_n 2, 1) := by decide +kernel
theorem dX7_share_35 : decode cX7_share 35 = .ok (.imul, 1) := by decide +kernel
theorem dX7_share_36 : decode cX7_share 36 = .ok (.iload_n 3, 1) := by decide +kernel
theorem dX7_share_37 : decode cX7_share 37 = .ok (.iadd, 1) := by decide +kernel
theorem dX7_share_38 : decode cX7_share 38 = .ok (.aload_n 0, 1) := by decide +kernel
theorem dX7_share_39 : decode cX7_share 39 = .ok (.getfield 7, 3) := by decide +kernel
theorem dX7_share_42 : decode cX7_share 42 = .ok (.iconst 4, 1) := by decide +kernel
theorem dX7_share_43 : decode cX7_share 43 = .ok (.iload_n 1, 1) := by decide +kernel
theorem dX7_share_44 : decode cX7_share 44 = .ok (.imul, 1) := by decide +kernel
theorem dX7_share_45 : decode cX7_share 45 = .ok (.iload_n 3, 1) := by decide +kernel
theorem dX7_share_46 : decode cX7_share 46 = .ok (.iadd, 1) := by decide +kernel
theorem dX7_share_47 : decode cX7_share 47 = .ok (.iaload, 1) := by decide +kernel
theorem dX7_share_48 : decode cX7_share 48 = .ok (.iastore, 1) := by decide +kernel
theorem dX7_share_49 : decode cX7_share 49 = .ok (.aload_n 0, 1) := by decide +kernel
theorem dX7_share_50 : decode cX7_share 50 = .ok (.getfield 7, 3) := by decide +kernel
theorem dX7_share_53 : decode cX7_share 53 = .ok (.iconst 4, 1) := by decide +kernel
theorem dX7_share_54 : decode cX7_share 54 = .ok (.iload_n 2, 1) := by decide +kernel
theorem dX7_share_55 : decode cX7_share 55 = .ok (.imul, 1) := by decide +kernel
theorem dX7_share_56 : decode cX7_share 56 = .ok (.iload_n 3, 1) := by decide +kernel
theorem dX7_share_57 : decode cX7_share 57 = .ok (.iadd, 1) := by decide +kernel
theorem dX7_share_58 : decode cX7_share 58 = .ok (.iaload, 1) := by decide +kernel
theorem dX7_share_59 : decode cX7_share 59 = .ok (.iconst (-1), 1) := by decide +kernel
theorem dX7_share_60 : decode cX7_share 60 = .ok (.if_icmp .ne 7, 3) := by decide +kernel
theorem dX7_share_63 : decode cX7_share 63 = .ok (.lconst 0, 1) := by decide +kernel
theorem dX7_share_64 : decode cX7_share 64 = .ok (.goto 4, 3) := by decide +kernel
theorem dX7_share_67 : decode cX7_share 67 = .ok (.lconst 1, 1) := by decide +kernel
theorem dX7_share_68 : decode cX7_share 68 = .ok (.lreturn, 1) := by decide +kernel
set_option maxRecDepth 20000 in
theorem ggX7_size_X7_isFour : GoodIn wsX7_size wsX7_isFour := goodIn_r _ [8] (by decide +kernel) (by decide +kernel)
set_option maxRecDepth 20000 in
theorem gX7_size_X7_isFour : GoodIn wsX7_size (va_wsS RX7 55 yX7_isFour wsX7_isFour) := goodIn_app (goodIn_of _ (by decide +kernel)) ggX7_size_X7_isFour
set_option maxRecDepth 20000 in
theorem ggX7_size_X7_refuse : GoodIn wsX7_size wsX7_refuse := goodIn_r _ [12, 13, 14, 15, 16, 17, 18, 19, 20, 21, 22, 23, 24] (by decide +kernel) (by decide +kernel)
set_option maxRecDepth 20000 in
theorem gX7_size_X7_refuse : GoodIn wsX7_size (wsV RX7 61 RX7 yX7_refuse wsX7_refuse) := goodIn_app (goodIn_of _ (by decide +kernel)) ggX7_size_X7_refuse
theorem dX7_size_0 : decode cX7_size 0 = .ok (.iload_n 1, 1) := by decide +kernel
theorem dX7_size_1 : decode cX7_size 1 = .ok (.invokestatic 55, 3) := by decide +kernel
theorem dX7_size_4 : decode cX7_size 4 = .ok (.ifCond .eq 10, 3) := by decide +kernel
theorem dX7_size_7 : decode cX7_size 7 = .ok (.iload_n 2, 1) := by decide +kernel
theorem dX7_size_8 : decode cX7_size 8 = .ok (.invokestatic 55, 3) := by decide +kernel
theorem dX7_size_11 : decode cX7_size 11 = .ok (.ifCond .ne 11, 3) := by decide +kernel
theorem dX7_size_14 : decode cX7_size 14 = .ok (.aload_n 0, 1) := by decide +kernel
theorem dX7_size_15 : decode cX7_size 15 = .ok (.ldc2_w 59, 3) := by decide +kernel
theorem dX7_size_18 : decode cX7_size 18 = .ok (.invokevirtual 61, 3) := by decide +kernel
theorem dX7_size_21 : decode cX7_size 21 = .ok (.lreturn, 1) := by decide +kernel
theorem dX7_size_22 : decode cX7_size 22 = .ok (.aload_n 0, 1) := by decide +kernel
theorem dX7_size_23 : decode cX7_size 23 = .ok (.getfield 7, 3) := by decide +kernel
theorem dX7_size_26 : decode cX7_size 26 = .ok (.iconst 4, 1) := by decide +kernel
theorem dX7_size_27 : decode cX7_size 27 = .ok (.iload_n 1, 1) := by decide +kernel
theorem dX7_size_28 : decode cX7_size 28 = .ok (.imul, 1) := by decide +kernel
theorem dX7_size_29 : decode cX7_size 29 = .ok (.iload_n 2, 1) := by decide +kernel
theorem dX7_size_30 : decode cX7_size 30 = .ok (.iadd, 1) := by decide +kernel
theorem dX7_size_31 : decode cX7_size 31 = .ok (.iaload, 1) := by decide +kernel
theorem dX7_size_32 : decode cX7_size 32 = .ok (.istore_n 3, 1) := by decide +kernel
theorem dX7_size_33 : decode cX7_size 33 = .ok (.iload_n 3, 1) := by decide +kernel
theorem dX7_size_34 : decode cX7_size 34 = .ok (.iconst (-1), 1) := by decide +kernel
theorem dX7_size_35 : decode cX7_size 35 = .ok (.if_icmp .ne 13, 3) := by decide +kernel
theorem dX7_size_38 : decode cX7_size 38 = .ok (.aload_n 0, 1) := by decide +kernel
theorem dX7_size_39 : decode cX7_size 39 = .ok (.ldc2_w 73, 3) := by decide +kernel
theorem dX7_size_42 : decode cX7_size 42 = .ok (.invokevirtual 61, 3) := by decide +kernel
theorem dX7_size_45 : decode cX7_size 45 = .ok (.goto 10, 3) := by decide +kernel
theorem dX7_size_48 : decode cX7_size 48 = .ok (.aload_n 0, 1) := by decide +kernel
theorem dX7_size_49 : decode cX7_size 49 = .ok (.getfield 19, 3) := by decide +kernel
theorem dX7_size_52 : decode cX7_size 52 = .ok (.iload_n 3, 1) := by decide +kernel
theorem dX7_size_53 : decode cX7_size 53 = .ok (.iaload, 1) := by decide +kernel
theorem dX7_size_54 : decode cX7_size 54 = .ok (.i2l, 1) := by decide +kernel
theorem dX7_size_55 : decode cX7_size 55 = .ok (.lreturn, 1) := by decide +kernel
theorem dX7_against_0 : decode cX7_against 0 = .ok (.iload_n 1, 1) := by decide +kernel
theorem dX7_against_1 : decode cX7_against 1 = .ok (.iconst (-1), 1) := by decide +kernel
theorem dX7_against_2 : decode cX7_against 2 = .ok (.if_icmp .ne 9, 3) := by decide +kernel
theorem dX7_against_5 : decode cX7_against 5 = .ok (.ldc2_w 73, 3) := by decide +kernel
theorem dX7_against_8 : decode cX7_against 8 = .ok (.goto 24, 3) := by decide +kernel
theorem dX7_against_11 : decode cX7_against 11 = .ok (.iload_n 2, 1) := by decide +kernel
theorem dX7_against_12 : decode cX7_against 12 = .ok (.ifCond .lt 13, 3) := by decide +kernel
theorem dX7_against_15 : decode cX7_against 15 = .ok (.iload_n 2, 1) := by decide +kernel
theorem dX7_against_16 : decode cX7_against 16 = .ok (.aload_n 0, 1) := by decide +kernel
theorem dX7_against_17 : decode cX7_against 17 = .ok (.getfield 19, 3) := by decide +kernel
theorem dX7_against_20 : decode cX7_against 20 = .ok (.iload_n 1, 1) := by decide +kernel
theorem dX7_against_21 : decode cX7_against 21 = .ok (.iaload, 1) := by decide +kernel
theorem dX7_against_22 : decode cX7_against 22 = .ok (.if_icmp .lt 9, 3) := by decide +kernel
theorem dX7_against_25 : decode cX7_against 25 = .ok (.ldc2_w 75, 3) := by decide +kernel
theorem dX7_against_28 : decode cX7_against 28 = .ok (.goto 4, 3) := by decide +kernel
theorem dX7_against_31 : decode cX7_against 31 = .ok (.lconst 0, 1) := by decide +kernel
theorem dX7_against_32 : decode cX7_against 32 = .ok (.lreturn, 1) := by decide +kernel
set_option maxRecDepth 20000 in
theorem ggX7_read_X7_isFour : GoodIn wsX7_read wsX7_isFour := goodIn_r _ [6] (by decide +kernel) (by decide +kernel)
set_option maxRecDepth 20000 in
theorem gX7_read_X7_isFour : GoodIn wsX7_read (va_wsS RX7 55 yX7_isFour wsX7_isFour) := goodIn_app (goodIn_of _ (by decide +kernel)) ggX7_read_X7_isFour
set_option maxRecDepth 20000 in
theorem ggX7_read_X7_refuse : GoodIn wsX7_read wsX7_refuse := goodIn_r _ [10, 11, 26, 27, 28, 29, 30, 31, 32, 33, 34, 35, 36] (by decide +kernel) (by decide +kernel)
set_option maxRecDepth 20000 in
theorem gX7_read_X7_refuse : GoodIn wsX7_read (wsV RX7 61 RX7 yX7_refuse wsX7_refuse) := goodIn_app (goodIn_of _ (by decide +kernel)) ggX7_read_X7_refuse
set_option maxRecDepth 20000 in
theorem ggX7_read_X7_against : GoodIn wsX7_read wsX7_against := goodIn_r _ [15, 16, 17, 18, 26, 27, 28, 29, 30, 31, 32, 33, 34, 35, 36] (by decide +kernel) (by decide +kernel)
set_option maxRecDepth 20000 in
theorem gX7_read_X7_against : GoodIn wsX7_read (wsV RX7 77 RX7 yX7_against wsX7_against) := goodIn_app (goodIn_of _ (by decide +kernel)) ggX7_read_X7_against
set_option maxRecDepth 20000 in
theorem ggX7_read_X7_told : GoodIn wsX7_read wsX7_told := goodIn_r _ [22, 23, 24, 25, 26, 27, 28, 29, 30, 31, 32, 33, 34, 35, 36] (by decide +kernel) (by decide +kernel)
set_option maxRecDepth 20000 in
theorem gX7_read_X7_told : GoodIn wsX7_read (wsV RX7 81 RX7 yX7_told wsX7_told) := goodIn_app (goodIn_of _ (by decide +kernel)) ggX7_read_X7_told
theorem dX7_read_0 : decode cX7_read 0 = .ok (.iload_n 1, 1) := by decide +kernel
theorem dX7_read_1 : decode cX7_read 1 = .ok (.invokestatic 55, 3) := by decide +kernel
theorem dX7_read_4 : decode cX7_read 4 = .ok (.ifCond .eq 10, 3) := by decide +kernel
theorem dX7_read_7 : decode cX7_read 7 = .ok (.iload_n 2, 1) := by decide +kernel
theorem dX7_read_8 : decode cX7_read 8 = .ok (.invokestatic 55, 3) := by decide +kernel
theorem dX7_read_11 : decode cX7_read 11 = .ok (.ifCond .ne 11, 3) := by decide +kernel
theorem dX7_read_14 : decode cX7_read 14 = .ok (.aload_n 0, 1) := by decide +kernel
theorem dX7_read_15 : decode cX7_read 15 = .ok (.ldc2_w 59, 3) := by decide +kernel
theorem dX7_read_18 : decode cX7_read 18 = .ok (.invokevirtual 61, 3) := by decide +kernel
theorem dX7_read_21 : decode cX7_read 21 = .ok (.lreturn, 1) := by decide +kernel
theorem dX7_read_22 : decode cX7_read 22 = .ok (.aload_n 0, 1) := by decide +kernel
theorem dX7_read_23 : decode cX7_read 23 = .ok (.getfield 7, 3) := by decide +kernel
theorem dX7_read_26 : decode cX7_read 26 = .ok (.iconst 4, 1) := by decide +kernel
theorem dX7_read_27 : decode cX7_read 27 = .ok (.iload_n 1, 1) := by decide +kernel
theorem dX7_read_28 : decode cX7_read 28 = .ok (.imul, 1) := by decide +kernel
theorem dX7_read_29 : decode cX7_read 29 = .ok (.iload_n 2, 1) := by decide +kernel
theorem dX7_read_30 : decode cX7_read 30 = .ok (.iadd, 1) := by decide +kernel
theorem dX7_read_31 : decode cX7_read 31 = .ok (.iaload, 1) := by decide +kernel
theorem dX7_read_32 : decode cX7_read 32 = .ok (.istore 4, 2) := by decide +kernel
theorem dX7_read_34 : decode cX7_read 34 = .ok (.aload_n 0, 1) := by decide +kernel
theorem dX7_read_35 : decode cX7_read 35 = .ok (.iload 4, 2) := by decide +kernel
theorem dX7_read_37 : decode cX7_read 37 = .ok (.iload_n 3, 1) := by decide +kernel
theorem dX7_read_38 : decode cX7_read 38 = .ok (.invokevirtual 77, 3) := by decide +kernel
theorem dX7_read_41 : decode cX7_read 41 = .ok (.lstore 5, 2) := by decide +kernel
theorem dX7_read_43 : decode cX7_read 43 = .ok (.lload 5, 2) := by decide +kernel
theorem dX7_read_45 : decode cX7_read 45 = .ok (.lconst 0, 1) := by decide +kernel
theorem dX7_read_46 : decode cX7_read 46 = .ok (.lcmp, 1) := by decide +kernel
theorem dX7_read_47 : decode cX7_read 47 = .ok (.ifCond .eq 12, 3) := by decide +kernel
theorem dX7_read_50 : decode cX7_read 50 = .ok (.aload_n 0, 1) := by decide +kernel
theorem dX7_read_51 : decode cX7_read 51 = .ok (.lload 5, 2) := by decide +kernel
theorem dX7_read_53 : decode cX7_read 53 = .ok (.invokevirtual 61, 3) := by decide +kernel
theorem dX7_read_56 : decode cX7_read 56 = .ok (.goto 11, 3) := by decide +kernel
theorem dX7_read_59 : decode cX7_read 59 = .ok (.aload_n 0, 1) := by decide +kernel
theorem dX7_read_60 : decode cX7_read 60 = .ok (.iload_n 2, 1) := by decide +kernel
theorem dX7_read_61 : decode cX7_read 61 = .ok (.iload 4, 2) := by decide +kernel
theorem dX7_read_63 : decode cX7_read 63 = .ok (.iload_n 3, 1) := by decide +kernel
theorem dX7_read_64 : decode cX7_read 64 = .ok (.invokevirtual 81, 3) := by decide +kernel
theorem dX7_read_67 : decode cX7_read 67 = .ok (.lreturn, 1) := by decide +kernel
set_option maxRecDepth 20000 in
theorem ggX7_write_X7_isFour : GoodIn wsX7_write wsX7_isFour := goodIn_r _ [6] (by decide +kernel) (by decide +kernel)
set_option maxRecDepth 20000 in
theorem gX7_write_X7_isFour : GoodIn wsX7_write (va_wsS RX7 55 yX7_isFour wsX7_isFour) := goodIn_app (goodIn_of _ (by decide +kernel)) ggX7_write_X7_isFour
set_option maxRecDepth 20000 in
theorem ggX7_write_X7_refuse : GoodIn wsX7_write wsX7_refuse := goodIn_r _ [10, 11, 39, 40, 41, 42, 43, 44, 45, 46, 47, 48, 49] (by decide +kernel) (by decide +kernel)
set_option maxRecDepth 20000 in
theorem gX7_write_X7_refuse : GoodIn wsX7_write (wsV RX7 61 RX7 yX7_refuse wsX7_refuse) := goodIn_app (goodIn_of _ (by decide +kernel)) ggX7_write_X7_refuse
set_option maxRecDepth 20000 in
theorem ggX7_write_X7_against : GoodIn wsX7_write wsX7_against := goodIn_r _ [15, 16, 17, 18, 39, 40, 41, 42, 43, 44, 45, 46, 47, 48, 49] (by decide +kernel) (by decide +kernel)
set_option maxRecDepth 20000 in
theorem gX7_write_X7_against : GoodIn wsX7_write (wsV RX7 77 RX7 yX7_against wsX7_against) := goodIn_app (goodIn_of _ (by decide +kernel)) ggX7_write_X7_against
set_option maxRecDepth 20000 in
theorem ggX7_write_X7_fill : GoodIn wsX7_write wsX7_fill := goodIn_r _ [22, 23, 24, 25, 26, 27, 5, 28, 29, 30, 31, 32, 33, 34, 39, 40, 41, 42, 43, 44, 45, 46, 47, 48, 49] (by decide +kernel) (by decide +kernel)
set_option maxRecDepth 20000 in
theorem gX7_write_X7_fill : GoodIn wsX7_write (wsV RX7 85 RX7 yX7_fill wsX7_fill) := goodIn_app (goodIn_of _ (by decide +kernel)) ggX7_write_X7_fill
set_option maxRecDepth 20000 in
theorem ggX7_write_X7_told : GoodIn wsX7_write wsX7_told := goodIn_r _ [38, 25, 29, 23, 39, 40, 41, 42, 43, 44, 45, 46, 47, 48, 49] (by decide +kernel) (by decide +kernel)
set_option maxRecDepth 20000 in
theorem gX7_write_X7_told : GoodIn wsX7_write (wsV RX7 81 RX7 yX7_told wsX7_told) := goodIn_app (goodIn_of _ (by decide +kernel)) ggX7_write_X7_told
theorem dX7_write_0 : decode cX7_write 0 = .ok (.iload_n 1, 1) := by decide +kernel
theorem dX7_write_1 : decode cX7_write 1 = .ok (.invokestatic 55, 3) := by decide +kernel
theorem dX7_write_4 : decode cX7_write 4 = .ok (.ifCond .eq 10, 3) := by decide +kernel
theorem dX7_write_7 : decode cX7_write 7 = .ok (.iload_n 2, 1) := by decide +kernel
theorem dX7_write_8 : decode cX7_write 8 = .ok (.invokestatic 55, 3) := by decide +kernel
theorem dX7_write_11 : decode cX7_write 11 = .ok (.ifCond .ne 11, 3) := by decide +kernel
theorem dX7_write_14 : decode cX7_write 14 = .ok (.aload_n 0, 1) := by decide +kernel
theorem dX7_write_15 : decode cX7_write 15 = .ok (.ldc2_w 59, 3) := by decide +kernel
theorem dX7_write_18 : decode cX7_write 18 = .ok (.invokevirtual 61, 3) := by decide +kernel
theorem dX7_write_21 : decode cX7_write 21 = .ok (.lreturn, 1) := by decide +kernel
theorem dX7_write_22 : decode cX7_write 22 = .ok (.aload_n 0, 1) := by decide +kernel
theorem dX7_write_23 : decode cX7_write 23 = .ok (.getfield 7, 3) := by decide +kernel
theorem dX7_write_26 : decode cX7_write 26 = .ok (.iconst 4, 1) := by decide +kernel
theorem dX7_write_27 : decode cX7_write 27 = .ok (.iload_n 1, 1) := by decide +kernel
theorem dX7_write_28 : decode cX7_write 28 = .ok (.imul, 1) := by decide +kernel
theorem dX7_write_29 : decode cX7_write 29 = .ok (.iload_n 2, 1) := by decide +kernel
theorem dX7_write_30 : decode cX7_write 30 = .ok (.iadd, 1) := by decide +kernel
theorem dX7_write_31 : decode cX7_write 31 = .ok (.iaload, 1) := by decide +kernel
theorem dX7_write_32 : decode cX7_write 32 = .ok (.istore 5, 2) := by decide +kernel
theorem dX7_write_34 : decode cX7_write 34 = .ok (.aload_n 0, 1) := by decide +kernel
theorem dX7_write_35 : decode cX7_write 35 = .ok (.iload 5, 2) := by decide +kernel
theorem dX7_write_37 : decode cX7_write 37 = .ok (.iload_n 3, 1) := by decide +kernel
theorem dX7_write_38 : decode cX7_write 38 = .ok (.invokevirtual 77, 3) := by decide +kernel
theorem dX7_write_41 : decode cX7_write 41 = .ok (.lstore 6, 2) := by decide +kernel
theorem dX7_write_43 : decode cX7_write 43 = .ok (.lload 6, 2) := by decide +kernel
theorem dX7_write_45 : decode cX7_write 45 = .ok (.lconst 0, 1) := by decide +kernel
theorem dX7_write_46 : decode cX7_write 46 = .ok (.lcmp, 1) := by decide +kernel
theorem dX7_write_47 : decode cX7_write 47 = .ok (.ifCond .eq 10, 3) := by decide +kernel
theorem dX7_write_50 : decode cX7_write 50 = .ok (.aload_n 0, 1) := by decide +kernel
theorem dX7_write_51 : decode cX7_write 51 = .ok (.lload 6, 2) := by decide +kernel
theorem dX7_write_53 : decode cX7_write 53 = .ok (.invokevirtual 61, 3) := by decide +kernel
theorem dX7_write_56 : decode cX7_write 56 = .ok (.lreturn, 1) := by decide +kernel
theorem dX7_write_57 : decode cX7_write 57 = .ok (.aload_n 0, 1) := by decide +kernel
theorem dX7_write_58 : decode cX7_write 58 = .ok (.iload_n 2, 1) := by decide +kernel
theorem dX7_write_59 : decode cX7_write 59 = .ok (.iload 5, 2) := by decide +kernel
theorem dX7_write_61 : decode cX7_write 61 = .ok (.iload_n 3, 1) := by decide +kernel
theorem dX7_write_62 : decode cX7_write 62 = .ok (.iload 4, 2) := by decide +kernel
theorem dX7_write_64 : decode cX7_write 64 = .ok (.invokevirtual 85, 3) := by decide +kernel
theorem dX7_write_67 : decode cX7_write 67 = .ok (.aload_n 0, 1) := by decide +kernel
theorem dX7_write_68 : decode cX7_write 68 = .ok (.iload_n 2, 1) := by decide +kernel
theorem dX7_write_69 : decode cX7_write 69 = .ok (.iload 5, 2) := by decide +kernel
theorem dX7_write_71 : decode cX7_write 71 = .ok (.iload_n 3, 1) := by decide +kernel
theorem dX7_write_72 : decode cX7_write 72 = .ok (.invokevirtual 81, 3) := by decide +kernel
theorem dX7_write_75 : decode cX7_write 75 = .ok (.lreturn, 1) := by decide +kernel
theorem dX7_worked_0 : decode cX7_worked 0 = .ok (.iload_n 0, 1) := by decide +kernel
theorem dX7_worked_1 : decode cX7_worked 1 = .ok (.tableswitch 85 0 7 #[47, 51, 55, 59, 63, 70, 77, 81], 47) := by decide +kernel
theorem dX7_worked_48 : decode cX7_worked 48 = .ok (.iload_n 1, 1) := by decide +kernel
theorem dX7_worked_49 : decode cX7_worked 49 = .ok (.iload_n 2, 1) := by decide +kernel
theorem dX7_worked_50 : decode cX7_worked 50 = .ok (.iadd, 1) := by decide +kernel
theorem dX7_worked_51 : decode cX7_worked 51 = .ok (.ireturn, 1) := by decide +kernel
theorem dX7_worked_52 : decode cX7_worked 52 = .ok (.iload_n 1, 1) := by decide +kernel
theorem dX7_worked_53 : decode cX7_worked 53 = .ok (.iload_n 2, 1) := by decide +kernel
theorem dX7_worked_54 : decode cX7_worked 54 = .ok (.isub, 1) := by decide +kernel
theorem dX7_worked_55 : decode cX7_worked 55 = .ok (.ireturn, 1) := by decide +kernel
theorem dX7_worked_56 : decode cX7_worked 56 = .ok (.iload_n 1, 1) := by decide +kernel
theorem dX7_worked_57 : decode cX7_worked 57 = .ok (.iload_n 2, 1) := by decide +kernel
theorem dX7_worked_58 : decode cX7_worked 58 = .ok (.imul, 1) := by decide +kernel
theorem dX7_worked_59 : decode cX7_worked 59 = .ok (.ireturn, 1) := by decide +kernel
theorem dX7_worked_60 : decode cX7_worked 60 = .ok (.iload_n 1, 1) := by decide +kernel
theorem dX7_worked_61 : decode cX7_worked 61 = .ok (.iload_n 2, 1) := by decide +kernel
theorem dX7_worked_62 : decode cX7_worked 62 = .ok (.idiv, 1) := by decide +kernel
theorem dX7_worked_63 : decode cX7_worked 63 = .ok (.ireturn, 1) := by decide +kernel
theorem dX7_worked_64 : decode cX7_worked 64 = .ok (.iload_n 1, 1) := by decide +kernel
theorem dX7_worked_65 : decode cX7_worked 65 = .ok (.iload_n 2, 1) := by decide +kernel
theorem dX7_worked_66 : decode cX7_worked 66 = .ok (.bipush 31, 2) := by decide +kernel
theorem dX7_worked_68 : decode cX7_worked 68 = .ok (.iand, 1) := by decide +kernel
theorem dX7_worked_69 : decode cX7_worked 69 = .ok (.ishl, 1) := by decide +kernel
theorem dX7_worked_70 : decode cX7_worked 70 = .ok (.ireturn, 1) := by decide +kernel
theorem dX7_worked_71 : decode cX7_worked 71 = .ok (.iload_n 1, 1) := by decide +kernel
theorem dX7_worked_72 : decode cX7_worked 72 = .ok (.iload_n 2, 1) := by decide +kernel
theorem dX7_worked_73 : decode cX7_worked 73 = .ok (.bipush 31, 2) := by decide +kernel
theorem dX7_worked_75 : decode cX7_worked 75 = .ok (.iand, 1) := by decide +kernel
theorem dX7_worked_76 : decode cX7_worked 76 = .ok (.iushr, 1) := by decide +kernel
theorem dX7_worked_77 : decode cX7_worked 77 = .ok (.ireturn, 1) := by decide +kernel
theorem dX7_worked_78 : decode cX7_worked 78 = .ok (.iload_n 1, 1) := by decide +kernel
theorem dX7_worked_79 : decode cX7_worked 79 = .ok (.iload_n 2, 1) := by decide +kernel
theorem dX7_worked_80 : decode cX7_worked 80 = .ok (.ixor, 1) := by decide +kernel
theorem dX7_worked_81 : decode cX7_worked 81 = .ok (.ireturn, 1) := by decide +kernel
theorem dX7_worked_82 : decode cX7_worked 82 = .ok (.iload_n 1, 1) := by decide +kernel
theorem dX7_worked_83 : decode cX7_worked 83 = .ok (.iload_n 2, 1) := by decide +kernel
theorem dX7_worked_84 : decode cX7_worked 84 = .ok (.iand, 1) := by decide +kernel
theorem dX7_worked_85 : decode cX7_worked 85 = .ok (.ireturn, 1) := by decide +kernel
theorem dX7_worked_86 : decode cX7_worked 86 = .ok (.iload_n 1, 1) := by decide +kernel
theorem dX7_worked_87 : decode cX7_worked 87 = .ok (.iload_n 2, 1) := by decide +kernel
theorem dX7_worked_88 : decode cX7_worked 88 = .ok (.ior, 1) := by decide +kernel
theorem dX7_worked_89 : decode cX7_worked 89 = .ok (.ireturn, 1) := by decide +kernel
set_option maxRecDepth 20000 in
theorem ggX7_nudge_X7_isFour : GoodIn wsX7_nudge wsX7_isFour := goodIn_r _ [9] (by decide +kernel) (by decide +kernel)
set_option maxRecDepth 20000 in
theorem gX7_nudge_X7_isFour : GoodIn wsX7_nudge (va_wsS RX7 55 yX7_isFour wsX7_isFour) := goodIn_app (goodIn_of _ (by decide +kernel)) ggX7_nudge_X7_isFour
set_option maxRecDepth 20000 in
theorem ggX7_nudge_X7_refuse : GoodIn wsX7_nudge wsX7_refuse := goodIn_r _ [13, 14, 43, 44, 45, 46, 47, 48, 49, 50, 51, 52, 53] (by decide +kernel) (by decide +kernel)
set_option maxRecDepth 20000 in
theorem gX7_nudge_X7_refuse : GoodIn wsX7_nudge (wsV RX7 61 RX7 yX7_refuse wsX7_refuse) := goodIn_app (goodIn_of _ (by decide +kernel)) ggX7_nudge_X7_refuse
set_option maxRecDepth 20000 in
theorem ggX7_nudge_X7_against : GoodIn wsX7_nudge wsX7_against := goodIn_r _ [18, 19, 20, 21, 43, 44, 45, 46, 47, 48, 49, 50, 51, 52, 53] (by decide +kernel) (by decide +kernel)
set_option maxRecDepth 20000 in
theorem gX7_nudge_X7_against : GoodIn wsX7_nudge (wsV RX7 77 RX7 yX7_against wsX7_against) := goodIn_app (goodIn_of _ (by decide +kernel)) ggX7_nudge_X7_against
set_option maxRecDepth 20000 in
theorem ggX7_nudge_X7_eighth : GoodIn wsX7_nudge wsX7_eighth := goodIn_r _ [24, 25] (by decide +kernel) (by decide +kernel)
set_option maxRecDepth 20000 in
theorem gX7_nudge_X7_eighth : GoodIn wsX7_nudge (va_wsS RX7 47 yX7_eighth wsX7_eighth) := goodIn_app (goodIn_of _ (by decide +kernel)) ggX7_nudge_X7_eighth
set_option maxRecDepth 20000 in
theorem ggX7_nudge_X7_held : GoodIn wsX7_nudge wsX7_held := goodIn_r _ [28, 29, 30] (by decide +kernel) (by decide +kernel)
set_option maxRecDepth 20000 in
theorem gX7_nudge_X7_held : GoodIn wsX7_nudge (va_wsS RX7 51 yX7_held wsX7_held) := goodIn_app (goodIn_of _ (by decide +kernel)) ggX7_nudge_X7_held
set_option maxRecDepth 20000 in
theorem ggX7_nudge_X7_worked : GoodIn wsX7_nudge wsX7_worked := goodIn_r _ [33] (by decide +kernel) (by decide +kernel)
set_option maxRecDepth 20000 in
theorem gX7_nudge_X7_worked : GoodIn wsX7_nudge (va_wsS RX7 91 yX7_worked wsX7_worked) := goodIn_app (goodIn_of _ (by decide +kernel)) ggX7_nudge_X7_worked
set_option maxRecDepth 20000 in
theorem ggX7_nudge_X7_fill : GoodIn wsX7_nudge wsX7_fill := goodIn_r _ [37, 5, 38, 4, 22, 23, 8, 24, 25, 26, 27, 28, 29, 30, 43, 44, 45, 46, 47, 48, 49, 50, 51, 52, 53] (by decide +kernel) (by decide +kernel)
set_option maxRecDepth 20000 in
theorem gX7_nudge_X7_fill : GoodIn wsX7_nudge (wsV RX7 85 RX7 yX7_fill wsX7_fill) := goodIn_app (goodIn_of _ (by decide +kernel)) ggX7_nudge_X7_fill
set_option maxRecDepth 20000 in
theorem ggX7_nudge_X7_told : GoodIn wsX7_nudge wsX7_told := goodIn_r _ [42, 4, 25, 5, 43, 44, 45, 46, 47, 48, 49, 50, 51, 52, 53] (by decide +kernel) (by decide +kernel)
set_option maxRecDepth 20000 in
theorem gX7_nudge_X7_told : GoodIn wsX7_nudge (wsV RX7 81 RX7 yX7_told wsX7_told) := goodIn_app (goodIn_of _ (by decide +kernel)) ggX7_nudge_X7_told
theorem dX7_nudge_0 : decode cX7_nudge 0 = .ok (.iload_n 2, 1) := by decide +kernel
theorem dX7_nudge_1 : decode cX7_nudge 1 = .ok (.iconst 2, 1) := by decide +kernel
theorem dX7_nudge_2 : decode cX7_nudge 2 = .ok (.if_icmp .ne 22, 3) := by decide +kernel
theorem dX7_nudge_5 : decode cX7_nudge 5 = .ok (.iload 4, 2) := by decide +kernel
theorem dX7_nudge_7 : decode cX7_nudge 7 = .ok (.ifCond .lt 13, 3) := by decide +kernel
theorem dX7_nudge_10 : decode cX7_nudge 10 = .ok (.iload 4, 2) := by decide +kernel
theorem dX7_nudge_12 : decode cX7_nudge 12 = .ok (.iconst 2, 1) := by decide +kernel
theorem dX7_nudge_13 : decode cX7_nudge 13 = .ok (.if_icmp .ge 7, 3) := by decide +kernel
theorem dX7_nudge_16 : decode cX7_nudge 16 = .ok (.iconst 1, 1) := by decide +kernel
theorem dX7_nudge_17 : decode cX7_nudge 17 = .ok (.goto 50, 3) := by decide +kernel
theorem dX7_nudge_20 : decode cX7_nudge 20 = .ok (.iconst 0, 1) := by decide +kernel
theorem dX7_nudge_21 : decode cX7_nudge 21 = .ok (.goto 46, 3) := by decide +kernel
theorem dX7_nudge_24 : decode cX7_nudge 24 = .ok (.iload_n 2, 1) := by decide +kernel
theorem dX7_nudge_25 : decode cX7_nudge 25 = .ok (.iconst 3, 1) := by decide +kernel
theorem dX7_nudge_26 : decode cX7_nudge 26 = .ok (.if_icmp .ne 24, 3) := by decide +kernel
theorem dX7_nudge_29 : decode cX7_nudge 29 = .ok (.iload 4, 2) := by decide +kernel
theorem dX7_nudge_31 : decode cX7_nudge 31 = .ok (.iconst 5, 1) := by decide +kernel
theorem dX7_nudge_32 : decode cX7_nudge 32 = .ok (.if_icmp .le 14, 3) := by decide +kernel
theorem dX7_nudge_35 : decode cX7_nudge 35 = .ok (.iload 4, 2) := by decide +kernel
theorem dX7_nudge_37 : decode cX7_nudge 37 = .ok (.bipush 9, 2) := by decide +kernel
theorem dX7_nudge_39 : decode cX7_nudge 39 = .ok (.if_icmp .ge 7, 3) := by decide +kernel
theorem dX7_nudge_42 : decode cX7_nudge 42 = .ok (.iconst 1, 1) := by decide +kernel
theorem dX7_nudge_43 : decode cX7_nudge 43 = .ok (.goto 24, 3) := by decide +kernel
theorem dX7_nudge_46 : decode cX7_nudge 46 = .ok (.iconst 0, 1) := by decide +kernel
theorem dX7_nudge_47 : decode cX7_nudge 47 = .ok (.goto 20, 3) := by decide +kernel
theorem dX7_nudge_50 : decode cX7_nudge 50 = .ok (.iload 4, 2) := by decide +kernel
theorem dX7_nudge_52 : decode cX7_nudge 52 = .ok (.ifCond .lt 14, 3) := by decide +kernel
theorem dX7_nudge_55 : decode cX7_nudge 55 = .ok (.iload 4, 2) := by decide +kernel
theorem dX7_nudge_57 : decode cX7_nudge 57 = .ok (.bipush 9, 2) := by decide +kernel
theorem dX7_nudge_59 : decode cX7_nudge 59 = .ok (.if_icmp .ge 7, 3) := by decide +kernel
theorem dX7_nudge_62 : decode cX7_nudge 62 = .ok (.iconst 1, 1) := by decide +kernel
theorem dX7_nudge_63 : decode cX7_nudge 63 = .ok (.goto 4, 3) := by decide +kernel
theorem dX7_nudge_66 : decode cX7_nudge 66 = .ok (.iconst 0, 1) := by decide +kernel
theorem dX7_nudge_67 : decode cX7_nudge 67 = .ok (.istore 6, 2) := by decide +kernel
theorem dX7_nudge_69 : decode cX7_nudge 69 = .ok (.iload_n 1, 1) := by decide +kernel
theorem dX7_nudge_70 : decode cX7_nudge 70 = .ok (.invokestatic 55, 3) := by decide +kernel
theorem dX7_nudge_73 : decode cX7_nudge 73 = .ok (.ifCond .eq 15, 3) := by decide +kernel
theorem dX7_nudge_76 : decode cX7_nudge 76 = .ok (.iload_n 2, 1) := by decide +kernel
theorem dX7_nudge_77 : decode cX7_nudge 77 = .ok (.invokestatic 55, 3) := by decide +kernel
theorem dX7_nudge_80 : decode cX7_nudge 80 = .ok (.ifCond .eq 8, 3) := by decide +kernel
theorem dX7_nudge_83 : decode cX7_nudge 83 = .ok (.iload 6, 2) := by decide +kernel
theorem dX7_nudge_85 : decode cX7_nudge 85 = .ok (.ifCond .ne 11, 3) := by decide +kernel
theorem dX7_nudge_88 : decode cX7_nudge 88 = .ok (.aload_n 0, 1) := by decide +kernel
theorem dX7_nudge_89 : decode cX7_nudge 89 = .ok (.ldc2_w 59, 3) := by decide +kernel
theorem dX7_nudge_92 : decode cX7_nudge 92 = .ok (.invokevirtual 61, 3) := by decide +kernel
theorem dX7_nudge_95 : decode cX7_nudge 95 = .ok (.lreturn, 1) := by decide +kernel
theorem dX7_nudge_96 : decode cX7_nudge 96 = .ok (.aload_n 0, 1) := by decide +kernel
theorem dX7_nudge_97 : decode cX7_nudge 97 = .ok (.getfield 7, 3) := by decide +kernel
theorem dX7_nudge_100 : decode cX7_nudge 100 = .ok (.iconst 4, 1) := by decide +kernel
theorem dX7_nudge_101 : decode cX7_nudge 101 = .ok (.iload_n 1, 1) := by decide +kernel
theorem dX7_nudge_102 : decode cX7_nudge 102 = .ok (.imul, 1) := by decide +kernel
theorem dX7_nudge_103 : decode cX7_nudge 103 = .ok (.iload_n 2, 1) := by decide +kernel
theorem dX7_nudge_104 : decode cX7_nudge 104 = .ok (.iadd, 1) := by decide +kernel
theorem dX7_nudge_105 : decode cX7_nudge 105 = .ok (.iaload, 1) := by decide +kernel
theorem dX7_nudge_106 : decode cX7_nudge 106 = .ok (.istore 7, 2) := by decide +kernel
theorem dX7_nudge_108 : decode cX7_nudge 108 = .ok (.aload_n 0, 1) := by decide +kernel
theorem dX7_nudge_109 : decode cX7_nudge 109 = .ok (.iload 7, 2) := by decide +kernel
theorem dX7_nudge_111 : decode cX7_nudge 111 = .ok (.iload_n 3, 1) := by decide +kernel
theorem dX7_nudge_112 : decode cX7_nudge 112 = .ok (.invokevirtual 77, 3) := by decide +kernel
theorem dX7_nudge_115 : decode cX7_nudge 115 = .ok (.lstore 8, 2) := by decide +kernel
theorem dX7_nudge_117 : decode cX7_nudge 117 = .ok (.lload 8, 2) := by decide +kernel
theorem dX7_nudge_119 : decode cX7_nudge 119 = .ok (.lconst 0, 1) := by decide +kernel
theorem dX7_nudge_120 : decode cX7_nudge 120 = .ok (.lcmp, 1) := by decide +kernel
theorem dX7_nudge_121 : decode cX7_nudge 121 = .ok (.ifCond .eq 10, 3) := by decide +kernel
theorem dX7_nudge_124 : decode cX7_nudge 124 = .ok (.aload_n 0, 1) := by decide +kernel
theorem dX7_nudge_125 : decode cX7_nudge 125 = .ok (.lload 8, 2) := by decide +kernel
theorem dX7_nudge_127 : decode cX7_nudge 127 = .ok (.invokevirtual 61, 3) := by decide +kernel
theorem dX7_nudge_130 : decode cX7_nudge 130 = .ok (.lreturn, 1) := by decide +kernel
theorem dX7_nudge_131 : decode cX7_nudge 131 = .ok (.iload 4, 2) := by decide +kernel
theorem dX7_nudge_133 : decode cX7_nudge 133 = .ok (.iconst 3, 1) := by decide +kernel
theorem dX7_nudge_134 : decode cX7_nudge 134 = .ok (.if_icmp .ne 16, 3) := by decide +kernel
theorem dX7_nudge_137 : decode cX7_nudge 137 = .ok (.iload 5, 2) := by decide +kernel
theorem dX7_nudge_139 : decode cX7_nudge 139 = .ok (.ifCond .ne 11, 3) := by decide +kernel
theorem dX7_nudge_142 : decode cX7_nudge 142 = .ok (.aload_n 0, 1) := by decide +kernel
theorem dX7_nudge_143 : decode cX7_nudge 143 = .ok (.ldc2_w 89, 3) := by decide +kernel
theorem dX7_nudge_146 : decode cX7_nudge 146 = .ok (.invokevirtual 61, 3) := by decide +kernel
theorem dX7_nudge_149 : decode cX7_nudge 149 = .ok (.lreturn, 1) := by decide +kernel
theorem dX7_nudge_150 : decode cX7_nudge 150 = .ok (.bipush 40, 2) := by decide +kernel
theorem dX7_nudge_152 : decode cX7_nudge 152 = .ok (.iload 7, 2) := by decide +kernel
theorem dX7_nudge_154 : decode cX7_nudge 154 = .ok (.imul, 1) := by decide +kernel
theorem dX7_nudge_155 : decode cX7_nudge 155 = .ok (.iload_n 3, 1) := by decide +kernel
theorem dX7_nudge_156 : decode cX7_nudge 156 = .ok (.iadd, 1) := by decide +kernel
theorem dX7_nudge_157 : decode cX7_nudge 157 = .ok (.istore 10, 2) := by decide +kernel
theorem dX7_nudge_159 : decode cX7_nudge 159 = .ok (.iload_n 2, 1) := by decide +kernel
theorem dX7_nudge_160 : decode cX7_nudge 160 = .ok (.iconst 2, 1) := by decide +kernel
theorem dX7_nudge_161 : decode cX7_nudge 161 = .ok (.if_icmp .ne 50, 3) := by decide +kernel
theorem dX7_nudge_164 : decode cX7_nudge 164 = .ok (.aload_n 0, 1) := by decide +kernel
theorem dX7_nudge_165 : decode cX7_nudge 165 = .ok (.getfield 25, 3) := by decide +kernel
theorem dX7_nudge_168 : decode cX7_nudge 168 = .ok (.iload 10, 2) := by decide +kernel
theorem dX7_nudge_170 : decode cX7_nudge 170 = .ok (.iload 4, 2) := by decide +kernel
theorem dX7_nudge_172 : decode cX7_nudge 172 = .ok (.ifCond .ne 19, 3) := by decide +kernel
theorem dX7_nudge_175 : decode cX7_nudge 175 = .ok (.aload_n 0, 1) := by decide +kernel
theorem dX7_nudge_176 : decode cX7_nudge 176 = .ok (.getfield 25, 3) := by decide +kernel
theorem dX7_nudge_179 : decode cX7_nudge 179 = .ok (.iload 10, 2) := by decide +kernel
theorem dX7_nudge_181 : decode cX7_nudge 181 = .ok (.faload, 1) := by decide +kernel
theorem dX7_nudge_182 : decode cX7_nudge 182 = .ok (.iload 5, 2) := by decide +kernel
theorem dX7_nudge_184 : decode cX7_nudge 184 = .ok (.invokestatic 47, 3) := by decide +kernel
theorem dX7_nudge_187 : decode cX7_nudge 187 = .ok (.fadd, 1) := by decide +kernel
theorem dX7_nudge_188 : decode cX7_nudge 188 = .ok (.goto 16, 3) := by decide +kernel
theorem dX7_nudge_191 : decode cX7_nudge 191 = .ok (.aload_n 0, 1) := by decide +kernel
theorem dX7_nudge_192 : decode cX7_nudge 192 = .ok (.getfield 25, 3) := by decide +kernel
theorem dX7_nudge_195 : decode cX7_nudge 195 = .ok (.iload 10, 2) := by decide +kernel
theorem dX7_nudge_197 : decode cX7_nudge 197 = .ok (.faload, 1) := by decide +kernel
theorem dX7_nudge_198 : decode cX7_nudge 198 = .ok (.iload 5, 2) := by decide +kernel
theorem dX7_nudge_200 : decode cX7_nudge 200 = .ok (.invokestatic 47, 3) := by decide +kernel
theorem dX7_nudge_203 : decode cX7_nudge 203 = .ok (.fsub, 1) := by decide +kernel
theorem dX7_nudge_204 : decode cX7_nudge 204 = .ok (.invokestatic 51, 3) := by decide +kernel
theorem dX7_nudge_207 : decode cX7_nudge 207 = .ok (.fastore, 1) := by decide +kernel
theorem dX7_nudge_208 : decode cX7_nudge 208 = .ok (.goto 37, 3) := by decide +kernel
theorem dX7_nudge_211 : decode cX7_nudge 211 = .ok (.aload_n 0, 1) := by decide +kernel
theorem dX7_nudge_212 : decode cX7_nudge 212 = .ok (.iload_n 2, 1) := by decide +kernel
theorem dX7_nudge_213 : decode cX7_nudge 213 = .ok (.iload 7, 2) := by decide +kernel
theorem dX7_nudge_215 : decode cX7_nudge 215 = .ok (.iload_n 3, 1) := by decide +kernel
theorem dX7_nudge_216 : decode cX7_nudge 216 = .ok (.iload 4, 2) := by decide +kernel
theorem dX7_nudge_218 : decode cX7_nudge 218 = .ok (.aload_n 0, 1) := by decide +kernel
theorem dX7_nudge_219 : decode cX7_nudge 219 = .ok (.getfield 22, 3) := by decide +kernel
theorem dX7_nudge_222 : decode cX7_nudge 222 = .ok (.iload 10, 2) := by decide +kernel
theorem dX7_nudge_224 : decode cX7_nudge 224 = .ok (.iaload, 1) := by decide +kernel
theorem dX7_nudge_225 : decode cX7_nudge 225 = .ok (.iload_n 2, 1) := by decide +kernel
theorem dX7_nudge_226 : decode cX7_nudge 226 = .ok (.iconst 3, 1) := by decide +kernel
theorem dX7_nudge_227 : decode cX7_nudge 227 = .ok (.if_icmp .ne 10, 3) := by decide +kernel
theorem dX7_nudge_230 : decode cX7_nudge 230 = .ok (.iload 5, 2) := by decide +kernel
theorem dX7_nudge_232 : decode cX7_nudge 232 = .ok (.iconst 1, 1) := by decide +kernel
theorem dX7_nudge_233 : decode cX7_nudge 233 = .ok (.iand, 1) := by decide +kernel
theorem dX7_nudge_234 : decode cX7_nudge 234 = .ok (.goto 5, 3) := by decide +kernel
theorem dX7_nudge_237 : decode cX7_nudge 237 = .ok (.iload 5, 2) := by decide +kernel
theorem dX7_nudge_239 : decode cX7_nudge 239 = .ok (.invokestatic 91, 3) := by decide +kernel
theorem dX7_nudge_242 : decode cX7_nudge 242 = .ok (.invokevirtual 85, 3) := by decide +kernel
theorem dX7_nudge_245 : decode cX7_nudge 245 = .ok (.aload_n 0, 1) := by decide +kernel
theorem dX7_nudge_246 : decode cX7_nudge 246 = .ok (.iload_n 2, 1) := by decide +kernel
theorem dX7_nudge_247 : decode cX7_nudge 247 = .ok (.iload 7, 2) := by decide +kernel
theorem dX7_nudge_249 : decode cX7_nudge 249 = .ok (.iload_n 3, 1) := by decide +kernel
theorem dX7_nudge_250 : decode cX7_nudge 250 = .ok (.invokevirtual 81, 3) := by decide +kernel
theorem dX7_nudge_253 : decode cX7_nudge 253 = .ok (.lreturn, 1) := by decide +kernel
set_option maxRecDepth 20000 in
theorem ggX7_tick_X7_isFour : GoodIn wsX7_tick wsX7_isFour := goodIn_r _ [8] (by decide +kernel) (by decide +kernel)
set_option maxRecDepth 20000 in
theorem gX7_tick_X7_isFour : GoodIn wsX7_tick (va_wsS RX7 55 yX7_isFour wsX7_isFour) := goodIn_app (goodIn_of _ (by decide +kernel)) ggX7_tick_X7_isFour
set_option maxRecDepth 20000 in
theorem ggX7_tick_X7_refuse : GoodIn wsX7_tick wsX7_refuse := goodIn_r _ [12, 13, 39, 40, 41, 42, 43, 44, 45, 46, 47, 48, 49] (by decide +kernel) (by decide +kernel)
set_option maxRecDepth 20000 in
theorem gX7_tick_X7_refuse : GoodIn wsX7_tick (wsV RX7 61 RX7 yX7_refuse wsX7_refuse) := goodIn_app (goodIn_of _ (by decide +kernel)) ggX7_tick_X7_refuse
set_option maxRecDepth 20000 in
theorem ggX7_tick_X7_against : GoodIn wsX7_tick wsX7_against := goodIn_r _ [17, 18, 19, 20, 39, 40, 41, 42, 43, 44, 45, 46, 47, 48, 49] (by decide +kernel) (by decide +kernel)
set_option maxRecDepth 20000 in
theorem gX7_tick_X7_against : GoodIn wsX7_tick (wsV RX7 77 RX7 yX7_against wsX7_against) := goodIn_app (goodIn_of _ (by decide +kernel)) ggX7_tick_X7_against
set_option maxRecDepth 20000 in
theorem ggX7_tick_X7_told : GoodIn wsX7_tick wsX7_told := goodIn_r _ [24, 3, 25, 4, 39, 40, 41, 42, 43, 44, 45, 46, 47, 48, 49] (by decide +kernel) (by decide +kernel)
set_option maxRecDepth 20000 in
theorem gX7_tick_X7_told : GoodIn wsX7_tick (wsV RX7 81 RX7 yX7_told wsX7_told) := goodIn_app (goodIn_of _ (by decide +kernel)) ggX7_tick_X7_told
set_option maxRecDepth 20000 in
theorem ggX7_tick_X7_held : GoodIn wsX7_tick wsX7_held := goodIn_r _ [28, 29, 30] (by decide +kernel) (by decide +kernel)
set_option maxRecDepth 20000 in
theorem gX7_tick_X7_held : GoodIn wsX7_tick (va_wsS RX7 51 yX7_held wsX7_held) := goodIn_app (goodIn_of _ (by decide +kernel)) ggX7_tick_X7_held
set_option maxRecDepth 20000 in
theorem ggX7_tick_X7_fill : GoodIn wsX7_tick wsX7_fill := goodIn_r _ [34, 4, 35, 3, 36, 37, 7, 38, 25, 26, 27, 28, 29, 30, 39, 40, 41, 42, 43, 44, 45, 46, 47, 48, 49] (by decide +kernel) (by decide +kernel)
set_option maxRecDepth 20000 in
theorem gX7_tick_X7_fill : GoodIn wsX7_tick (wsV RX7 85 RX7 yX7_fill wsX7_fill) := goodIn_app (goodIn_of _ (by decide +kernel)) ggX7_tick_X7_fill
theorem dX7_tick_0 : decode cX7_tick 0 = .ok (.iload_n 1, 1) := by decide +kernel
theorem dX7_tick_1 : decode cX7_tick 1 = .ok (.invokestatic 55, 3) := by decide +kernel
theorem dX7_tick_4 : decode cX7_tick 4 = .ok (.ifCond .eq 15, 3) := by decide +kernel
theorem dX7_tick_7 : decode cX7_tick 7 = .ok (.iload_n 2, 1) := by decide +kernel
theorem dX7_tick_8 : decode cX7_tick 8 = .ok (.invokestatic 55, 3) := by decide +kernel
theorem dX7_tick_11 : decode cX7_tick 11 = .ok (.ifCond .eq 8, 3) := by decide +kernel
theorem dX7_tick_14 : decode cX7_tick 14 = .ok (.iload_n 2, 1) := by decide +kernel
theorem dX7_tick_15 : decode cX7_tick 15 = .ok (.iconst 3, 1) := by decide +kernel
theorem dX7_tick_16 : decode cX7_tick 16 = .ok (.if_icmp .ne 11, 3) := by decide +kernel
theorem dX7_tick_19 : decode cX7_tick 19 = .ok (.aload_n 0, 1) := by decide +kernel
theorem dX7_tick_20 : decode cX7_tick 20 = .ok (.ldc2_w 59, 3) := by decide +kernel
theorem dX7_tick_23 : decode cX7_tick 23 = .ok (.invokevirtual 61, 3) := by decide +kernel
theorem dX7_tick_26 : decode cX7_tick 26 = .ok (.lreturn, 1) := by decide +kernel
theorem dX7_tick_27 : decode cX7_tick 27 = .ok (.aload_n 0, 1) := by decide +kernel
theorem dX7_tick_28 : decode cX7_tick 28 = .ok (.getfield 7, 3) := by decide +kernel
theorem dX7_tick_31 : decode cX7_tick 31 = .ok (.iconst 4, 1) := by decide +kernel
theorem dX7_tick_32 : decode cX7_tick 32 = .ok (.iload_n 1, 1) := by decide +kernel
theorem dX7_tick_33 : decode cX7_tick 33 = .ok (.imul, 1) := by decide +kernel
theorem dX7_tick_34 : decode cX7_tick 34 = .ok (.iload_n 2, 1) := by decide +kernel
theorem dX7_tick_35 : decode cX7_tick 35 = .ok (.iadd, 1) := by decide +kernel
theorem dX7_tick_36 : decode cX7_tick 36 = .ok (.iaload, 1) := by decide +kernel
theorem dX7_tick_37 : decode cX7_tick 37 = .ok (.istore 5, 2) := by decide +kernel
theorem dX7_tick_39 : decode cX7_tick 39 = .ok (.aload_n 0, 1) := by decide +kernel
theorem dX7_tick_40 : decode cX7_tick 40 = .ok (.iload 5, 2) := by decide +kernel
theorem dX7_tick_42 : decode cX7_tick 42 = .ok (.iload_n 3, 1) := by decide +kernel
theorem dX7_tick_43 : decode cX7_tick 43 = .ok (.invokevirtual 77, 3) := by decide +kernel
theorem dX7_tick_46 : decode cX7_tick 46 = .ok (.lstore 6, 2) := by decide +kernel
theorem dX7_tick_48 : decode cX7_tick 48 = .ok (.lload 6, 2) := by decide +kernel
theorem dX7_tick_50 : decode cX7_tick 50 = .ok (.lconst 0, 1) := by decide +kernel
theorem dX7_tick_51 : decode cX7_tick 51 = .ok (.lcmp, 1) := by decide +kernel
theorem dX7_tick_52 : decode cX7_tick 52 = .ok (.ifCond .eq 10, 3) := by decide +kernel
theorem dX7_tick_55 : decode cX7_tick 55 = .ok (.aload_n 0, 1) := by decide +kernel
theorem dX7_tick_56 : decode cX7_tick 56 = .ok (.lload 6, 2) := by decide +kernel
theorem dX7_tick_58 : decode cX7_tick 58 = .ok (.invokevirtual 61, 3) := by decide +kernel
theorem dX7_tick_61 : decode cX7_tick 61 = .ok (.lreturn, 1) := by decide +kernel
theorem dX7_tick_62 : decode cX7_tick 62 = .ok (.aload_n 0, 1) := by decide +kernel
theorem dX7_tick_63 : decode cX7_tick 63 = .ok (.iload_n 2, 1) := by decide +kernel
theorem dX7_tick_64 : decode cX7_tick 64 = .ok (.iload 5, 2) := by decide +kernel
theorem dX7_tick_66 : decode cX7_tick 66 = .ok (.iload_n 3, 1) := by decide +kernel
theorem dX7_tick_67 : decode cX7_tick 67 = .ok (.invokevirtual 81, 3) := by decide +kernel
theorem dX7_tick_70 : decode cX7_tick 70 = .ok (.lstore 8, 2) := by decide +kernel
theorem dX7_tick_72 : decode cX7_tick 72 = .ok (.bipush 40, 2) := by decide +kernel
theorem dX7_tick_74 : decode cX7_tick 74 = .ok (.iload 5, 2) := by decide +kernel
theorem dX7_tick_76 : decode cX7_tick 76 = .ok (.imul, 1) := by decide +kernel
theorem dX7_tick_77 : decode cX7_tick 77 = .ok (.iload_n 3, 1) := by decide +kernel
theorem dX7_tick_78 : decode cX7_tick 78 = .ok (.iadd, 1) := by decide +kernel
theorem dX7_tick_79 : decode cX7_tick 79 = .ok (.istore 10, 2) := by decide +kernel
theorem dX7_tick_81 : decode cX7_tick 81 = .ok (.iload_n 2, 1) := by decide +kernel
theorem dX7_tick_82 : decode cX7_tick 82 = .ok (.iconst 2, 1) := by decide +kernel
theorem dX7_tick_83 : decode cX7_tick 83 = .ok (.if_icmp .ne 25, 3) := by decide +kernel
theorem dX7_tick_86 : decode cX7_tick 86 = .ok (.aload_n 0, 1) := by decide +kernel
theorem dX7_tick_87 : decode cX7_tick 87 = .ok (.getfield 25, 3) := by decide +kernel
theorem dX7_tick_90 : decode cX7_tick 90 = .ok (.iload 10, 2) := by decide +kernel
theorem dX7_tick_92 : decode cX7_tick 92 = .ok (.aload_n 0, 1) := by decide +kernel
theorem dX7_tick_93 : decode cX7_tick 93 = .ok (.getfield 25, 3) := by decide +kernel
theorem dX7_tick_96 : decode cX7_tick 96 = .ok (.iload 10, 2) := by decide +kernel
theorem dX7_tick_98 : decode cX7_tick 98 = .ok (.faload, 1) := by decide +kernel
theorem dX7_tick_99 : decode cX7_tick 99 = .ok (.fconst 1, 1) := by decide +kernel
theorem dX7_tick_100 : decode cX7_tick 100 = .ok (.fadd, 1) := by decide +kernel
theorem dX7_tick_101 : decode cX7_tick 101 = .ok (.invokestatic 51, 3) := by decide +kernel
theorem dX7_tick_104 : decode cX7_tick 104 = .ok (.fastore, 1) := by decide +kernel
theorem dX7_tick_105 : decode cX7_tick 105 = .ok (.goto 20, 3) := by decide +kernel
theorem dX7_tick_108 : decode cX7_tick 108 = .ok (.aload_n 0, 1) := by decide +kernel
theorem dX7_tick_109 : decode cX7_tick 109 = .ok (.iload_n 2, 1) := by decide +kernel
theorem dX7_tick_110 : decode cX7_tick 110 = .ok (.iload 5, 2) := by decide +kernel
theorem dX7_tick_112 : decode cX7_tick 112 = .ok (.iload_n 3, 1) := by decide +kernel
theorem dX7_tick_113 : decode cX7_tick 113 = .ok (.aload_n 0, 1) := by decide +kernel
theorem dX7_tick_114 : decode cX7_tick 114 = .ok (.getfield 22, 3) := by decide +kernel
theorem dX7_tick_117 : decode cX7_tick 117 = .ok (.iload 10, 2) := by decide +kernel
theorem dX7_tick_119 : decode cX7_tick 119 = .ok (.iaload, 1) := by decide +kernel
theorem dX7_tick_120 : decode cX7_tick 120 = .ok (.iconst 1, 1) := by decide +kernel
theorem dX7_tick_121 : decode cX7_tick 121 = .ok (.iadd, 1) := by decide +kernel
theorem dX7_tick_122 : decode cX7_tick 122 = .ok (.invokevirtual 85, 3) := by decide +kernel
theorem dX7_tick_125 : decode cX7_tick 125 = .ok (.iload 4, 2) := by decide +kernel
theorem dX7_tick_127 : decode cX7_tick 127 = .ok (.ifCond .eq 14, 3) := by decide +kernel
theorem dX7_tick_130 : decode cX7_tick 130 = .ok (.aload_n 0, 1) := by decide +kernel
theorem dX7_tick_131 : decode cX7_tick 131 = .ok (.iload_n 2, 1) := by decide +kernel
theorem dX7_tick_132 : decode cX7_tick 132 = .ok (.iload 5, 2) := by decide +kernel
theorem dX7_tick_134 : decode cX7_tick 134 = .ok (.iload_n 3, 1) := by decide +kernel
theorem dX7_tick_135 : decode cX7_tick 135 = .ok (.invokevirtual 81, 3) := by decide +kernel
theorem dX7_tick_138 : decode cX7_tick 138 = .ok (.goto 5, 3) := by decide +kernel
theorem dX7_tick_141 : decode cX7_tick 141 = .ok (.lload 8, 2) := by decide +kernel
theorem dX7_tick_143 : decode cX7_tick 143 = .ok (.lreturn, 1) := by decide +kernel
set_option maxRecDepth 20000 in
theorem ggX7_blend_X7_isFour : GoodIn wsX7_blend wsX7_isFour := goodIn_r _ [8] (by decide +kernel) (by decide +kernel)
set_option maxRecDepth 20000 in
theorem gX7_blend_X7_isFour : GoodIn wsX7_blend (va_wsS RX7 55 yX7_isFour wsX7_isFour) := goodIn_app (goodIn_of _ (by decide +kernel)) ggX7_blend_X7_isFour
set_option maxRecDepth 20000 in
theorem ggX7_blend_X7_refuse : GoodIn wsX7_blend wsX7_refuse := goodIn_r _ [12, 13, 39, 40, 41, 42, 43, 44, 45, 46, 47, 48, 49] (by decide +kernel) (by decide +kernel)
set_option maxRecDepth 20000 in
theorem gX7_blend_X7_refuse : GoodIn wsX7_blend (wsV RX7 61 RX7 yX7_refuse wsX7_refuse) := goodIn_app (goodIn_of _ (by decide +kernel)) ggX7_blend_X7_refuse
set_option maxRecDepth 20000 in
theorem ggX7_blend_X7_against : GoodIn wsX7_blend wsX7_against := goodIn_r _ [17, 18, 19, 20, 39, 40, 41, 42, 43, 44, 45, 46, 47, 48, 49] (by decide +kernel) (by decide +kernel)
set_option maxRecDepth 20000 in
theorem gX7_blend_X7_against : GoodIn wsX7_blend (wsV RX7 77 RX7 yX7_against wsX7_against) := goodIn_app (goodIn_of _ (by decide +kernel)) ggX7_blend_X7_against
set_option maxRecDepth 20000 in
theorem ggX7_blend_X7_held : GoodIn wsX7_blend wsX7_held := goodIn_r _ [23, 24, 25] (by decide +kernel) (by decide +kernel)
set_option maxRecDepth 20000 in
theorem gX7_blend_X7_held : GoodIn wsX7_blend (va_wsS RX7 51 yX7_held wsX7_held) := goodIn_app (goodIn_of _ (by decide +kernel)) ggX7_blend_X7_held
set_option maxRecDepth 20000 in
theorem ggX7_blend_X7_fill : GoodIn wsX7_blend wsX7_fill := goodIn_r _ [29, 3, 30, 4, 31, 32, 7, 33, 34, 21, 22, 23, 24, 25, 39, 40, 41, 42, 43, 44, 45, 46, 47, 48, 49] (by decide +kernel) (by decide +kernel)
set_option maxRecDepth 20000 in
theorem gX7_blend_X7_fill : GoodIn wsX7_blend (wsV RX7 85 RX7 yX7_fill wsX7_fill) := goodIn_app (goodIn_of _ (by decide +kernel)) ggX7_blend_X7_fill
set_option maxRecDepth 20000 in
theorem ggX7_blend_X7_told : GoodIn wsX7_blend wsX7_told := goodIn_r _ [38, 4, 34, 3, 39, 40, 41, 42, 43, 44, 45, 46, 47, 48, 49] (by decide +kernel) (by decide +kernel)
set_option maxRecDepth 20000 in
theorem gX7_blend_X7_told : GoodIn wsX7_blend (wsV RX7 81 RX7 yX7_told wsX7_told) := goodIn_app (goodIn_of _ (by decide +kernel)) ggX7_blend_X7_told
theorem dX7_blend_0 : decode cX7_blend 0 = .ok (.iload_n 1, 1) := by decide +kernel
theorem dX7_blend_1 : decode cX7_blend 1 = .ok (.invokestatic 55, 3) := by decide +kernel
theorem dX7_blend_4 : decode cX7_blend 4 = .ok (.ifCond .eq 50, 3) := by decide +kernel
theorem dX7_blend_7 : decode cX7_blend 7 = .ok (.iload_n 2, 1) := by decide +kernel
theorem dX7_blend_8 : decode cX7_blend 8 = .ok (.invokestatic 55, 3) := by decide +kernel
theorem dX7_blend_11 : decode cX7_blend 11 = .ok (.ifCond .eq 43, 3) := by decide +kernel
theorem dX7_blend_14 : decode cX7_blend 14 = .ok (.iload 4, 2) := by decide +kernel
theorem dX7_blend_16 : decode cX7_blend 16 = .ok (.invokestatic 55, 3) := by decide +kernel
theorem dX7_blend_19 : decode cX7_blend 19 = .ok (.ifCond .eq 35, 3) := by decide +kernel
theorem dX7_blend_22 : decode cX7_blend 22 = .ok (.iload 5, 2) := by decide +kernel
theorem dX7_blend_24 : decode cX7_blend 24 = .ok (.invokestatic 55, 3) := by decide +kernel
theorem dX7_blend_27 : decode cX7_blend 27 = .ok (.ifCond .eq 27, 3) := by decide +kernel
theorem dX7_blend_30 : decode cX7_blend 30 = .ok (.iload_n 2, 1) := by decide +kernel
theorem dX7_blend_31 : decode cX7_blend 31 = .ok (.iconst 3, 1) := by decide +kernel
theorem dX7_blend_32 : decode cX7_blend 32 = .ok (.if_icmp .ne 7, 3) := by decide +kernel
theorem dX7_blend_35 : decode cX7_blend 35 = .ok (.iconst 1, 1) := by decide +kernel
theorem dX7_blend_36 : decode cX7_blend 36 = .ok (.goto 4, 3) := by decide +kernel
theorem dX7_blend_39 : decode cX7_blend 39 = .ok (.iconst 0, 1) := by decide +kernel
theorem dX7_blend_40 : decode cX7_blend 40 = .ok (.iload 5, 2) := by decide +kernel
theorem dX7_blend_42 : decode cX7_blend 42 = .ok (.iconst 3, 1) := by decide +kernel
theorem dX7_blend_43 : decode cX7_blend 43 = .ok (.if_icmp .ne 7, 3) := by decide +kernel
theorem dX7_blend_46 : decode cX7_blend 46 = .ok (.iconst 1, 1) := by decide +kernel
theorem dX7_blend_47 : decode cX7_blend 47 = .ok (.goto 4, 3) := by decide +kernel
theorem dX7_blend_50 : decode cX7_blend 50 = .ok (.iconst 0, 1) := by decide +kernel
theorem dX7_blend_51 : decode cX7_blend 51 = .ok (.if_icmp .eq 11, 3) := by decide +kernel
theorem dX7_blend_54 : decode cX7_blend 54 = .ok (.aload_n 0, 1) := by decide +kernel
theorem dX7_blend_55 : decode cX7_blend 55 = .ok (.ldc2_w 59, 3) := by decide +kernel
theorem dX7_blend_58 : decode cX7_blend 58 = .ok (.invokevirtual 61, 3) := by decide +kernel
theorem dX7_blend_61 : decode cX7_blend 61 = .ok (.lreturn, 1) := by decide +kernel
theorem dX7_blend_62 : decode cX7_blend 62 = .ok (.aload_n 0, 1) := by decide +kernel
theorem dX7_blend_63 : decode cX7_blend 63 = .ok (.getfield 7, 3) := by decide +kernel
theorem dX7_blend_66 : decode cX7_blend 66 = .ok (.iconst 4, 1) := by decide +kernel
theorem dX7_blend_67 : decode cX7_blend 67 = .ok (.iload 4, 2) := by decide +kernel
theorem dX7_blend_69 : decode cX7_blend 69 = .ok (.imul, 1) := by decide +kernel
theorem dX7_blend_70 : decode cX7_blend 70 = .ok (.iload 5, 2) := by decide +kernel
theorem dX7_blend_72 : decode cX7_blend 72 = .ok (.iadd, 1) := by decide +kernel
theorem dX7_blend_73 : decode cX7_blend 73 = .ok (.iaload, 1) := by decide +kernel
theorem dX7_blend_74 : decode cX7_blend 74 = .ok (.istore 8, 2) := by decide +kernel
theorem dX7_blend_76 : decode cX7_blend 76 = .ok (.aload_n 0, 1) := by decide +kernel
theorem dX7_blend_77 : decode cX7_blend 77 = .ok (.getfield 7, 3) := by decide +kernel
theorem dX7_blend_80 : decode cX7_blend 80 = .ok (.iconst 4, 1) := by decide +kernel
theorem dX7_blend_81 : decode cX7_blend 81 = .ok (.iload_n 1, 1) := by decide +kernel
theorem dX7_blend_82 : decode cX7_blend 82 = .ok (.imul, 1) := by decide +kernel
theorem dX7_blend_83 : decode cX7_blend 83 = .ok (.iload_n 2, 1) := by decide +kernel
theorem dX7_blend_84 : decode cX7_blend 84 = .ok (.iadd, 1) := by decide +kernel
theorem dX7_blend_85 : decode cX7_blend 85 = .ok (.iaload, 1) := by decide +kernel
theorem dX7_blend_86 : decode cX7_blend 86 = .ok (.istore 9, 2) := by decide +kernel
theorem dX7_blend_88 : decode cX7_blend 88 = .ok (.aload_n 0, 1) := by decide +kernel
theorem dX7_blend_89 : decode cX7_blend 89 = .ok (.iload 8, 2) := by decide +kernel
theorem dX7_blend_91 : decode cX7_blend 91 = .ok (.iload 6, 2) := by decide +kernel
theorem dX7_blend_93 : decode cX7_blend 93 = .ok (.invokevirtual 77, 3) := by decide +kernel
theorem dX7_blend_96 : decode cX7_blend 96 = .ok (.lstore 10, 2) := by decide +kernel
theorem dX7_blend_98 : decode cX7_blend 98 = .ok (.lload 10, 2) := by decide +kernel
theorem dX7_blend_100 : decode cX7_blend 100 = .ok (.lconst 0, 1) := by decide +kernel
theorem dX7_blend_101 : decode cX7_blend 101 = .ok (.lcmp, 1) := by decide +kernel
theorem dX7_blend_102 : decode cX7_blend 102 = .ok (.ifCond .eq 8, 3) := by decide +kernel
theorem dX7_blend_105 : decode cX7_blend 105 = .ok (.lload 10, 2) := by decide +kernel
theorem dX7_blend_107 : decode cX7_blend 107 = .ok (.goto 10, 3) := by decide +kernel
theorem dX7_blend_110 : decode cX7_blend 110 = .ok (.aload_n 0, 1) := by decide +kernel
theorem dX7_blend_111 : decode cX7_blend 111 = .ok (.iload 9, 2) := by decide +kernel
theorem dX7_blend_113 : decode cX7_blend 113 = .ok (.iload_n 3, 1) := by decide +kernel
theorem dX7_blend_114 : decode cX7_blend 114 = .ok (.invokevirtual 77, 3) := by decide +kernel
theorem dX7_blend_117 : decode cX7_blend 117 = .ok (.lstore 10, 2) := by decide +kernel
theorem dX7_blend_119 : decode cX7_blend 119 = .ok (.lload 10, 2) := by decide +kernel
theorem dX7_blend_121 : decode cX7_blend 121 = .ok (.lconst 0, 1) := by decide +kernel
theorem dX7_blend_122 : decode cX7_blend 122 = .ok (.lcmp, 1) := by decide +kernel
theorem dX7_blend_123 : decode cX7_blend 123 = .ok (.ifCond .eq 10, 3) := by decide +kernel
theorem dX7_blend_126 : decode cX7_blend 126 = .ok (.aload_n 0, 1) := by decide +kernel
theorem dX7_blend_127 : decode cX7_blend 127 = .ok (.lload 10, 2) := by decide +kernel
theorem dX7_blend_129 : decode cX7_blend 129 = .ok (.invokevirtual 61, 3) := by decide +kernel
theorem dX7_blend_132 : decode cX7_blend 132 = .ok (.lreturn, 1) := by decide +kernel
theorem dX7_blend_133 : decode cX7_blend 133 = .ok (.bipush 40, 2) := by decide +kernel
theorem dX7_blend_135 : decode cX7_blend 135 = .ok (.iload 9, 2) := by decide +kernel
theorem dX7_blend_137 : decode cX7_blend 137 = .ok (.imul, 1) := by decide +kernel
theorem dX7_blend_138 : decode cX7_blend 138 = .ok (.iload_n 3, 1) := by decide +kernel
theorem dX7_blend_139 : decode cX7_blend 139 = .ok (.iadd, 1) := by decide +kernel
theorem dX7_blend_140 : decode cX7_blend 140 = .ok (.istore 12, 2) := by decide +kernel
theorem dX7_blend_142 : decode cX7_blend 142 = .ok (.bipush 40, 2) := by decide +kernel
theorem dX7_blend_144 : decode cX7_blend 144 = .ok (.iload 8, 2) := by decide +kernel
theorem dX7_blend_146 : decode cX7_blend 146 = .ok (.imul, 1) := by decide +kernel
theorem dX7_blend_147 : decode cX7_blend 147 = .ok (.iload 6, 2) := by decide +kernel
theorem dX7_blend_149 : decode cX7_blend 149 = .ok (.iadd, 1) := by decide +kernel
theorem dX7_blend_150 : decode cX7_blend 150 = .ok (.istore 13, 2) := by decide +kernel
theorem dX7_blend_152 : decode cX7_blend 152 = .ok (.iload_n 2, 1) := by decide +kernel
theorem dX7_blend_153 : decode cX7_blend 153 = .ok (.iconst 3, 1) := by decide +kernel
theorem dX7_blend_154 : decode cX7_blend 154 = .ok (.if_icmp .ne 28, 3) := by decide +kernel
theorem dX7_blend_157 : decode cX7_blend 157 = .ok (.aload_n 0, 1) := by decide +kernel
theorem dX7_blend_158 : decode cX7_blend 158 = .ok (.getfield 22, 3) := by decide +kernel
theorem dX7_blend_161 : decode cX7_blend 161 = .ok (.iload 12, 2) := by decide +kernel
theorem dX7_blend_163 : decode cX7_blend 163 = .ok (.aload_n 0, 1) := by decide +kernel
theorem dX7_blend_164 : decode cX7_blend 164 = .ok (.getfield 22, 3) := by decide +kernel
theorem dX7_blend_167 : decode cX7_blend 167 = .ok (.iload 12, 2) := by decide +kernel
theorem dX7_blend_169 : decode cX7_blend 169 = .ok (.iaload, 1) := by decide +kernel
theorem dX7_blend_170 : decode cX7_blend 170 = .ok (.aload_n 0, 1) := by decide +kernel
theorem dX7_blend_171 : decode cX7_blend 171 = .ok (.getfield 22, 3) := by decide +kernel
theorem dX7_blend_174 : decode cX7_blend 174 = .ok (.iload 13, 2) := by decide +kernel
theorem dX7_blend_176 : decode cX7_blend 176 = .ok (.iaload, 1) := by decide +kernel
theorem dX7_blend_177 : decode cX7_blend 177 = .ok (.ixor, 1) := by decide +kernel
theorem dX7_blend_178 : decode cX7_blend 178 = .ok (.iastore, 1) := by decide +kernel
theorem dX7_blend_179 : decode cX7_blend 179 = .ok (.goto 165, 3) := by decide +kernel
theorem dX7_blend_182 : decode cX7_blend 182 = .ok (.iload_n 2, 1) := by decide +kernel
theorem dX7_blend_183 : decode cX7_blend 183 = .ok (.iconst 2, 1) := by decide +kernel
theorem dX7_blend_184 : decode cX7_blend 184 = .ok (.if_icmp .eq 9, 3) := by decide +kernel
theorem dX7_blend_187 : decode cX7_blend 187 = .ok (.iload 5, 2) := by decide +kernel
theorem dX7_blend_189 : decode cX7_blend 189 = .ok (.iconst 2, 1) := by decide +kernel
theorem dX7_blend_190 : decode cX7_blend 190 = .ok (.if_icmp .ne 108, 3) := by decide +kernel
theorem dX7_blend_193 : decode cX7_blend 193 = .ok (.iload_n 2, 1) := by decide +kernel
theorem dX7_blend_194 : decode cX7_blend 194 = .ok (.iconst 2, 1) := by decide +kernel
theorem dX7_blend_195 : decode cX7_blend 195 = .ok (.if_icmp .ne 13, 3) := by decide +kernel
theorem dX7_blend_198 : decode cX7_blend 198 = .ok (.aload_n 0, 1) := by decide +kernel
theorem dX7_blend_199 : decode cX7_blend 199 = .ok (.getfield 25, 3) := by decide +kernel
theorem dX7_blend_202 : decode cX7_blend 202 = .ok (.iload 12, 2) := by decide +kernel
theorem dX7_blend_204 : decode cX7_blend 204 = .ok (.faload, 1) := by decide +kernel
theorem dX7_blend_205 : decode cX7_blend 205 = .ok (.goto 11, 3) := by decide +kernel
theorem dX7_blend_208 : decode cX7_blend 208 = .ok (.aload_n 0, 1) := by decide +kernel
theorem dX7_blend_209 : decode cX7_blend 209 = .ok (.getfield 22, 3) := by decide +kernel
theorem dX7_blend_212 : decode cX7_blend 212 = .ok (.iload 12, 2) := by decide +kernel
theorem dX7_blend_214 : decode cX7_blend 214 = .ok (.iaload, 1) := by decide +kernel
theorem dX7_blend_215 : decode cX7_blend 215 = .ok (.i2f, 1) := by decide +kernel
theorem dX7_blend_216 : decode cX7_blend 216 = .ok (.fstore 14, 2) := by decide +kernel
theorem dX7_blend_218 : decode cX7_blend 218 = .ok (.iload 5, 2) := by decide +kernel
theorem dX7_blend_220 : decode cX7_blend 220 = .ok (.iconst 2, 1) := by decide +kernel
theorem dX7_blend_221 : decode cX7_blend 221 = .ok (.if_icmp .ne 13, 3) := by decide +kernel
theorem dX7_blend_224 : decode cX7_blend 224 = .ok (.aload_n 0, 1) := by decide +kernel
theorem dX7_blend_225 : decode cX7_blend 225 = .ok (.getfield 25, 3) := by decide +kernel
theorem dX7_blend_228 : decode cX7_blend 228 = .ok (.iload 13, 2) := by decide +kernel
theorem dX7_blend_230 : decode cX7_blend 230 = .ok (.faload, 1) := by decide +kernel
theorem dX7_blend_231 : decode cX7_blend 231 = .ok (.goto 11, 3) := by decide +kernel
theorem dX7_blend_234 : decode cX7_blend 234 = .ok (.aload_n 0, 1) := by decide +kernel
theorem dX7_blend_235 : decode cX7_blend 235 = .ok (.getfield 22, 3) := by decide +kernel
theorem dX7_blend_238 : decode cX7_blend 238 = .ok (.iload 13, 2) := by decide +kernel
theorem dX7_blend_240 : decode cX7_blend 240 = .ok (.iaload, 1) := by decide +kernel
theorem dX7_blend_241 : decode cX7_blend 241 = .ok (.i2f, 1) := by decide +kernel
theorem dX7_blend_242 : decode cX7_blend 242 = .ok (.fstore 15, 2) := by decide +kernel
theorem dX7_blend_244 : decode cX7_blend 244 = .ok (.iload 7, 2) := by decide +kernel
theorem dX7_blend_246 : decode cX7_blend 246 = .ok (.ifCond .eq 11, 3) := by decide +kernel
theorem dX7_blend_249 : decode cX7_blend 249 = .ok (.fload 14, 2) := by decide +kernel
theorem dX7_blend_251 : decode cX7_blend 251 = .ok (.fload 15, 2) := by decide +kernel
theorem dX7_blend_253 : decode cX7_blend 253 = .ok (.fsub, 1) := by decide +kernel
theorem dX7_blend_254 : decode cX7_blend 254 = .ok (.goto 8, 3) := by decide +kernel
theorem dX7_blend_257 : decode cX7_blend 257 = .ok (.fload 14, 2) := by decide +kernel
theorem dX7_blend_259 : decode cX7_blend 259 = .ok (.fload 15, 2) := by decide +kernel
theorem dX7_blend_261 : decode cX7_blend 261 = .ok (.fadd, 1) := by decide +kernel
theorem dX7_blend_262 : decode cX7_blend 262 = .ok (.fstore 16, 2) := by decide +kernel
theorem dX7_blend_264 : decode cX7_blend 264 = .ok (.iload_n 2, 1) := by decide +kernel
theorem dX7_blend_265 : decode cX7_blend 265 = .ok (.iconst 2, 1) := by decide +kernel
theorem dX7_blend_266 : decode cX7_blend 266 = .ok (.if_icmp .ne 18, 3) := by decide +kernel
theorem dX7_blend_269 : decode cX7_blend 269 = .ok (.aload_n 0, 1) := by decide +kernel
theorem dX7_blend_270 : decode cX7_blend 270 = .ok (.getfield 25, 3) := by decide +kernel
theorem dX7_blend_273 : decode cX7_blend 273 = .ok (.iload 12, 2) := by decide +kernel
theorem dX7_blend_275 : decode cX7_blend 275 = .ok (.fload 16, 2) := by decide +kernel
theorem dX7_blend_277 : decode cX7_blend 277 = .ok (.invokestatic 51, 3) := by decide +kernel
theorem dX7_blend_280 : decode cX7_blend 280 = .ok (.fastore, 1) := by decide +kernel
theorem dX7_blend_281 : decode cX7_blend 281 = .ok (.goto 14, 3) := by decide +kernel
theorem dX7_blend_284 : decode cX7_blend 284 = .ok (.aload_n 0, 1) := by decide +kernel
theorem dX7_blend_285 : decode cX7_blend 285 = .ok (.iload_n 2, 1) := by decide +kernel
theorem dX7_blend_286 : decode cX7_blend 286 = .ok (.iload 9, 2) := by decide +kernel
theorem dX7_blend_288 : decode cX7_blend 288 = .ok (.iload_n 3, 1) := by decide +kernel
theorem dX7_blend_289 : decode cX7_blend 289 = .ok (.fload 16, 2) := by decide +kernel
theorem dX7_blend_291 : decode cX7_blend 291 = .ok (.f2i, 1) := by decide +kernel
theorem dX7_blend_292 : decode cX7_blend 292 = .ok (.invokevirtual 85, 3) := by decide +kernel
theorem dX7_blend_295 : decode cX7_blend 295 = .ok (.goto 49, 3) := by decide +kernel
theorem dX7_blend_298 : decode cX7_blend 298 = .ok (.aload_n 0, 1) := by decide +kernel
theorem dX7_blend_299 : decode cX7_blend 299 = .ok (.iload_n 2, 1) := by decide +kernel
theorem dX7_blend_300 : decode cX7_blend 300 = .ok (.iload 9, 2) := by decide +kernel
theorem dX7_blend_302 : decode cX7_blend 302 = .ok (.iload_n 3, 1) := by decide +kernel
theorem dX7_blend_303 : decode cX7_blend 303 = .ok (.iload 7, 2) := by decide +kernel
theorem dX7_blend_305 : decode cX7_blend 305 = .ok (.ifCond .eq 21, 3) := by decide +kernel
theorem dX7_blend_308 : decode cX7_blend 308 = .ok (.aload_n 0, 1) := by decide +kernel
theorem dX7_blend_309 : decode cX7_blend 309 = .ok (.getfield 22, 3) := by decide +kernel
theorem dX7_blend_312 : decode cX7_blend 312 = .ok (.iload 12, 2) := by decide +kernel
theorem dX7_blend_314 : decode cX7_blend 314 = .ok (.iaload, 1) := by decide +kernel
theorem dX7_blend_315 : decode cX7_blend 315 = .ok (.aload_n 0, 1) := by decide +kernel
theorem dX7_blend_316 : decode cX7_blend 316 = .ok (.getfield 22, 3) := by decide +kernel
theorem dX7_blend_319 : decode cX7_blend 319 = .ok (.iload 13, 2) := by decide +kernel
theorem dX7_blend_321 : decode cX7_blend 321 = .ok (.iaload, 1) := by decide +kernel
theorem dX7_blend_322 : decode cX7_blend 322 = .ok (.isub, 1) := by decide +kernel
theorem dX7_blend_323 : decode cX7_blend 323 = .ok (.goto 18, 3) := by decide +kernel
theorem dX7_blend_326 : decode cX7_blend 326 = .ok (.aload_n 0, 1) := by decide +kernel
theorem dX7_blend_327 : decode cX7_blend 327 = .ok (.getfield 22, 3) := by decide +kernel
theorem dX7_blend_330 : decode cX7_blend 330 = .ok (.iload 12, 2) := by decide +kernel
theorem dX7_blend_332 : decode cX7_blend 332 = .ok (.iaload, 1) := by decide +kernel
theorem dX7_blend_333 : decode cX7_blend 333 = .ok (.aload_n 0, 1) := by decide +kernel
theorem dX7_blend_334 : decode cX7_blend 334 = .ok (.getfield 22, 3) := by decide +kernel
theorem dX7_blend_337 : decode cX7_blend 337 = .ok (.iload 13, 2) := by decide +kernel
theorem dX7_blend_339 : decode cX7_blend 339 = .ok (.iaload, 1) := by decide +kernel
theorem dX7_blend_340 : decode cX7_blend 340 = .ok (.iadd, 1) := by decide +kernel
theorem dX7_blend_341 : decode cX7_blend 341 = .ok (.invokevirtual 85, 3) := by decide +kernel
theorem dX7_blend_344 : decode cX7_blend 344 = .ok (.aload_n 0, 1) := by decide +kernel
theorem dX7_blend_345 : decode cX7_blend 345 = .ok (.iload_n 2, 1) := by decide +kernel
theorem dX7_blend_346 : decode cX7_blend 346 = .ok (.iload 9, 2) := by decide +kernel
theorem dX7_blend_348 : decode cX7_blend 348 = .ok (.iload_n 3, 1) := by decide +kernel
theorem dX7_blend_349 : decode cX7_blend 349 = .ok (.invokevirtual 81, 3) := by decide +kernel
theorem dX7_blend_352 : decode cX7_blend 352 = .ok (.lreturn, 1) := by decide +kernel
set_option maxRecDepth 20000 in
theorem ggX7_hang_X7_isFour : GoodIn wsX7_hang wsX7_isFour := goodIn_r _ [9] (by decide +kernel) (by decide +kernel)
set_option maxRecDepth 20000 in
theorem gX7_hang_X7_isFour : GoodIn wsX7_hang (va_wsS RX7 55 yX7_isFour wsX7_isFour) := goodIn_app (goodIn_of _ (by decide +kernel)) ggX7_hang_X7_isFour
set_option maxRecDepth 20000 in
theorem ggX7_hang_X7_refuse : GoodIn wsX7_hang wsX7_refuse := goodIn_r _ [13, 14, 24, 25, 26, 27, 28, 29, 30, 31, 32, 33, 34] (by decide +kernel) (by decide +kernel)
set_option maxRecDepth 20000 in
theorem gX7_hang_X7_refuse : GoodIn wsX7_hang (wsV RX7 61 RX7 yX7_refuse wsX7_refuse) := goodIn_app (goodIn_of _ (by decide +kernel)) ggX7_hang_X7_refuse
set_option maxRecDepth 20000 in
theorem ggX7_hang_X7_reel : GoodIn wsX7_hang wsX7_reel := goodIn_r _ [18, 19, 20, 4, 21, 22, 23, 24, 25, 26, 27, 28, 29, 30, 31, 32, 33, 34] (by decide +kernel) (by decide +kernel)
set_option maxRecDepth 20000 in
theorem gX7_hang_X7_reel : GoodIn wsX7_hang (wsV RX7 69 RX7 yX7_reel wsX7_reel) := goodIn_app (goodIn_of _ (by decide +kernel)) ggX7_hang_X7_reel
theorem dX7_hang_0 : decode cX7_hang 0 = .ok (.iload_n 1, 1) := by decide +kernel
theorem dX7_hang_1 : decode cX7_hang 1 = .ok (.invokestatic 55, 3) := by decide +kernel
theorem dX7_hang_4 : decode cX7_hang 4 = .ok (.ifCond .ne 11, 3) := by decide +kernel
theorem dX7_hang_7 : decode cX7_hang 7 = .ok (.aload_n 0, 1) := by decide +kernel
theorem dX7_hang_8 : decode cX7_hang 8 = .ok (.ldc2_w 59, 3) := by decide +kernel
theorem dX7_hang_11 : decode cX7_hang 11 = .ok (.invokevirtual 61, 3) := by decide +kernel
theorem dX7_hang_14 : decode cX7_hang 14 = .ok (.lreturn, 1) := by decide +kernel
theorem dX7_hang_15 : decode cX7_hang 15 = .ok (.iload_n 2, 1) := by decide +kernel
theorem dX7_hang_16 : decode cX7_hang 16 = .ok (.bipush 12, 2) := by decide +kernel
theorem dX7_hang_18 : decode cX7_hang 18 = .ok (.if_icmp .gt 9, 3) := by decide +kernel
theorem dX7_hang_21 : decode cX7_hang 21 = .ok (.iload_n 3, 1) := by decide +kernel
theorem dX7_hang_22 : decode cX7_hang 22 = .ok (.bipush 12, 2) := by decide +kernel
theorem dX7_hang_24 : decode cX7_hang 24 = .ok (.if_icmp .le 11, 3) := by decide +kernel
theorem dX7_hang_27 : decode cX7_hang 27 = .ok (.aload_n 0, 1) := by decide +kernel
theorem dX7_hang_28 : decode cX7_hang 28 = .ok (.ldc2_w 65, 3) := by decide +kernel
theorem dX7_hang_31 : decode cX7_hang 31 = .ok (.invokevirtual 61, 3) := by decide +kernel
theorem dX7_hang_34 : decode cX7_hang 34 = .ok (.lreturn, 1) := by decide +kernel
theorem dX7_hang_35 : decode cX7_hang 35 = .ok (.iload_n 2, 1) := by decide +kernel
theorem dX7_hang_36 : decode cX7_hang 36 = .ok (.ifCond .lt 7, 3) := by decide +kernel
theorem dX7_hang_39 : decode cX7_hang 39 = .ok (.iload_n 3, 1) := by decide +kernel
theorem dX7_hang_40 : decode cX7_hang 40 = .ok (.ifCond .ge 11, 3) := by decide +kernel
theorem dX7_hang_43 : decode cX7_hang 43 = .ok (.aload_n 0, 1) := by decide +kernel
theorem dX7_hang_44 : decode cX7_hang 44 = .ok (.ldc2_w 67, 3) := by decide +kernel
theorem dX7_hang_47 : decode cX7_hang 47 = .ok (.invokevirtual 61, 3) := by decide +kernel
theorem dX7_hang_50 : decode cX7_hang 50 = .ok (.lreturn, 1) := by decide +kernel
theorem dX7_hang_51 : decode cX7_hang 51 = .ok (.iconst 0, 1) := by decide +kernel
theorem dX7_hang_52 : decode cX7_hang 52 = .ok (.istore 4, 2) := by decide +kernel
theorem dX7_hang_54 : decode cX7_hang 54 = .ok (.iload 4, 2) := by decide +kernel
theorem dX7_hang_56 : decode cX7_hang 56 = .ok (.bipush 12, 2) := by decide +kernel
theorem dX7_hang_58 : decode cX7_hang 58 = .ok (.if_icmp .ge 22, 3) := by decide +kernel
theorem dX7_hang_61 : decode cX7_hang 61 = .ok (.aload_n 0, 1) := by decide +kernel
theorem dX7_hang_62 : decode cX7_hang 62 = .ok (.getfield 16, 3) := by decide +kernel
theorem dX7_hang_65 : decode cX7_hang 65 = .ok (.bipush 12, 2) := by decide +kernel
theorem dX7_hang_67 : decode cX7_hang 67 = .ok (.iload_n 1, 1) := by decide +kernel
theorem dX7_hang_68 : decode cX7_hang 68 = .ok (.imul, 1) := by decide +kernel
theorem dX7_hang_69 : decode cX7_hang 69 = .ok (.iload 4, 2) := by decide +kernel
theorem dX7_hang_71 : decode cX7_hang 71 = .ok (.iadd, 1) := by decide +kernel
theorem dX7_hang_72 : decode cX7_hang 72 = .ok (.iconst (-1), 1) := by decide +kernel
theorem dX7_hang_73 : decode cX7_hang 73 = .ok (.iastore, 1) := by decide +kernel
theorem dX7_hang_74 : decode cX7_hang 74 = .ok (.iinc 4 1, 3) := by decide +kernel
theorem dX7_hang_77 : decode cX7_hang 77 = .ok (.goto (-23), 3) := by decide +kernel
theorem dX7_hang_80 : decode cX7_hang 80 = .ok (.aload_n 0, 1) := by decide +kernel
theorem dX7_hang_81 : decode cX7_hang 81 = .ok (.getfield 13, 3) := by decide +kernel
theorem dX7_hang_84 : decode cX7_hang 84 = .ok (.iload_n 1, 1) := by decide +kernel
theorem dX7_hang_85 : decode cX7_hang 85 = .ok (.iload_n 2, 1) := by decide +kernel
theorem dX7_hang_86 : decode cX7_hang 86 = .ok (.iastore, 1) := by decide +kernel
theorem dX7_hang_87 : decode cX7_hang 87 = .ok (.iconst 0, 1) := by decide +kernel
theorem dX7_hang_88 : decode cX7_hang 88 = .ok (.istore 4, 2) := by decide +kernel
theorem dX7_hang_90 : decode cX7_hang 90 = .ok (.iload 4, 2) := by decide +kernel
theorem dX7_hang_92 : decode cX7_hang 92 = .ok (.iload_n 2, 1) := by decide +kernel
theorem dX7_hang_93 : decode cX7_hang 93 = .ok (.if_icmp .ge 26, 3) := by decide +kernel
theorem dX7_hang_96 : decode cX7_hang 96 = .ok (.aload_n 0, 1) := by decide +kernel
theorem dX7_hang_97 : decode cX7_hang 97 = .ok (.getfield 16, 3) := by decide +kernel
theorem dX7_hang_100 : decode cX7_hang 100 = .ok (.bipush 12, 2) := by decide +kernel
theorem dX7_hang_102 : decode cX7_hang 102 = .ok (.iload_n 1, 1) := by decide +kernel
theorem dX7_hang_103 : decode cX7_hang 103 = .ok (.imul, 1) := by decide +kernel
theorem dX7_hang_104 : decode cX7_hang 104 = .ok (.iload 4, 2) := by decide +kernel
theorem dX7_hang_106 : decode cX7_hang 106 = .ok (.iadd, 1) := by decide +kernel
theorem dX7_hang_107 : decode cX7_hang 107 = .ok (.aload_n 0, 1) := by decide +kernel
theorem dX7_hang_108 : decode cX7_hang 108 = .ok (.iload_n 3, 1) := by decide +kernel
theorem dX7_hang_109 : decode cX7_hang 109 = .ok (.invokevirtual 69, 3) := by decide +kernel
theorem dX7_hang_112 : decode cX7_hang 112 = .ok (.iastore, 1) := by decide +kernel
theorem dX7_hang_113 : decode cX7_hang 113 = .ok (.iinc 4 1, 3) := by decide +kernel
theorem dX7_hang_116 : decode cX7_hang 116 = .ok (.goto (-26), 3) := by decide +kernel
theorem dX7_hang_119 : decode cX7_hang 119 = .ok (.iload_n 2, 1) := by decide +kernel
theorem dX7_hang_120 : decode cX7_hang 120 = .ok (.i2l, 1) := by decide +kernel
theorem dX7_hang_121 : decode cX7_hang 121 = .ok (.lreturn, 1) := by decide +kernel
theorem dX7_againstRow_0 : decode cX7_againstRow 0 = .ok (.aload_n 0, 1) := by decide +kernel
theorem dX7_againstRow_1 : decode cX7_againstRow 1 = .ok (.getfield 13, 3) := by decide +kernel
theorem dX7_againstRow_4 : decode cX7_againstRow 4 = .ok (.iload_n 1, 1) := by decide +kernel
theorem dX7_againstRow_5 : decode cX7_againstRow 5 = .ok (.iaload, 1) := by decide +kernel
theorem dX7_againstRow_6 : decode cX7_againstRow 6 = .ok (.iconst (-1), 1) := by decide +kernel
theorem dX7_againstRow_7 : decode cX7_againstRow 7 = .ok (.if_icmp .ne 9, 3) := by decide +kernel
theorem dX7_againstRow_10 : decode cX7_againstRow 10 = .ok (.ldc2_w 73, 3) := by decide +kernel
theorem dX7_againstRow_13 : decode cX7_againstRow 13 = .ok (.goto 24, 3) := by decide +kernel
theorem dX7_againstRow_16 : decode cX7_againstRow 16 = .ok (.iload_n 2, 1) := by decide +kernel
theorem dX7_againstRow_17 : decode cX7_againstRow 17 = .ok (.ifCond .lt 13, 3) := by decide +kernel
theorem dX7_againstRow_20 : decode cX7_againstRow 20 = .ok (.iload_n 2, 1) := by decide +kernel
theorem dX7_againstRow_21 : decode cX7_againstRow 21 = .ok (.aload_n 0, 1) := by decide +kernel
theorem dX7_againstRow_22 : decode cX7_againstRow 22 = .ok (.getfield 13, 3) := by decide +kernel
theorem dX7_againstRow_25 : decode cX7_againstRow 25 = .ok (.iload_n 1, 1) := by decide +kernel
theorem dX7_againstRow_26 : decode cX7_againstRow 26 = .ok (.iaload, 1) := by decide +kernel
theorem dX7_againstRow_27 : decode cX7_againstRow 27 = .ok (.if_icmp .lt 9, 3) := by decide +kernel
theorem dX7_againstRow_30 : decode cX7_againstRow 30 = .ok (.ldc2_w 75, 3) := by decide +kernel
theorem dX7_againstRow_33 : decode cX7_againstRow 33 = .ok (.goto 4, 3) := by decide +kernel
theorem dX7_againstRow_36 : decode cX7_againstRow 36 = .ok (.lconst 0, 1) := by decide +kernel
theorem dX7_againstRow_37 : decode cX7_againstRow 37 = .ok (.lreturn, 1) := by decide +kernel
set_option maxRecDepth 20000 in
theorem ggX7_pin_X7_isFour : GoodIn wsX7_pin wsX7_isFour := goodIn_r _ [7] (by decide +kernel) (by decide +kernel)
set_option maxRecDepth 20000 in
theorem gX7_pin_X7_isFour : GoodIn wsX7_pin (va_wsS RX7 55 yX7_isFour wsX7_isFour) := goodIn_app (goodIn_of _ (by decide +kernel)) ggX7_pin_X7_isFour
set_option maxRecDepth 20000 in
theorem ggX7_pin_X7_refuse : GoodIn wsX7_pin wsX7_refuse := goodIn_r _ [11, 12, 20, 21, 22, 23, 24, 25, 26, 27, 28, 29, 30] (by decide +kernel) (by decide +kernel)
set_option maxRecDepth 20000 in
theorem gX7_pin_X7_refuse : GoodIn wsX7_pin (wsV RX7 61 RX7 yX7_refuse wsX7_refuse) := goodIn_app (goodIn_of _ (by decide +kernel)) ggX7_pin_X7_refuse
set_option maxRecDepth 20000 in
theorem ggX7_pin_X7_againstRow : GoodIn wsX7_pin wsX7_againstRow := goodIn_r _ [16, 17, 18, 19, 20, 21, 22, 23, 24, 25, 26, 27, 28, 29, 30] (by decide +kernel) (by decide +kernel)
set_option maxRecDepth 20000 in
theorem gX7_pin_X7_againstRow : GoodIn wsX7_pin (wsV RX7 95 RX7 yX7_againstRow wsX7_againstRow) := goodIn_app (goodIn_of _ (by decide +kernel)) ggX7_pin_X7_againstRow
theorem dX7_pin_0 : decode cX7_pin 0 = .ok (.iload_n 1, 1) := by decide +kernel
theorem dX7_pin_1 : decode cX7_pin 1 = .ok (.invokestatic 55, 3) := by decide +kernel
theorem dX7_pin_4 : decode cX7_pin 4 = .ok (.ifCond .eq 10, 3) := by decide +kernel
theorem dX7_pin_7 : decode cX7_pin 7 = .ok (.iload_n 3, 1) := by decide +kernel
theorem dX7_pin_8 : decode cX7_pin 8 = .ok (.invokestatic 55, 3) := by decide +kernel
theorem dX7_pin_11 : decode cX7_pin 11 = .ok (.ifCond .ne 11, 3) := by decide +kernel
theorem dX7_pin_14 : decode cX7_pin 14 = .ok (.aload_n 0, 1) := by decide +kernel
theorem dX7_pin_15 : decode cX7_pin 15 = .ok (.ldc2_w 59, 3) := by decide +kernel
theorem dX7_pin_18 : decode cX7_pin 18 = .ok (.invokevirtual 61, 3) := by decide +kernel
theorem dX7_pin_21 : decode cX7_pin 21 = .ok (.lreturn, 1) := by decide +kernel
theorem dX7_pin_22 : decode cX7_pin 22 = .ok (.aload_n 0, 1) := by decide +kernel
theorem dX7_pin_23 : decode cX7_pin 23 = .ok (.iload_n 1, 1) := by decide +kernel
theorem dX7_pin_24 : decode cX7_pin 24 = .ok (.iload_n 2, 1) := by decide +kernel
theorem dX7_pin_25 : decode cX7_pin 25 = .ok (.invokevirtual 95, 3) := by decide +kernel
theorem dX7_pin_28 : decode cX7_pin 28 = .ok (.lstore 4, 2) := by decide +kernel
theorem dX7_pin_30 : decode cX7_pin 30 = .ok (.lload 4, 2) := by decide +kernel
theorem dX7_pin_32 : decode cX7_pin 32 = .ok (.lconst 0, 1) := by decide +kernel
theorem dX7_pin_33 : decode cX7_pin 33 = .ok (.lcmp, 1) := by decide +kernel
theorem dX7_pin_34 : decode cX7_pin 34 = .ok (.ifCond .eq 10, 3) := by decide +kernel
theorem dX7_pin_37 : decode cX7_pin 37 = .ok (.aload_n 0, 1) := by decide +kernel
theorem dX7_pin_38 : decode cX7_pin 38 = .ok (.lload 4, 2) := by decide +kernel
theorem dX7_pin_40 : decode cX7_pin 40 = .ok (.invokevirtual 61, 3) := by decide +kernel
theorem dX7_pin_43 : decode cX7_pin 43 = .ok (.lreturn, 1) := by decide +kernel
theorem dX7_pin_44 : decode cX7_pin 44 = .ok (.aload_n 0, 1) := by decide +kernel
theorem dX7_pin_45 : decode cX7_pin 45 = .ok (.getfield 16, 3) := by decide +kernel
theorem dX7_pin_48 : decode cX7_pin 48 = .ok (.bipush 12, 2) := by decide +kernel
theorem dX7_pin_50 : decode cX7_pin 50 = .ok (.iload_n 1, 1) := by decide +kernel
theorem dX7_pin_51 : decode cX7_pin 51 = .ok (.imul, 1) := by decide +kernel
theorem dX7_pin_52 : decode cX7_pin 52 = .ok (.iload_n 2, 1) := by decide +kernel
theorem dX7_pin_53 : decode cX7_pin 53 = .ok (.iadd, 1) := by decide +kernel
theorem dX7_pin_54 : decode cX7_pin 54 = .ok (.aload_n 0, 1) := by decide +kernel
theorem dX7_pin_55 : decode cX7_pin 55 = .ok (.getfield 7, 3) := by decide +kernel
theorem dX7_pin_58 : decode cX7_pin 58 = .ok (.iconst 4, 1) := by decide +kernel
theorem dX7_pin_59 : decode cX7_pin 59 = .ok (.iload_n 3, 1) := by decide +kernel
theorem dX7_pin_60 : decode cX7_pin 60 = .ok (.imul, 1) := by decide +kernel
theorem dX7_pin_61 : decode cX7_pin 61 = .ok (.iload_n 1, 1) := by decide +kernel
theorem dX7_pin_62 : decode cX7_pin 62 = .ok (.iadd, 1) := by decide +kernel
theorem dX7_pin_63 : decode cX7_pin 63 = .ok (.iaload, 1) := by decide +kernel
theorem dX7_pin_64 : decode cX7_pin 64 = .ok (.iastore, 1) := by decide +kernel
theorem dX7_pin_65 : decode cX7_pin 65 = .ok (.aload_n 0, 1) := by decide +kernel
theorem dX7_pin_66 : decode cX7_pin 66 = .ok (.getfield 16, 3) := by decide +kernel
theorem dX7_pin_69 : decode cX7_pin 69 = .ok (.bipush 12, 2) := by decide +kernel
theorem dX7_pin_71 : decode cX7_pin 71 = .ok (.iload_n 1, 1) := by decide +kernel
theorem dX7_pin_72 : decode cX7_pin 72 = .ok (.imul, 1) := by decide +kernel
theorem dX7_pin_73 : decode cX7_pin 73 = .ok (.iload_n 2, 1) := by decide +kernel
theorem dX7_pin_74 : decode cX7_pin 74 = .ok (.iadd, 1) := by decide +kernel
theorem dX7_pin_75 : decode cX7_pin 75 = .ok (.iaload, 1) := by decide +kernel
theorem dX7_pin_76 : decode cX7_pin 76 = .ok (.iconst (-1), 1) := by decide +kernel
theorem dX7_pin_77 : decode cX7_pin 77 = .ok (.if_icmp .ne 7, 3) := by decide +kernel
theorem dX7_pin_80 : decode cX7_pin 80 = .ok (.lconst 0, 1) := by decide +kernel
theorem dX7_pin_81 : decode cX7_pin 81 = .ok (.goto 4, 3) := by decide +kernel
theorem dX7_pin_84 : decode cX7_pin 84 = .ok (.lconst 1, 1) := by decide +kernel
theorem dX7_pin_85 : decode cX7_pin 85 = .ok (.lreturn, 1) := by decide +kernel
set_option maxRecDepth 20000 in
theorem ggX7_peel_X7_isFour : GoodIn wsX7_peel wsX7_isFour := goodIn_r _ [7] (by decide +kernel) (by decide +kernel)
set_option maxRecDepth 20000 in
theorem gX7_peel_X7_isFour : GoodIn wsX7_peel (va_wsS RX7 55 yX7_isFour wsX7_isFour) := goodIn_app (goodIn_of _ (by decide +kernel)) ggX7_peel_X7_isFour
set_option maxRecDepth 20000 in
theorem ggX7_peel_X7_refuse : GoodIn wsX7_peel wsX7_refuse := goodIn_r _ [11, 12, 20, 21, 22, 23, 24, 25, 26, 27, 28, 29, 30] (by decide +kernel) (by decide +kernel)
set_option maxRecDepth 20000 in
theorem gX7_peel_X7_refuse : GoodIn wsX7_peel (wsV RX7 61 RX7 yX7_refuse wsX7_refuse) := goodIn_app (goodIn_of _ (by decide +kernel)) ggX7_peel_X7_refuse
set_option maxRecDepth 20000 in
theorem ggX7_peel_X7_againstRow : GoodIn wsX7_peel wsX7_againstRow := goodIn_r _ [16, 17, 18, 19, 20, 21, 22, 23, 24, 25, 26, 27, 28, 29, 30] (by decide +kernel) (by decide +kernel)
set_option maxRecDepth 20000 in
theorem gX7_peel_X7_againstRow : GoodIn wsX7_peel (wsV RX7 95 RX7 yX7_againstRow wsX7_againstRow) := goodIn_app (goodIn_of _ (by decide +kernel)) ggX7_peel_X7_againstRow
theorem dX7_peel_0 : decode cX7_peel 0 = .ok (.iload_n 1, 1) := by decide +kernel
theorem dX7_peel_1 : decode cX7_peel 1 = .ok (.invokestatic 55, 3) := by decide +kernel
theorem dX7_peel_4 : decode cX7_peel 4 = .ok (.ifCond .eq 10, 3) := by decide +kernel
theorem dX7_peel_7 : decode cX7_peel 7 = .ok (.iload_n 3, 1) := by decide +kernel
theorem dX7_peel_8 : decode cX7_peel 8 = .ok (.invokestatic 55, 3) := by decide +kernel
theorem dX7_peel_11 : decode cX7_peel 11 = .ok (.ifCond .ne 11, 3) := by decide +kernel
theorem dX7_peel_14 : decode cX7_peel 14 = .ok (.aload_n 0, 1) := by decide +kernel
theorem dX7_peel_15 : decode cX7_peel 15 = .ok (.ldc2_w 59, 3) := by decide +kernel
theorem dX7_peel_18 : decode cX7_peel 18 = .ok (.invokevirtual 61, 3) := by decide +kernel
theorem dX7_peel_21 : decode cX7_peel 21 = .ok (.lreturn, 1) := by decide +kernel
theorem dX7_peel_22 : decode cX7_peel 22 = .ok (.aload_n 0, 1) := by decide +kernel
theorem dX7_peel_23 : decode cX7_peel 23 = .ok (.iload_n 1, 1) := by decide +kernel
theorem dX7_peel_24 : decode cX7_peel 24 = .ok (.iload_n 2, 1) := by decide +kernel
theorem dX7_peel_25 : decode cX7_peel 25 = .ok (.invokevirtual 95, 3) := by decide +kernel
theorem dX7_peel_28 : decode cX7_peel 28 = .ok (.lstore 4, 2) := by decide +kernel
theorem dX7_peel_30 : decode cX7_peel 30 = .ok (.lload 4, 2) := by decide +kernel
theorem dX7_peel_32 : decode cX7_peel 32 = .ok (.lconst 0, 1) := by decide +kernel
theorem dX7_peel_33 : decode cX7_peel 33 = .ok (.lcmp, 1) := by decide +kernel
theorem dX7_peel_34 : decode cX7_peel 34 = .ok (.ifCond .eq 10, 3) := by decide +kernel
theorem dX7_peel_37 : decode cX7_peel 37 = .ok (.aload_n 0, 1) := by decide +kernel
theorem dX7_peel_38 : decode cX7_peel 38 = .ok (.lload 4, 2) := by decide +kernel
theorem dX7_peel_40 : decode cX7_peel 40 = .ok (.invokevirtual 61, 3) := by decide +kernel
theorem dX7_peel_43 : decode cX7_peel 43 = .ok (.lreturn, 1) := by decide +kernel
theorem dX7_peel_44 : decode cX7_peel 44 = .ok (.aload_n 0, 1) := by decide +kernel
theorem dX7_peel_45 : decode cX7_peel 45 = .ok (.getfield 7, 3) := by decide +kernel
theorem dX7_peel_48 : decode cX7_peel 48 = .ok (.iconst 4, 1) := by decide +kernel
theorem dX7_peel_49 : decode cX7_peel 49 = .ok (.iload_n 3, 1) := by decide +kernel
theorem dX7_peel_50 : decode cX7_peel 50 = .ok (.imul, 1) := by decide +kernel
theorem dX7_peel_51 : decode cX7_peel 51 = .ok (.iload_n 1, 1) := by decide +kernel
theorem dX7_peel_52 : decode cX7_peel 52 = .ok (.iadd, 1) := by decide +kernel
theorem dX7_peel_53 : decode cX7_peel 53 = .ok (.aload_n 0, 1) := by decide +kernel
theorem dX7_peel_54 : decode cX7_peel 54 = .ok (.getfield 16, 3) := by decide +kernel
theorem dX7_peel_57 : decode cX7_peel 57 = .ok (.bipush 12, 2) := by decide +kernel
theorem dX7_peel_59 : decode cX7_peel 59 = .ok (.iload_n 1, 1) := by decide +kernel
theorem dX7_peel_60 : decode cX7_peel 60 = .ok (.imul, 1) := by decide +kernel
theorem dX7_peel_61 : decode cX7_peel 61 = .ok (.iload_n 2, 1) := by decide +kernel
theorem dX7_peel_62 : decode cX7_peel 62 = .ok (.iadd, 1) := by decide +kernel
theorem dX7_peel_63 : decode cX7_peel 63 = .ok (.iaload, 1) := by decide +kernel
theorem dX7_peel_64 : decode cX7_peel 64 = .ok (.iastore, 1) := by decide +kernel
theorem dX7_peel_65 : decode cX7_peel 65 = .ok (.aload_n 0, 1) := by decide +kernel
theorem dX7_peel_66 : decode cX7_peel 66 = .ok (.getfield 16, 3) := by decide +kernel
theorem dX7_peel_69 : decode cX7_peel 69 = .ok (.bipush 12, 2) := by decide +kernel
theorem dX7_peel_71 : decode cX7_peel 71 = .ok (.iload_n 1, 1) := by decide +kernel
theorem dX7_peel_72 : decode cX7_peel 72 = .ok (.imul, 1) := by decide +kernel
theorem dX7_peel_73 : decode cX7_peel 73 = .ok (.iload_n 2, 1) := by decide +kernel
theorem dX7_peel_74 : decode cX7_peel 74 = .ok (.iadd, 1) := by decide +kernel
theorem dX7_peel_75 : decode cX7_peel 75 = .ok (.iaload, 1) := by decide +kernel
theorem dX7_peel_76 : decode cX7_peel 76 = .ok (.iconst (-1), 1) := by decide +kernel
theorem dX7_peel_77 : decode cX7_peel 77 = .ok (.if_icmp .ne 7, 3) := by decide +kernel
theorem dX7_peel_80 : decode cX7_peel 80 = .ok (.lconst 0, 1) := by decide +kernel
theorem dX7_peel_81 : decode cX7_peel 81 = .ok (.goto 4, 3) := by decide +kernel
theorem dX7_peel_84 : decode cX7_peel 84 = .ok (.lconst 1, 1) := by decide +kernel
theorem dX7_peel_85 : decode cX7_peel 85 = .ok (.lreturn, 1) := by decide +kernel
set_option maxRecDepth 20000 in
theorem ggX7_againstPlace_X7_againstRow : GoodIn wsX7_againstPlace wsX7_againstRow := goodIn_r _ [9, 10, 11, 4, 12, 13, 14, 15, 16, 17, 18, 19, 20, 21, 22] (by decide +kernel) (by decide +kernel)
set_option maxRecDepth 20000 in
theorem gX7_againstPlace_X7_againstRow : GoodIn wsX7_againstPlace (wsV RX7 95 RX7 yX7_againstRow wsX7_againstRow) := goodIn_app (goodIn_of _ (by decide +kernel)) ggX7_againstPlace_X7_againstRow
theorem dX7_againstPlace_0 : decode cX7_againstPlace 0 = .ok (.aload_n 0, 1) := by decide +kernel
theorem dX7_againstPlace_1 : decode cX7_againstPlace 1 = .ok (.iload_n 1, 1) := by decide +kernel
theorem dX7_againstPlace_2 : decode cX7_againstPlace 2 = .ok (.iload_n 2, 1) := by decide +kernel
theorem dX7_againstPlace_3 : decode cX7_againstPlace 3 = .ok (.invokevirtual 95, 3) := by decide +kernel
theorem dX7_againstPlace_6 : decode cX7_againstPlace 6 = .ok (.lstore 4, 2) := by decide +kernel
theorem dX7_againstPlace_8 : decode cX7_againstPlace 8 = .ok (.lload 4, 2) := by decide +kernel
theorem dX7_againstPlace_10 : decode cX7_againstPlace 10 = .ok (.lconst 0, 1) := by decide +kernel
theorem dX7_againstPlace_11 : decode cX7_againstPlace 11 = .ok (.lcmp, 1) := by decide +kernel
theorem dX7_againstPlace_12 : decode cX7_againstPlace 12 = .ok (.ifCond .eq 6, 3) := by decide +kernel
theorem dX7_againstPlace_15 : decode cX7_againstPlace 15 = .ok (.lload 4, 2) := by decide +kernel
theorem dX7_againstPlace_17 : decode cX7_againstPlace 17 = .ok (.lreturn, 1) := by decide +kernel
theorem dX7_againstPlace_18 : decode cX7_againstPlace 18 = .ok (.aload_n 0, 1) := by decide +kernel
theorem dX7_againstPlace_19 : decode cX7_againstPlace 19 = .ok (.getfield 16, 3) := by decide +kernel
theorem dX7_againstPlace_22 : decode cX7_againstPlace 22 = .ok (.bipush 12, 2) := by decide +kernel
theorem dX7_againstPlace_24 : decode cX7_againstPlace 24 = .ok (.iload_n 1, 1) := by decide +kernel
theorem dX7_againstPlace_25 : decode cX7_againstPlace 25 = .ok (.imul, 1) := by decide +kernel
theorem dX7_againstPlace_26 : decode cX7_againstPlace 26 = .ok (.iload_n 2, 1) := by decide +kernel
theorem dX7_againstPlace_27 : decode cX7_againstPlace 27 = .ok (.iadd, 1) := by decide +kernel
theorem dX7_againstPlace_28 : decode cX7_againstPlace 28 = .ok (.iaload, 1) := by decide +kernel
theorem dX7_againstPlace_29 : decode cX7_againstPlace 29 = .ok (.istore 6, 2) := by decide +kernel
theorem dX7_againstPlace_31 : decode cX7_againstPlace 31 = .ok (.iload 6, 2) := by decide +kernel
theorem dX7_againstPlace_33 : decode cX7_againstPlace 33 = .ok (.iconst (-1), 1) := by decide +kernel
theorem dX7_againstPlace_34 : decode cX7_againstPlace 34 = .ok (.if_icmp .ne 9, 3) := by decide +kernel
theorem dX7_againstPlace_37 : decode cX7_againstPlace 37 = .ok (.ldc2_w 98, 3) := by decide +kernel
theorem dX7_againstPlace_40 : decode cX7_againstPlace 40 = .ok (.goto 25, 3) := by decide +kernel
theorem dX7_againstPlace_43 : decode cX7_againstPlace 43 = .ok (.iload_n 3, 1) := by decide +kernel
theorem dX7_againstPlace_44 : decode cX7_againstPlace 44 = .ok (.ifCond .lt 14, 3) := by decide +kernel
theorem dX7_againstPlace_47 : decode cX7_againstPlace 47 = .ok (.iload_n 3, 1) := by decide +kernel
theorem dX7_againstPlace_48 : decode cX7_againstPlace 48 = .ok (.aload_n 0, 1) := by decide +kernel
theorem dX7_againstPlace_49 : decode cX7_againstPlace 49 = .ok (.getfield 19, 3) := by decide +kernel
theorem dX7_againstPlace_52 : decode cX7_againstPlace 52 = .ok (.iload 6, 2) := by decide +kernel
theorem dX7_againstPlace_54 : decode cX7_againstPlace 54 = .ok (.iaload, 1) := by decide +kernel
theorem dX7_againstPlace_55 : decode cX7_againstPlace 55 = .ok (.if_icmp .lt 9, 3) := by decide +kernel
theorem dX7_againstPlace_58 : decode cX7_againstPlace 58 = .ok (.ldc2_w 75, 3) := by decide +kernel
theorem dX7_againstPlace_61 : decode cX7_againstPlace 61 = .ok (.goto 4, 3) := by decide +kernel
theorem dX7_againstPlace_64 : decode cX7_againstPlace 64 = .ok (.lconst 0, 1) := by decide +kernel
theorem dX7_againstPlace_65 : decode cX7_againstPlace 65 = .ok (.lreturn, 1) := by decide +kernel
set_option maxRecDepth 20000 in
theorem ggX7_spot_X7_isFour : GoodIn wsX7_spot wsX7_isFour := goodIn_r _ [6] (by decide +kernel) (by decide +kernel)
set_option maxRecDepth 20000 in
theorem gX7_spot_X7_isFour : GoodIn wsX7_spot (va_wsS RX7 55 yX7_isFour wsX7_isFour) := goodIn_app (goodIn_of _ (by decide +kernel)) ggX7_spot_X7_isFour
set_option maxRecDepth 20000 in
theorem ggX7_spot_X7_refuse : GoodIn wsX7_spot wsX7_refuse := goodIn_r _ [10, 11, 32, 33, 34, 35, 36, 37, 38, 39, 40, 41, 42] (by decide +kernel) (by decide +kernel)
set_option maxRecDepth 20000 in
theorem gX7_spot_X7_refuse : GoodIn wsX7_spot (wsV RX7 61 RX7 yX7_refuse wsX7_refuse) := goodIn_app (goodIn_of _ (by decide +kernel)) ggX7_spot_X7_refuse
set_option maxRecDepth 20000 in
theorem ggX7_spot_X7_againstPlace : GoodIn wsX7_spot wsX7_againstPlace := goodIn_r _ [15, 2, 16, 17, 18, 19, 20, 21, 5, 22, 23, 24, 32, 33, 34, 35, 36, 37, 38, 39, 40, 41, 42] (by decide +kernel) (by decide +kernel)
set_option maxRecDepth 20000 in
theorem gX7_spot_X7_againstPlace : GoodIn wsX7_spot (wsV RX7 100 RX7 yX7_againstPlace wsX7_againstPlace) := goodIn_app (goodIn_of _ (by decide +kernel)) ggX7_spot_X7_againstPlace
set_option maxRecDepth 20000 in
theorem ggX7_spot_X7_told : GoodIn wsX7_spot wsX7_told := goodIn_r _ [28, 29, 30, 31, 32, 33, 34, 35, 36, 37, 38, 39, 40, 41, 42] (by decide +kernel) (by decide +kernel)
set_option maxRecDepth 20000 in
theorem gX7_spot_X7_told : GoodIn wsX7_spot (wsV RX7 81 RX7 yX7_told wsX7_told) := goodIn_app (goodIn_of _ (by decide +kernel)) ggX7_spot_X7_told
theorem dX7_spot_0 : decode cX7_spot 0 = .ok (.iload_n 1, 1) := by decide +kernel
theorem dX7_spot_1 : decode cX7_spot 1 = .ok (.invokestatic 55, 3) := by decide +kernel
theorem dX7_spot_4 : decode cX7_spot 4 = .ok (.ifCond .ne 11, 3) := by decide +kernel
theorem dX7_spot_7 : decode cX7_spot 7 = .ok (.aload_n 0, 1) := by decide +kernel
theorem dX7_spot_8 : decode cX7_spot 8 = .ok (.ldc2_w 59, 3) := by decide +kernel
theorem dX7_spot_11 : decode cX7_spot 11 = .ok (.invokevirtual 61, 3) := by decide +kernel
theorem dX7_spot_14 : decode cX7_spot 14 = .ok (.lreturn, 1) := by decide +kernel
theorem dX7_spot_15 : decode cX7_spot 15 = .ok (.aload_n 0, 1) := by decide +kernel
theorem dX7_spot_16 : decode cX7_spot 16 = .ok (.iload_n 1, 1) := by decide +kernel
theorem dX7_spot_17 : decode cX7_spot 17 = .ok (.iload_n 2, 1) := by decide +kernel
theorem dX7_spot_18 : decode cX7_spot 18 = .ok (.iload_n 3, 1) := by decide +kernel
theorem dX7_spot_19 : decode cX7_spot 19 = .ok (.invokevirtual 100, 3) := by decide +kernel
theorem dX7_spot_22 : decode cX7_spot 22 = .ok (.lstore 4, 2) := by decide +kernel
theorem dX7_spot_24 : decode cX7_spot 24 = .ok (.lload 4, 2) := by decide +kernel
theorem dX7_spot_26 : decode cX7_spot 26 = .ok (.lconst 0, 1) := by decide +kernel
theorem dX7_spot_27 : decode cX7_spot 27 = .ok (.lcmp, 1) := by decide +kernel
theorem dX7_spot_28 : decode cX7_spot 28 = .ok (.ifCond .eq 12, 3) := by decide +kernel
theorem dX7_spot_31 : decode cX7_spot 31 = .ok (.aload_n 0, 1) := by decide +kernel
theorem dX7_spot_32 : decode cX7_spot 32 = .ok (.lload 4, 2) := by decide +kernel
theorem dX7_spot_34 : decode cX7_spot 34 = .ok (.invokevirtual 61, 3) := by decide +kernel
theorem dX7_spot_37 : decode cX7_spot 37 = .ok (.goto 20, 3) := by decide +kernel
theorem dX7_spot_40 : decode cX7_spot 40 = .ok (.aload_n 0, 1) := by decide +kernel
theorem dX7_spot_41 : decode cX7_spot 41 = .ok (.iload_n 1, 1) := by decide +kernel
theorem dX7_spot_42 : decode cX7_spot 42 = .ok (.aload_n 0, 1) := by decide +kernel
theorem dX7_spot_43 : decode cX7_spot 43 = .ok (.getfield 16, 3) := by decide +kernel
theorem dX7_spot_46 : decode cX7_spot 46 = .ok (.bipush 12, 2) := by decide +kernel
theorem dX7_spot_48 : decode cX7_spot 48 = .ok (.iload_n 1, 1) := by decide +kernel
theorem dX7_spot_49 : decode cX7_spot 49 = .ok (.imul, 1) := by decide +kernel
theorem dX7_spot_50 : decode cX7_spot 50 = .ok (.iload_n 2, 1) := by decide +kernel
theorem dX7_spot_51 : decode cX7_spot 51 = .ok (.iadd, 1) := by decide +kernel
theorem dX7_spot_52 : decode cX7_spot 52 = .ok (.iaload, 1) := by decide +kernel
theorem dX7_spot_53 : decode cX7_spot 53 = .ok (.iload_n 3, 1) := by decide +kernel
theorem dX7_spot_54 : decode cX7_spot 54 = .ok (.invokevirtual 81, 3) := by decide +kernel
theorem dX7_spot_57 : decode cX7_spot 57 = .ok (.lreturn, 1) := by decide +kernel
set_option maxRecDepth 20000 in
theorem ggX7_paint_X7_isFour : GoodIn wsX7_paint wsX7_isFour := goodIn_r _ [6] (by decide +kernel) (by decide +kernel)
set_option maxRecDepth 20000 in
theorem gX7_paint_X7_isFour : GoodIn wsX7_paint (va_wsS RX7 55 yX7_isFour wsX7_isFour) := goodIn_app (goodIn_of _ (by decide +kernel)) ggX7_paint_X7_isFour
set_option maxRecDepth 20000 in
theorem ggX7_paint_X7_refuse : GoodIn wsX7_paint wsX7_refuse := goodIn_r _ [10, 11, 45, 46, 47, 48, 49, 50, 51, 52, 53, 54, 55] (by decide +kernel) (by decide +kernel)
set_option maxRecDepth 20000 in
theorem gX7_paint_X7_refuse : GoodIn wsX7_paint (wsV RX7 61 RX7 yX7_refuse wsX7_refuse) := goodIn_app (goodIn_of _ (by decide +kernel)) ggX7_paint_X7_refuse
set_option maxRecDepth 20000 in
theorem ggX7_paint_X7_againstPlace : GoodIn wsX7_paint wsX7_againstPlace := goodIn_r _ [15, 2, 16, 17, 18, 19, 20, 21, 5, 22, 23, 24, 45, 46, 47, 48, 49, 50, 51, 52, 53, 54, 55] (by decide +kernel) (by decide +kernel)
set_option maxRecDepth 20000 in
theorem gX7_paint_X7_againstPlace : GoodIn wsX7_paint (wsV RX7 100 RX7 yX7_againstPlace wsX7_againstPlace) := goodIn_app (goodIn_of _ (by decide +kernel)) ggX7_paint_X7_againstPlace
set_option maxRecDepth 20000 in
theorem ggX7_paint_X7_fill : GoodIn wsX7_paint wsX7_fill := goodIn_r _ [28, 29, 30, 31, 32, 33, 5, 34, 35, 36, 37, 38, 39, 40, 45, 46, 47, 48, 49, 50, 51, 52, 53, 54, 55] (by decide +kernel) (by decide +kernel)
set_option maxRecDepth 20000 in
theorem gX7_paint_X7_fill : GoodIn wsX7_paint (wsV RX7 85 RX7 yX7_fill wsX7_fill) := goodIn_app (goodIn_of _ (by decide +kernel)) ggX7_paint_X7_fill
set_option maxRecDepth 20000 in
theorem ggX7_paint_X7_told : GoodIn wsX7_paint wsX7_told := goodIn_r _ [44, 31, 35, 29, 45, 46, 47, 48, 49, 50, 51, 52, 53, 54, 55] (by decide +kernel) (by decide +kernel)
set_option maxRecDepth 20000 in
theorem gX7_paint_X7_told : GoodIn wsX7_paint (wsV RX7 81 RX7 yX7_told wsX7_told) := goodIn_app (goodIn_of _ (by decide +kernel)) ggX7_paint_X7_told
theorem dX7_paint_0 : decode cX7_paint 0 = .ok (.iload_n 1, 1) := by decide +kernel
theorem dX7_paint_1 : decode cX7_paint 1 = .ok (.invokestatic 55, 3) := by decide +kernel
theorem dX7_paint_4 : decode cX7_paint 4 = .ok (.ifCond .ne 11, 3) := by decide +kernel
theorem dX7_paint_7 : decode cX7_paint 7 = .ok (.aload_n 0, 1) := by decide +kernel
theorem dX7_paint_8 : decode cX7_paint 8 = .ok (.ldc2_w 59, 3) := by decide +kernel
theorem dX7_paint_11 : decode cX7_paint 11 = .ok (.invokevirtual 61, 3) := by decide +kernel
theorem dX7_paint_14 : decode cX7_paint 14 = .ok (.lreturn, 1) := by decide +kernel
theorem dX7_paint_15 : decode cX7_paint 15 = .ok (.aload_n 0, 1) := by decide +kernel
theorem dX7_paint_16 : decode cX7_paint 16 = .ok (.iload_n 1, 1) := by decide +kernel
theorem dX7_paint_17 : decode cX7_paint 17 = .ok (.iload_n 2, 1) := by decide +kernel
theorem dX7_paint_18 : decode cX7_paint 18 = .ok (.iload_n 3, 1) := by decide +kernel
theorem dX7_paint_19 : decode cX7_paint 19 = .ok (.invokevirtual 100, 3) := by decide +kernel
theorem dX7_paint_22 : decode cX7_paint 22 = .ok (.lstore 5, 2) := by decide +kernel
theorem dX7_paint_24 : decode cX7_paint 24 = .ok (.lload 5, 2) := by decide +kernel
theorem dX7_paint_26 : decode cX7_paint 26 = .ok (.lconst 0, 1) := by decide +kernel
theorem dX7_paint_27 : decode cX7_paint 27 = .ok (.lcmp, 1) := by decide +kernel
theorem dX7_paint_28 : decode cX7_paint 28 = .ok (.ifCond .eq 10, 3) := by decide +kernel
theorem dX7_paint_31 : decode cX7_paint 31 = .ok (.aload_n 0, 1) := by decide +kernel
theorem dX7_paint_32 : decode cX7_paint 32 = .ok (.lload 5, 2) := by decide +kernel
theorem dX7_paint_34 : decode cX7_paint 34 = .ok (.invokevirtual 61, 3) := by decide +kernel
theorem dX7_paint_37 : decode cX7_paint 37 = .ok (.lreturn, 1) := by decide +kernel
theorem dX7_paint_38 : decode cX7_paint 38 = .ok (.aload_n 0, 1) := by decide +kernel
theorem dX7_paint_39 : decode cX7_paint 39 = .ok (.iload_n 1, 1) := by decide +kernel
theorem dX7_paint_40 : decode cX7_paint 40 = .ok (.aload_n 0, 1) := by decide +kernel
theorem dX7_paint_41 : decode cX7_paint 41 = .ok (.getfield 16, 3) := by decide +kernel
theorem dX7_paint_44 : decode cX7_paint 44 = .ok (.bipush 12, 2) := by decide +kernel
theorem dX7_paint_46 : decode cX7_paint 46 = .ok (.iload_n 1, 1) := by decide +kernel
theorem dX7_paint_47 : decode cX7_paint 47 = .ok (.imul, 1) := by decide +kernel
theorem dX7_paint_48 : decode cX7_paint 48 = .ok (.iload_n 2, 1) := by decide +kernel
theorem dX7_paint_49 : decode cX7_paint 49 = .ok (.iadd, 1) := by decide +kernel
theorem dX7_paint_50 : decode cX7_paint 50 = .ok (.iaload, 1) := by decide +kernel
theorem dX7_paint_51 : decode cX7_paint 51 = .ok (.iload_n 3, 1) := by decide +kernel
theorem dX7_paint_52 : decode cX7_paint 52 = .ok (.iload 4, 2) := by decide +kernel
theorem dX7_paint_54 : decode cX7_paint 54 = .ok (.invokevirtual 85, 3) := by decide +kernel
theorem dX7_paint_57 : decode cX7_paint 57 = .ok (.aload_n 0, 1) := by decide +kernel
theorem dX7_paint_58 : decode cX7_paint 58 = .ok (.iload_n 1, 1) := by decide +kernel
theorem dX7_paint_59 : decode cX7_paint 59 = .ok (.aload_n 0, 1) := by decide +kernel
theorem dX7_paint_60 : decode cX7_paint 60 = .ok (.getfield 16, 3) := by decide +kernel
theorem dX7_paint_63 : decode cX7_paint 63 = .ok (.bipush 12, 2) := by decide +kernel
theorem dX7_paint_65 : decode cX7_paint 65 = .ok (.iload_n 1, 1) := by decide +kernel
theorem dX7_paint_66 : decode cX7_paint 66 = .ok (.imul, 1) := by decide +kernel
theorem dX7_paint_67 : decode cX7_paint 67 = .ok (.iload_n 2, 1) := by decide +kernel
theorem dX7_paint_68 : decode cX7_paint 68 = .ok (.iadd, 1) := by decide +kernel
theorem dX7_paint_69 : decode cX7_paint 69 = .ok (.iaload, 1) := by decide +kernel
theorem dX7_paint_70 : decode cX7_paint 70 = .ok (.iload_n 3, 1) := by decide +kernel
theorem dX7_paint_71 : decode cX7_paint 71 = .ok (.invokevirtual 81, 3) := by decide +kernel
theorem dX7_paint_74 : decode cX7_paint 74 = .ok (.lreturn, 1) := by decide +kernel
set_option maxRecDepth 20000 in
theorem ggX7_span_X7_isFour : GoodIn wsX7_span wsX7_isFour := goodIn_r _ [9] (by decide +kernel) (by decide +kernel)
set_option maxRecDepth 20000 in
theorem gX7_span_X7_isFour : GoodIn wsX7_span (va_wsS RX7 55 yX7_isFour wsX7_isFour) := goodIn_app (goodIn_of _ (by decide +kernel)) ggX7_span_X7_isFour
set_option maxRecDepth 20000 in
theorem ggX7_span_X7_refuse : GoodIn wsX7_span wsX7_refuse := goodIn_r _ [13, 14, 21, 22, 23, 24, 25, 26, 27, 28, 29, 30, 31] (by decide +kernel) (by decide +kernel)
set_option maxRecDepth 20000 in
theorem gX7_span_X7_refuse : GoodIn wsX7_span (wsV RX7 61 RX7 yX7_refuse wsX7_refuse) := goodIn_app (goodIn_of _ (by decide +kernel)) ggX7_span_X7_refuse
set_option maxRecDepth 20000 in
theorem ggX7_span_X7_againstRow : GoodIn wsX7_span wsX7_againstRow := goodIn_r _ [18, 2, 19, 20, 21, 22, 23, 24, 25, 26, 27, 28, 29, 30, 31] (by decide +kernel) (by decide +kernel)
set_option maxRecDepth 20000 in
theorem gX7_span_X7_againstRow : GoodIn wsX7_span (wsV RX7 95 RX7 yX7_againstRow wsX7_againstRow) := goodIn_app (goodIn_of _ (by decide +kernel)) ggX7_span_X7_againstRow
theorem dX7_span_0 : decode cX7_span 0 = .ok (.iload_n 1, 1) := by decide +kernel
theorem dX7_span_1 : decode cX7_span 1 = .ok (.invokestatic 55, 3) := by decide +kernel
theorem dX7_span_4 : decode cX7_span 4 = .ok (.ifCond .ne 11, 3) := by decide +kernel
theorem dX7_span_7 : decode cX7_span 7 = .ok (.aload_n 0, 1) := by decide +kernel
theorem dX7_span_8 : decode cX7_span 8 = .ok (.ldc2_w 59, 3) := by decide +kernel
theorem dX7_span_11 : decode cX7_span 11 = .ok (.invokevirtual 61, 3) := by decide +kernel
theorem dX7_span_14 : decode cX7_span 14 = .ok (.lreturn, 1) := by decide +kernel
theorem dX7_span_15 : decode cX7_span 15 = .ok (.aload_n 0, 1) := by decide +kernel
theorem dX7_span_16 : decode cX7_span 16 = .ok (.getfield 13, 3) := by decide +kernel
theorem dX7_span_19 : decode cX7_span 19 = .ok (.iload_n 1, 1) := by decide +kernel
theorem dX7_span_20 : decode cX7_span 20 = .ok (.iaload, 1) := by decide +kernel
theorem dX7_span_21 : decode cX7_span 21 = .ok (.iconst (-1), 1) := by decide +kernel
theorem dX7_span_22 : decode cX7_span 22 = .ok (.if_icmp .eq 16, 3) := by decide +kernel
theorem dX7_span_25 : decode cX7_span 25 = .ok (.iload_n 2, 1) := by decide +kernel
theorem dX7_span_26 : decode cX7_span 26 = .ok (.iconst (-1), 1) := by decide +kernel
theorem dX7_span_27 : decode cX7_span 27 = .ok (.if_icmp .ne 11, 3) := by decide +kernel
theorem dX7_span_30 : decode cX7_span 30 = .ok (.aload_n 0, 1) := by decide +kernel
theorem dX7_span_31 : decode cX7_span 31 = .ok (.getfield 13, 3) := by decide +kernel
theorem dX7_span_34 : decode cX7_span 34 = .ok (.iload_n 1, 1) := by decide +kernel
theorem dX7_span_35 : decode cX7_span 35 = .ok (.iaload, 1) := by decide +kernel
theorem dX7_span_36 : decode cX7_span 36 = .ok (.i2l, 1) := by decide +kernel
theorem dX7_span_37 : decode cX7_span 37 = .ok (.lreturn, 1) := by decide +kernel
theorem dX7_span_38 : decode cX7_span 38 = .ok (.aload_n 0, 1) := by decide +kernel
theorem dX7_span_39 : decode cX7_span 39 = .ok (.iload_n 1, 1) := by decide +kernel
theorem dX7_span_40 : decode cX7_span 40 = .ok (.iload_n 2, 1) := by decide +kernel
theorem dX7_span_41 : decode cX7_span 41 = .ok (.invokevirtual 95, 3) := by decide +kernel
theorem dX7_span_44 : decode cX7_span 44 = .ok (.lstore_n 3, 1) := by decide +kernel
theorem dX7_span_45 : decode cX7_span 45 = .ok (.lload_n 3, 1) := by decide +kernel
theorem dX7_span_46 : decode cX7_span 46 = .ok (.lconst 0, 1) := by decide +kernel
theorem dX7_span_47 : decode cX7_span 47 = .ok (.lcmp, 1) := by decide +kernel
theorem dX7_span_48 : decode cX7_span 48 = .ok (.ifCond .eq 9, 3) := by decide +kernel
theorem dX7_span_51 : decode cX7_span 51 = .ok (.aload_n 0, 1) := by decide +kernel
theorem dX7_span_52 : decode cX7_span 52 = .ok (.lload_n 3, 1) := by decide +kernel
theorem dX7_span_53 : decode cX7_span 53 = .ok (.invokevirtual 61, 3) := by decide +kernel
theorem dX7_span_56 : decode cX7_span 56 = .ok (.lreturn, 1) := by decide +kernel
theorem dX7_span_57 : decode cX7_span 57 = .ok (.aload_n 0, 1) := by decide +kernel
theorem dX7_span_58 : decode cX7_span 58 = .ok (.getfield 16, 3) := by decide +kernel
theorem dX7_span_61 : decode cX7_span 61 = .ok (.bipush 12, 2) := by decide +kernel
theorem dX7_span_63 : decode cX7_span 63 = .ok (.iload_n 1, 1) := by decide +kernel
theorem dX7_span_64 : decode cX7_span 64 = .ok (.imul, 1) := by decide +kernel
theorem dX7_span_65 : decode cX7_span 65 = .ok (.iload_n 2, 1) := by decide +kernel
theorem dX7_span_66 : decode cX7_span 66 = .ok (.iadd, 1) := by decide +kernel
theorem dX7_span_67 : decode cX7_span 67 = .ok (.iaload, 1) := by decide +kernel
theorem dX7_span_68 : decode cX7_span 68 = .ok (.istore 5, 2) := by decide +kernel
theorem dX7_span_70 : decode cX7_span 70 = .ok (.iload 5, 2) := by decide +kernel
theorem dX7_span_72 : decode cX7_span 72 = .ok (.iconst (-1), 1) := by decide +kernel
theorem dX7_span_73 : decode cX7_span 73 = .ok (.if_icmp .ne 13, 3) := by decide +kernel
theorem dX7_span_76 : decode cX7_span 76 = .ok (.aload_n 0, 1) := by decide +kernel
theorem dX7_span_77 : decode cX7_span 77 = .ok (.ldc2_w 98, 3) := by decide +kernel
theorem dX7_span_80 : decode cX7_span 80 = .ok (.invokevirtual 61, 3) := by decide +kernel
theorem dX7_span_83 : decode cX7_span 83 = .ok (.goto 11, 3) := by decide +kernel
theorem dX7_span_86 : decode cX7_span 86 = .ok (.aload_n 0, 1) := by decide +kernel
theorem dX7_span_87 : decode cX7_span 87 = .ok (.getfield 19, 3) := by decide +kernel
theorem dX7_span_90 : decode cX7_span 90 = .ok (.iload 5, 2) := by decide +kernel
theorem dX7_span_92 : decode cX7_span 92 = .ok (.iaload, 1) := by decide +kernel
theorem dX7_span_93 : decode cX7_span 93 = .ok (.i2l, 1) := by decide +kernel
theorem dX7_span_94 : decode cX7_span 94 = .ok (.lreturn, 1) := by decide +kernel
set_option maxRecDepth 20000 in
theorem ggX7_chart_X7_refuse : GoodIn wsX7_chart wsX7_refuse := goodIn_r _ [10, 11, 12, 13, 14, 15, 16, 17, 18, 19, 20, 21, 22] (by decide +kernel) (by decide +kernel)
set_option maxRecDepth 20000 in
theorem gX7_chart_X7_refuse : GoodIn wsX7_chart (wsV RX7 61 RX7 yX7_refuse wsX7_refuse) := goodIn_app (goodIn_of _ (by decide +kernel)) ggX7_chart_X7_refuse
theorem dX7_chart_0 : decode cX7_chart 0 = .ok (.iload_n 1, 1) := by decide +kernel
theorem dX7_chart_1 : decode cX7_chart 1 = .ok (.bipush 12, 2) := by decide +kernel
theorem dX7_chart_3 : decode cX7_chart 3 = .ok (.if_icmp .gt 9, 3) := by decide +kernel
theorem dX7_chart_6 : decode cX7_chart 6 = .ok (.iload_n 2, 1) := by decide +kernel
theorem dX7_chart_7 : decode cX7_chart 7 = .ok (.bipush 12, 2) := by decide +kernel
theorem dX7_chart_9 : decode cX7_chart 9 = .ok (.if_icmp .le 11, 3) := by decide +kernel
theorem dX7_chart_12 : decode cX7_chart 12 = .ok (.aload_n 0, 1) := by decide +kernel
theorem dX7_chart_13 : decode cX7_chart 13 = .ok (.ldc2_w 65, 3) := by decide +kernel
theorem dX7_chart_16 : decode cX7_chart 16 = .ok (.invokevirtual 61, 3) := by decide +kernel
theorem dX7_chart_19 : decode cX7_chart 19 = .ok (.lreturn, 1) := by decide +kernel
theorem dX7_chart_20 : decode cX7_chart 20 = .ok (.iload_n 1, 1) := by decide +kernel
theorem dX7_chart_21 : decode cX7_chart 21 = .ok (.ifCond .lt 7, 3) := by decide +kernel
theorem dX7_chart_24 : decode cX7_chart 24 = .ok (.iload_n 2, 1) := by decide +kernel
theorem dX7_chart_25 : decode cX7_chart 25 = .ok (.ifCond .ge 11, 3) := by decide +kernel
theorem dX7_chart_28 : decode cX7_chart 28 = .ok (.aload_n 0, 1) := by decide +kernel
theorem dX7_chart_29 : decode cX7_chart 29 = .ok (.ldc2_w 67, 3) := by decide +kernel
theorem dX7_chart_32 : decode cX7_chart 32 = .ok (.invokevirtual 61, 3) := by decide +kernel
theorem dX7_chart_35 : decode cX7_chart 35 = .ok (.lreturn, 1) := by decide +kernel
theorem dX7_chart_36 : decode cX7_chart 36 = .ok (.aload_n 0, 1) := by decide +kernel
theorem dX7_chart_37 : decode cX7_chart 37 = .ok (.iload_n 1, 1) := by decide +kernel
theorem dX7_chart_38 : decode cX7_chart 38 = .ok (.putfield 33, 3) := by decide +kernel
theorem dX7_chart_41 : decode cX7_chart 41 = .ok (.aload_n 0, 1) := by decide +kernel
theorem dX7_chart_42 : decode cX7_chart 42 = .ok (.iload_n 2, 1) := by decide +kernel
theorem dX7_chart_43 : decode cX7_chart 43 = .ok (.putfield 103, 3) := by decide +kernel
theorem dX7_chart_46 : decode cX7_chart 46 = .ok (.iconst 0, 1) := by decide +kernel
theorem dX7_chart_47 : decode cX7_chart 47 = .ok (.istore_n 3, 1) := by decide +kernel
theorem dX7_chart_48 : decode cX7_chart 48 = .ok (.iload_n 3, 1) := by decide +kernel
theorem dX7_chart_49 : decode cX7_chart 49 = .ok (.sipush 144, 3) := by decide +kernel
theorem dX7_chart_52 : decode cX7_chart 52 = .ok (.if_icmp .ge 16, 3) := by decide +kernel
theorem dX7_chart_55 : decode cX7_chart 55 = .ok (.aload_n 0, 1) := by decide +kernel
theorem dX7_chart_56 : decode cX7_chart 56 = .ok (.getfield 37, 3) := by decide +kernel
theorem dX7_chart_59 : decode cX7_chart 59 = .ok (.iload_n 3, 1) := by decide +kernel
theorem dX7_chart_60 : decode cX7_chart 60 = .ok (.iconst 0, 1) := by decide +kernel
theorem dX7_chart_61 : decode cX7_chart 61 = .ok (.iastore, 1) := by decide +kernel
theorem dX7_chart_62 : decode cX7_chart 62 = .ok (.iinc 3 1, 3) := by decide +kernel
theorem dX7_chart_65 : decode cX7_chart 65 = .ok (.goto (-17), 3) := by decide +kernel
theorem dX7_chart_68 : decode cX7_chart 68 = .ok (.iload_n 1, 1) := by decide +kernel
theorem dX7_chart_69 : decode cX7_chart 69 = .ok (.i2l, 1) := by decide +kernel
theorem dX7_chart_70 : decode cX7_chart 70 = .ok (.lreturn, 1) := by decide +kernel
set_option maxRecDepth 20000 in
theorem ggX7_note_X7_refuse : GoodIn wsX7_note wsX7_refuse := goodIn_r _ [10, 11, 12, 13, 14, 15, 16, 17, 18, 19, 20, 21, 22] (by decide +kernel) (by decide +kernel)
set_option maxRecDepth 20000 in
theorem gX7_note_X7_refuse : GoodIn wsX7_note (wsV RX7 61 RX7 yX7_refuse wsX7_refuse) := goodIn_app (goodIn_of _ (by decide +kernel)) ggX7_note_X7_refuse
theorem dX7_note_0 : decode cX7_note 0 = .ok (.aload_n 0, 1) := by decide +kernel
theorem dX7_note_1 : decode cX7_note 1 = .ok (.getfield 33, 3) := by decide +kernel
theorem dX7_note_4 : decode cX7_note 4 = .ok (.iconst (-1), 1) := by decide +kernel
theorem dX7_note_5 : decode cX7_note 5 = .ok (.if_icmp .ne 11, 3) := by decide +kernel
theorem dX7_note_8 : decode cX7_note 8 = .ok (.aload_n 0, 1) := by decide +kernel
theorem dX7_note_9 : decode cX7_note 9 = .ok (.ldc2_w 73, 3) := by decide +kernel
theorem dX7_note_12 : decode cX7_note 12 = .ok (.invokevirtual 61, 3) := by decide +kernel
theorem dX7_note_15 : decode cX7_note 15 = .ok (.lreturn, 1) := by decide +kernel
theorem dX7_note_16 : decode cX7_note 16 = .ok (.iload_n 1, 1) := by decide +kernel
theorem dX7_note_17 : decode cX7_note 17 = .ok (.ifCond .lt 23, 3) := by decide +kernel
theorem dX7_note_20 : decode cX7_note 20 = .ok (.iload_n 1, 1) := by decide +kernel
theorem dX7_note_21 : decode cX7_note 21 = .ok (.aload_n 0, 1) := by decide +kernel
theorem dX7_note_22 : decode cX7_note 22 = .ok (.getfield 33, 3) := by decide +kernel
theorem dX7_note_25 : decode cX7_note 25 = .ok (.if_icmp .ge 15, 3) := by decide +kernel
theorem dX7_note_28 : decode cX7_note 28 = .ok (.iload_n 2, 1) := by decide +kernel
theorem dX7_note_29 : decode cX7_note 29 = .ok (.ifCond .lt 11, 3) := by decide +kernel
theorem dX7_note_32 : decode cX7_note 32 = .ok (.iload_n 2, 1) := by decide +kernel
theorem dX7_note_33 : decode cX7_note 33 = .ok (.aload_n 0, 1) := by decide +kernel
theorem dX7_note_34 : decode cX7_note 34 = .ok (.getfield 103, 3) := by decide +kernel
theorem dX7_note_37 : decode cX7_note 37 = .ok (.if_icmp .lt 11, 3) := by decide +kernel
theorem dX7_note_40 : decode cX7_note 40 = .ok (.aload_n 0, 1) := by decide +kernel
theorem dX7_note_41 : decode cX7_note 41 = .ok (.ldc2_w 75, 3) := by decide +kernel
theorem dX7_note_44 : decode cX7_note 44 = .ok (.invokevirtual 61, 3) := by decide +kernel
theorem dX7_note_47 : decode cX7_note 47 = .ok (.lreturn, 1) := by decide +kernel
theorem dX7_note_48 : decode cX7_note 48 = .ok (.aload_n 0, 1) := by decide +kernel
theorem dX7_note_49 : decode cX7_note 49 = .ok (.getfield 37, 3) := by decide +kernel
theorem dX7_note_52 : decode cX7_note 52 = .ok (.bipush 12, 2) := by decide +kernel
theorem dX7_note_54 : decode cX7_note 54 = .ok (.iload_n 1, 1) := by decide +kernel
theorem dX7_note_55 : decode cX7_note 55 = .ok (.imul, 1) := by decide +kernel
theorem dX7_note_56 : decode cX7_note 56 = .ok (.iload_n 2, 1) := by decide +kernel
theorem dX7_note_57 : decode cX7_note 57 = .ok (.iadd, 1) := by decide +kernel
theorem dX7_note_58 : decode cX7_note 58 = .ok (.dup2, 1) := by decide +kernel
theorem dX7_note_59 : decode cX7_note 59 = .ok (.iaload, 1) := by decide +kernel
theorem dX7_note_60 : decode cX7_note 60 = .ok (.iload_n 3, 1) := by decide +kernel
theorem dX7_note_61 : decode cX7_note 61 = .ok (.iadd, 1) := by decide +kernel
theorem dX7_note_62 : decode cX7_note 62 = .ok (.iastore, 1) := by decide +kernel
theorem dX7_note_63 : decode cX7_note 63 = .ok (.aload_n 0, 1) := by decide +kernel
theorem dX7_note_64 : decode cX7_note 64 = .ok (.getfield 37, 3) := by decide +kernel
theorem dX7_note_67 : decode cX7_note 67 = .ok (.bipush 12, 2) := by decide +kernel
theorem dX7_note_69 : decode cX7_note 69 = .ok (.iload_n 1, 1) := by decide +kernel
theorem dX7_note_70 : decode cX7_note 70 = .ok (.imul, 1) := by decide +kernel
theorem dX7_note_71 : decode cX7_note 71 = .ok (.iload_n 2, 1) := by decide +kernel
theorem dX7_note_72 : decode cX7_note 72 = .ok (.iadd, 1) := by decide +kernel
theorem dX7_note_73 : decode cX7_note 73 = .ok (.iaload, 1) := by decide +kernel
theorem dX7_note_74 : decode cX7_note 74 = .ok (.i2l, 1) := by decide +kernel
theorem dX7_note_75 : decode cX7_note 75 = .ok (.lreturn, 1) := by decide +kernel
theorem dX7_tally_0 : decode cX7_tally 0 = .ok (.iload_n 1, 1) := by decide +kernel
theorem dX7_tally_1 : decode cX7_tally 1 = .ok (.ifCond .le 18, 3) := by decide +kernel
theorem dX7_tally_4 : decode cX7_tally 4 = .ok (.iload_n 1, 1) := by decide +kernel
theorem dX7_tally_5 : decode cX7_tally 5 = .ok (.bipush 8, 2) := by decide +kernel
theorem dX7_tally_7 : decode cX7_tally 7 = .ok (.if_icmp .ge 12, 3) := by decide +kernel
theorem dX7_tally_10 : decode cX7_tally 10 = .ok (.aload_n 0, 1) := by decide +kernel
theorem dX7_tally_11 : decode cX7_tally 11 = .ok (.getfield 40, 3) := by decide +kernel
theorem dX7_tally_14 : decode cX7_tally 14 = .ok (.iload_n 1, 1) := by decide +kernel
theorem dX7_tally_15 : decode cX7_tally 15 = .ok (.iaload, 1) := by decide +kernel
theorem dX7_tally_16 : decode cX7_tally 16 = .ok (.goto 4, 3) := by decide +kernel
theorem dX7_tally_19 : decode cX7_tally 19 = .ok (.iconst 0, 1) := by decide +kernel
theorem dX7_tally_20 : decode cX7_tally 20 = .ok (.ireturn, 1) := by decide +kernel
