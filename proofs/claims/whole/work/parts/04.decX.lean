theorem dJx00060_init_a7421_0 : decode cJx00060_init_a7421 0 = .ok (.aload_n 0, 1) := by decide +kernel
theorem dJx00060_init_a7421_1 : decode cJx00060_init_a7421 1 = .ok (.aload_n 1, 1) := by decide +kernel
theorem dJx00060_init_a7421_2 : decode cJx00060_init_a7421 2 = .ok (.invokespecial 7, 3) := by decide +kernel
theorem dJx00060_init_a7421_5 : decode cJx00060_init_a7421 5 = .ok (.return_, 1) := by decide +kernel
theorem dJ9_floorMod_7cf53_0 : decode cJ9_floorMod_7cf53 0 = .ok (.iload_n 0, 1) := by decide +kernel
theorem dJ9_floorMod_7cf53_1 : decode cJ9_floorMod_7cf53 1 = .ok (.iload_n 1, 1) := by decide +kernel
theorem dJ9_floorMod_7cf53_2 : decode cJ9_floorMod_7cf53 2 = .ok (.irem, 1) := by decide +kernel
theorem dJ9_floorMod_7cf53_3 : decode cJ9_floorMod_7cf53 3 = .ok (.istore_n 2, 1) := by decide +kernel
theorem dJ9_floorMod_7cf53_4 : decode cJ9_floorMod_7cf53 4 = .ok (.iload_n 0, 1) := by decide +kernel
theorem dJ9_floorMod_7cf53_5 : decode cJ9_floorMod_7cf53 5 = .ok (.iload_n 1, 1) := by decide +kernel
theorem dJ9_floorMod_7cf53_6 : decode cJ9_floorMod_7cf53 6 = .ok (.ixor, 1) := by decide +kernel
theorem dJ9_floorMod_7cf53_7 : decode cJ9_floorMod_7cf53 7 = .ok (.ifCond .ge 11, 3) := by decide +kernel
theorem dJ9_floorMod_7cf53_10 : decode cJ9_floorMod_7cf53 10 = .ok (.iload_n 2, 1) := by decide +kernel
theorem dJ9_floorMod_7cf53_11 : decode cJ9_floorMod_7cf53 11 = .ok (.ifCond .eq 7, 3) := by decide +kernel
theorem dJ9_floorMod_7cf53_14 : decode cJ9_floorMod_7cf53 14 = .ok (.iload_n 2, 1) := by decide +kernel
theorem dJ9_floorMod_7cf53_15 : decode cJ9_floorMod_7cf53 15 = .ok (.iload_n 1, 1) := by decide +kernel
theorem dJ9_floorMod_7cf53_16 : decode cJ9_floorMod_7cf53 16 = .ok (.iadd, 1) := by decide +kernel
theorem dJ9_floorMod_7cf53_17 : decode cJ9_floorMod_7cf53 17 = .ok (.ireturn, 1) := by decide +kernel
theorem dJ9_floorMod_7cf53_18 : decode cJ9_floorMod_7cf53 18 = .ok (.iload_n 2, 1) := by decide +kernel
theorem dJ9_floorMod_7cf53_19 : decode cJ9_floorMod_7cf53 19 = .ok (.ireturn, 1) := by decide +kernel
theorem dJ9_min_7cf53_0 : decode cJ9_min_7cf53 0 = .ok (.iload_n 0, 1) := by decide +kernel
theorem dJ9_min_7cf53_1 : decode cJ9_min_7cf53 1 = .ok (.iload_n 1, 1) := by decide +kernel
theorem dJ9_min_7cf53_2 : decode cJ9_min_7cf53 2 = .ok (.if_icmp .gt 7, 3) := by decide +kernel
theorem dJ9_min_7cf53_5 : decode cJ9_min_7cf53 5 = .ok (.iload_n 0, 1) := by decide +kernel
theorem dJ9_min_7cf53_6 : decode cJ9_min_7cf53 6 = .ok (.goto 4, 3) := by decide +kernel
theorem dJ9_min_7cf53_9 : decode cJ9_min_7cf53 9 = .ok (.iload_n 1, 1) := by decide +kernel
theorem dJ9_min_7cf53_10 : decode cJ9_min_7cf53 10 = .ok (.ireturn, 1) := by decide +kernel
theorem dX0_init_0 : decode cX0_init 0 = .ok (.aload_n 0, 1) := by decide +kernel
theorem dX0_init_1 : decode cX0_init 1 = .ok (.invokespecial 3, 3) := by decide +kernel
theorem dX0_init_4 : decode cX0_init 4 = .ok (.aload_n 0, 1) := by decide +kernel
theorem dX0_init_5 : decode cX0_init 5 = .ok (.bipush 16, 2) := by decide +kernel
theorem dX0_init_7 : decode cX0_init 7 = .ok (.putfield 9, 3) := by decide +kernel
theorem dX0_init_10 : decode cX0_init 10 = .ok (.aload_n 0, 1) := by decide +kernel
theorem dX0_init_11 : decode cX0_init 11 = .ok (.bipush 24, 2) := by decide +kernel
theorem dX0_init_13 : decode cX0_init 13 = .ok (.newarray .int, 2) := by decide +kernel
theorem dX0_init_15 : decode cX0_init 15 = .ok (.putfield 15, 3) := by decide +kernel
theorem dX0_init_18 : decode cX0_init 18 = .ok (.aload_n 0, 1) := by decide +kernel
theorem dX0_init_19 : decode cX0_init 19 = .ok (.bipush 24, 2) := by decide +kernel
theorem dX0_init_21 : decode cX0_init 21 = .ok (.newarray .int, 2) := by decide +kernel
theorem dX0_init_23 : decode cX0_init 23 = .ok (.putfield 19, 3) := by decide +kernel
theorem dX0_init_26 : decode cX0_init 26 = .ok (.aload_n 0, 1) := by decide +kernel
theorem dX0_init_27 : decode cX0_init 27 = .ok (.iconst 4, 1) := by decide +kernel
theorem dX0_init_28 : decode cX0_init 28 = .ok (.anewarray 22, 3) := by decide +kernel
theorem dX0_init_31 : decode cX0_init 31 = .ok (.putfield 24, 3) := by decide +kernel
theorem dX0_init_34 : decode cX0_init 34 = .ok (.aload_n 0, 1) := by decide +kernel
theorem dX0_init_35 : decode cX0_init 35 = .ok (.iconst 5, 1) := by decide +kernel
theorem dX0_init_36 : decode cX0_init 36 = .ok (.anewarray 28, 3) := by decide +kernel
theorem dX0_init_39 : decode cX0_init 39 = .ok (.putfield 30, 3) := by decide +kernel
theorem dX0_init_42 : decode cX0_init 42 = .ok (.aload_n 0, 1) := by decide +kernel
theorem dX0_init_43 : decode cX0_init 43 = .ok (.iconst 3, 1) := by decide +kernel
theorem dX0_init_44 : decode cX0_init 44 = .ok (.newarray .int, 2) := by decide +kernel
theorem dX0_init_46 : decode cX0_init 46 = .ok (.putfield 34, 3) := by decide +kernel
theorem dX0_init_49 : decode cX0_init 49 = .ok (.aload_n 0, 1) := by decide +kernel
theorem dX0_init_50 : decode cX0_init 50 = .ok (.bipush 12, 2) := by decide +kernel
theorem dX0_init_52 : decode cX0_init 52 = .ok (.anewarray 37, 3) := by decide +kernel
theorem dX0_init_55 : decode cX0_init 55 = .ok (.putfield 39, 3) := by decide +kernel
theorem dX0_init_58 : decode cX0_init 58 = .ok (.bipush 6, 2) := by decide +kernel
theorem dX0_init_60 : decode cX0_init 60 = .ok (.istore_n 1, 1) := by decide +kernel
theorem dX0_init_61 : decode cX0_init 61 = .ok (.iload_n 1, 1) := by decide +kernel
theorem dX0_init_62 : decode cX0_init 62 = .ok (.bipush 19, 2) := by decide +kernel
theorem dX0_init_64 : decode cX0_init 64 = .ok (.if_icmp .gt 17, 3) := by decide +kernel
theorem dX0_init_67 : decode cX0_init 67 = .ok (.aload_n 0, 1) := by decide +kernel
theorem dX0_init_68 : decode cX0_init 68 = .ok (.getfield 19, 3) := by decide +kernel
theorem dX0_init_71 : decode cX0_init 71 = .ok (.iload_n 1, 1) := by decide +kernel
theorem dX0_init_72 : decode cX0_init 72 = .ok (.bipush 7, 2) := by decide +kernel
theorem dX0_init_74 : decode cX0_init 74 = .ok (.iastore, 1) := by decide +kernel
theorem dX0_init_75 : decode cX0_init 75 = .ok (.iinc 1 1, 3) := by decide +kernel
theorem dX0_init_78 : decode cX0_init 78 = .ok (.goto (-17), 3) := by decide +kernel
theorem dX0_init_81 : decode cX0_init 81 = .ok (.iconst 0, 1) := by decide +kernel
theorem dX0_init_82 : decode cX0_init 82 = .ok (.istore_n 1, 1) := by decide +kernel
theorem dX0_init_83 : decode cX0_init 83 = .ok (.iload_n 1, 1) := by decide +kernel
theorem dX0_init_84 : decode cX0_init 84 = .ok (.iconst 4, 1) := by decide +kernel
theorem dX0_init_85 : decode cX0_init 85 = .ok (.if_icmp .ge 22, 3) := by decide +kernel
theorem dX0_init_88 : decode cX0_init 88 = .ok (.aload_n 0, 1) := by decide +kernel
theorem dX0_init_89 : decode cX0_init 89 = .ok (.getfield 24, 3) := by decide +kernel
theorem dX0_init_92 : decode cX0_init 92 = .ok (.iload_n 1, 1) := by decide +kernel
theorem dX0_init_93 : decode cX0_init 93 = .ok (.new 22, 3) := by decide +kernel
theorem dX0_init_96 : decode cX0_init 96 = .ok (.dup, 1) := by decide +kernel
theorem dX0_init_97 : decode cX0_init 97 = .ok (.invokespecial 43, 3) := by decide +kernel
theorem dX0_init_100 : decode cX0_init 100 = .ok (.aastore, 1) := by decide +kernel
theorem dX0_init_101 : decode cX0_init 101 = .ok (.iinc 1 1, 3) := by decide +kernel
theorem dX0_init_104 : decode cX0_init 104 = .ok (.goto (-21), 3) := by decide +kernel
theorem dX0_init_107 : decode cX0_init 107 = .ok (.iconst 0, 1) := by decide +kernel
theorem dX0_init_108 : decode cX0_init 108 = .ok (.istore_n 1, 1) := by decide +kernel
theorem dX0_init_109 : decode cX0_init 109 = .ok (.iload_n 1, 1) := by decide +kernel
theorem dX0_init_110 : decode cX0_init 110 = .ok (.iconst 5, 1) := by decide +kernel
theorem dX0_init_111 : decode cX0_init 111 = .ok (.if_icmp .ge 22, 3) := by decide +kernel
theorem dX0_init_114 : decode cX0_init 114 = .ok (.aload_n 0, 1) := by decide +kernel
theorem dX0_init_115 : decode cX0_init 115 = .ok (.getfield 30, 3) := by decide +kernel
theorem dX0_init_118 : decode cX0_init 118 = .ok (.iload_n 1, 1) := by decide +kernel
theorem dX0_init_119 : decode cX0_init 119 = .ok (.new 28, 3) := by decide +kernel
theorem dX0_init_122 : decode cX0_init 122 = .ok (.dup, 1) := by decide +kernel
theorem dX0_init_123 : decode cX0_init 123 = .ok (.invokespecial 44, 3) := by decide +kernel
theorem dX0_init_126 : decode cX0_init 126 = .ok (.aastore, 1) := by decide +kernel
theorem dX0_init_127 : decode cX0_init 127 = .ok (.iinc 1 1, 3) := by decide +kernel
theorem dX0_init_130 : decode cX0_init 130 = .ok (.goto (-21), 3) := by decide +kernel
theorem dX0_init_133 : decode cX0_init 133 = .ok (.iconst 0, 1) := by decide +kernel
theorem dX0_init_134 : decode cX0_init 134 = .ok (.istore_n 1, 1) := by decide +kernel
theorem dX0_init_135 : decode cX0_init 135 = .ok (.iload_n 1, 1) := by decide +kernel
theorem dX0_init_136 : decode cX0_init 136 = .ok (.bipush 12, 2) := by decide +kernel
theorem dX0_init_138 : decode cX0_init 138 = .ok (.if_icmp .ge 22, 3) := by decide +kernel
theorem dX0_init_141 : decode cX0_init 141 = .ok (.aload_n 0, 1) := by decide +kernel
theorem dX0_init_142 : decode cX0_init 142 = .ok (.getfield 39, 3) := by decide +kernel
theorem dX0_init_145 : decode cX0_init 145 = .ok (.iload_n 1, 1) := by decide +kernel
theorem dX0_init_146 : decode cX0_init 146 = .ok (.new 37, 3) := by decide +kernel
theorem dX0_init_149 : decode cX0_init 149 = .ok (.dup, 1) := by decide +kernel
theorem dX0_init_150 : decode cX0_init 150 = .ok (.invokespecial 45, 3) := by decide +kernel
theorem dX0_init_153 : decode cX0_init 153 = .ok (.aastore, 1) := by decide +kernel
theorem dX0_init_154 : decode cX0_init 154 = .ok (.iinc 1 1, 3) := by decide +kernel
theorem dX0_init_157 : decode cX0_init 157 = .ok (.goto (-22), 3) := by decide +kernel
theorem dX0_init_160 : decode cX0_init 160 = .ok (.return_, 1) := by decide +kernel
theorem dX0_become_0 : decode cX0_become 0 = .ok (.aload_n 0, 1) := by decide +kernel
theorem dX0_become_1 : decode cX0_become 1 = .ok (.aload_n 1, 1) := by decide +kernel
theorem dX0_become_2 : decode cX0_become 2 = .ok (.getfield 46, 3) := by decide +kernel
theorem dX0_become_5 : decode cX0_become 5 = .ok (.putfield 46, 3) := by decide +kernel
theorem dX0_become_8 : decode cX0_become 8 = .ok (.aload_n 0, 1) := by decide +kernel
theorem dX0_become_9 : decode cX0_become 9 = .ok (.aload_n 1, 1) := by decide +kernel
theorem dX0_become_10 : decode cX0_become 10 = .ok (.getfield 9, 3) := by decide +kernel
theorem dX0_become_13 : decode cX0_become 13 = .ok (.putfield 9, 3) := by decide +kernel
theorem dX0_become_16 : decode cX0_become 16 = .ok (.aload_n 1, 1) := by decide +kernel
theorem dX0_become_17 : decode cX0_become 17 = .ok (.getfield 15, 3) := by decide +kernel
theorem dX0_become_20 : decode cX0_become 20 = .ok (.iconst 0, 1) := by decide +kernel
theorem dX0_become_21 : decode cX0_become 21 = .ok (.aload_n 0, 1) := by decide +kernel
theorem dX0_become_22 : decode cX0_become 22 = .ok (.getfield 15, 3) := by decide +kernel
theorem dX0_become_25 : decode cX0_become 25 = .ok (.iconst 0, 1) := by decide +kernel
theorem dX0_become_26 : decode cX0_become 26 = .ok (.bipush 24, 2) := by decide +kernel
theorem dX0_become_28 : decode cX0_become 28 = .ok (.invokestatic 49, 3) := by decide +kernel
theorem dX0_become_31 : decode cX0_become 31 = .ok (.aload_n 1, 1) := by decide +kernel
theorem dX0_become_32 : decode cX0_become 32 = .ok (.getfield 19, 3) := by decide +kernel
theorem dX0_become_35 : decode cX0_become 35 = .ok (.iconst 0, 1) := by decide +kernel
theorem dX0_become_36 : decode cX0_become 36 = .ok (.aload_n 0, 1) := by decide +kernel
theorem dX0_become_37 : decode cX0_become 37 = .ok (.getfield 19, 3) := by decide +kernel
theorem dX0_become_40 : decode cX0_become 40 = .ok (.iconst 0, 1) := by decide +kernel
theorem dX0_become_41 : decode cX0_become 41 = .ok (.bipush 24, 2) := by decide +kernel
theorem dX0_become_43 : decode cX0_become 43 = .ok (.invokestatic 49, 3) := by decide +kernel
theorem dX0_become_46 : decode cX0_become 46 = .ok (.aload_n 0, 1) := by decide +kernel
theorem dX0_become_47 : decode cX0_become 47 = .ok (.aload_n 1, 1) := by decide +kernel
theorem dX0_become_48 : decode cX0_become 48 = .ok (.getfield 55, 3) := by decide +kernel
theorem dX0_become_51 : decode cX0_become 51 = .ok (.putfield 55, 3) := by decide +kernel
theorem dX0_become_54 : decode cX0_become 54 = .ok (.aload_n 0, 1) := by decide +kernel
theorem dX0_become_55 : decode cX0_become 55 = .ok (.aload_n 1, 1) := by decide +kernel
theorem dX0_become_56 : decode cX0_become 56 = .ok (.getfield 58, 3) := by decide +kernel
theorem dX0_become_59 : decode cX0_become 59 = .ok (.putfield 58, 3) := by decide +kernel
theorem dX0_become_62 : decode cX0_become 62 = .ok (.aload_n 0, 1) := by decide +kernel
theorem dX0_become_63 : decode cX0_become 63 = .ok (.aload_n 1, 1) := by decide +kernel
theorem dX0_become_64 : decode cX0_become 64 = .ok (.getfield 61, 3) := by decide +kernel
theorem dX0_become_67 : decode cX0_become 67 = .ok (.putfield 61, 3) := by decide +kernel
theorem dX0_become_70 : decode cX0_become 70 = .ok (.aload_n 0, 1) := by decide +kernel
theorem dX0_become_71 : decode cX0_become 71 = .ok (.aload_n 1, 1) := by decide +kernel
theorem dX0_become_72 : decode cX0_become 72 = .ok (.getfield 64, 3) := by decide +kernel
theorem dX0_become_75 : decode cX0_become 75 = .ok (.putfield 64, 3) := by decide +kernel
theorem dX0_become_78 : decode cX0_become 78 = .ok (.aload_n 1, 1) := by decide +kernel
theorem dX0_become_79 : decode cX0_become 79 = .ok (.getfield 34, 3) := by decide +kernel
theorem dX0_become_82 : decode cX0_become 82 = .ok (.iconst 0, 1) := by decide +kernel
theorem dX0_become_83 : decode cX0_become 83 = .ok (.aload_n 0, 1) := by decide +kernel
theorem dX0_become_84 : decode cX0_become 84 = .ok (.getfield 34, 3) := by decide +kernel
theorem dX0_become_87 : decode cX0_become 87 = .ok (.iconst 0, 1) := by decide +kernel
theorem dX0_become_88 : decode cX0_become 88 = .ok (.iconst 3, 1) := by decide +kernel
theorem dX0_become_89 : decode cX0_become 89 = .ok (.invokestatic 49, 3) := by decide +kernel
theorem dX0_become_92 : decode cX0_become 92 = .ok (.iconst 0, 1) := by decide +kernel
theorem dX0_become_93 : decode cX0_become 93 = .ok (.istore_n 2, 1) := by decide +kernel
theorem dX0_become_94 : decode cX0_become 94 = .ok (.iload_n 2, 1) := by decide +kernel
theorem dX0_become_95 : decode cX0_become 95 = .ok (.iconst 4, 1) := by decide +kernel
theorem dX0_become_96 : decode cX0_become 96 = .ok (.if_icmp .ge 24, 3) := by decide +kernel
theorem dX0_become_99 : decode cX0_become 99 = .ok (.aload_n 0, 1) := by decide +kernel
theorem dX0_become_100 : decode cX0_become 100 = .ok (.getfield 24, 3) := by decide +kernel
theorem dX0_become_103 : decode cX0_become 103 = .ok (.iload_n 2, 1) := by decide +kernel
theorem dX0_become_104 : decode cX0_become 104 = .ok (.aaload, 1) := by decide +kernel
theorem dX0_become_105 : decode cX0_become 105 = .ok (.aload_n 1, 1) := by decide +kernel
theorem dX0_become_106 : decode cX0_become 106 = .ok (.getfield 24, 3) := by decide +kernel
theorem dX0_become_109 : decode cX0_become 109 = .ok (.iload_n 2, 1) := by decide +kernel
theorem dX0_become_110 : decode cX0_become 110 = .ok (.aaload, 1) := by decide +kernel
theorem dX0_become_111 : decode cX0_become 111 = .ok (.invokevirtual 67, 3) := by decide +kernel
theorem dX0_become_114 : decode cX0_become 114 = .ok (.iinc 2 1, 3) := by decide +kernel
theorem dX0_become_117 : decode cX0_become 117 = .ok (.goto (-23), 3) := by decide +kernel
theorem dX0_become_120 : decode cX0_become 120 = .ok (.iconst 0, 1) := by decide +kernel
theorem dX0_become_121 : decode cX0_become 121 = .ok (.istore_n 2, 1) := by decide +kernel
theorem dX0_become_122 : decode cX0_become 122 = .ok (.iload_n 2, 1) := by decide +kernel
theorem dX0_become_123 : decode cX0_become 123 = .ok (.iconst 5, 1) := by decide +kernel
theorem dX0_become_124 : decode cX0_become 124 = .ok (.if_icmp .ge 24, 3) := by decide +kernel
theorem dX0_become_127 : decode cX0_become 127 = .ok (.aload_n 0, 1) := by decide +kernel
theorem dX0_become_128 : decode cX0_become 128 = .ok (.getfield 30, 3) := by decide +kernel
theorem dX0_become_131 : decode cX0_become 131 = .ok (.iload_n 2, 1) := by decide +kernel
theorem dX0_become_132 : decode cX0_become 132 = .ok (.aaload, 1) := by decide +kernel
theorem dX0_become_133 : decode cX0_become 133 = .ok (.aload_n 1, 1) := by decide +kernel
theorem dX0_become_134 : decode cX0_become 134 = .ok (.getfield 30, 3) := by decide +kernel
theorem dX0_become_137 : decode cX0_become 137 = .ok (.iload_n 2, 1) := by decide +kernel
theorem dX0_become_138 : decode cX0_become 138 = .ok (.aaload, 1) := by decide +kernel
theorem dX0_become_139 : decode cX0_become 139 = .ok (.invokevirtual 71, 3) := by decide +kernel
theorem dX0_become_142 : decode cX0_become 142 = .ok (.iinc 2 1, 3) := by decide +kernel
theorem dX0_become_145 : decode cX0_become 145 = .ok (.goto (-23), 3) := by decide +kernel
theorem dX0_become_148 : decode cX0_become 148 = .ok (.iconst 0, 1) := by decide +kernel
theorem dX0_become_149 : decode cX0_become 149 = .ok (.istore_n 2, 1) := by decide +kernel
theorem dX0_become_150 : decode cX0_become 150 = .ok (.iload_n 2, 1) := by decide +kernel
theorem dX0_become_151 : decode cX0_become 151 = .ok (.bipush 12, 2) := by decide +kernel
theorem dX0_become_153 : decode cX0_become 153 = .ok (.if_icmp .ge 24, 3) := by decide +kernel
theorem dX0_become_156 : decode cX0_become 156 = .ok (.aload_n 0, 1) := by decide +kernel
theorem dX0_become_157 : decode cX0_become 157 = .ok (.getfield 39, 3) := by decide +kernel
theorem dX0_become_160 : decode cX0_become 160 = .ok (.iload_n 2, 1) := by decide +kernel
theorem dX0_become_161 : decode cX0_become 161 = .ok (.aaload, 1) := by decide +kernel
theorem dX0_become_162 : decode cX0_become 162 = .ok (.aload_n 1, 1) := by decide +kernel
theorem dX0_become_163 : decode cX0_become 163 = .ok (.getfield 39, 3) := by decide +kernel
theorem dX0_become_166 : decode cX0_become 166 = .ok (.iload_n 2, 1) := by decide +kernel
theorem dX0_become_167 : decode cX0_become 167 = .ok (.aaload, 1) := by decide +kernel
theorem dX0_become_168 : decode cX0_become 168 = .ok (.invokevirtual 74, 3) := by decide +kernel
theorem dX0_become_171 : decode cX0_become 171 = .ok (.iinc 2 1, 3) := by decide +kernel
theorem dX0_become_174 : decode cX0_become 174 = .ok (.goto (-24), 3) := by decide +kernel
theorem dX0_become_177 : decode cX0_become 177 = .ok (.return_, 1) := by decide +kernel
theorem dX0_rollerOf_0 : decode cX0_rollerOf 0 = .ok (.iconst 0, 1) := by decide +kernel
theorem dX0_rollerOf_1 : decode cX0_rollerOf 1 = .ok (.istore_n 2, 1) := by decide +kernel
theorem dX0_rollerOf_2 : decode cX0_rollerOf 2 = .ok (.iload_n 2, 1) := by decide +kernel
theorem dX0_rollerOf_3 : decode cX0_rollerOf 3 = .ok (.aload_n 0, 1) := by decide +kernel
theorem dX0_rollerOf_4 : decode cX0_rollerOf 4 = .ok (.getfield 58, 3) := by decide +kernel
theorem dX0_rollerOf_7 : decode cX0_rollerOf 7 = .ok (.if_icmp .ge 36, 3) := by decide +kernel
theorem dX0_rollerOf_10 : decode cX0_rollerOf 10 = .ok (.aload_n 0, 1) := by decide +kernel
theorem dX0_rollerOf_11 : decode cX0_rollerOf 11 = .ok (.getfield 30, 3) := by decide +kernel
theorem dX0_rollerOf_14 : decode cX0_rollerOf 14 = .ok (.iload_n 2, 1) := by decide +kernel
theorem dX0_rollerOf_15 : decode cX0_rollerOf 15 = .ok (.aaload, 1) := by decide +kernel
theorem dX0_rollerOf_16 : decode cX0_rollerOf 16 = .ok (.getfield 77, 3) := by decide +kernel
theorem dX0_rollerOf_19 : decode cX0_rollerOf 19 = .ok (.ifCond .le 18, 3) := by decide +kernel
theorem dX0_rollerOf_22 : decode cX0_rollerOf 22 = .ok (.aload_n 0, 1) := by decide +kernel
theorem dX0_rollerOf_23 : decode cX0_rollerOf 23 = .ok (.getfield 30, 3) := by decide +kernel
theorem dX0_rollerOf_26 : decode cX0_rollerOf 26 = .ok (.iload_n 2, 1) := by decide +kernel
theorem dX0_rollerOf_27 : decode cX0_rollerOf 27 = .ok (.aaload, 1) := by decide +kernel
theorem dX0_rollerOf_28 : decode cX0_rollerOf 28 = .ok (.getfield 80, 3) := by decide +kernel
theorem dX0_rollerOf_31 : decode cX0_rollerOf 31 = .ok (.iload_n 1, 1) := by decide +kernel
theorem dX0_rollerOf_32 : decode cX0_rollerOf 32 = .ok (.if_icmp .ne 5, 3) := by decide +kernel
theorem dX0_rollerOf_35 : decode cX0_rollerOf 35 = .ok (.iload_n 2, 1) := by decide +kernel
theorem dX0_rollerOf_36 : decode cX0_rollerOf 36 = .ok (.ireturn, 1) := by decide +kernel
theorem dX0_rollerOf_37 : decode cX0_rollerOf 37 = .ok (.iinc 2 1, 3) := by decide +kernel
theorem dX0_rollerOf_40 : decode cX0_rollerOf 40 = .ok (.goto (-38), 3) := by decide +kernel
theorem dX0_rollerOf_43 : decode cX0_rollerOf 43 = .ok (.iconst (-1), 1) := by decide +kernel
theorem dX0_rollerOf_44 : decode cX0_rollerOf 44 = .ok (.ireturn, 1) := by decide +kernel
theorem dX0_playedOn_0 : decode cX0_playedOn 0 = .ok (.iconst 0, 1) := by decide +kernel
theorem dX0_playedOn_1 : decode cX0_playedOn 1 = .ok (.istore_n 2, 1) := by decide +kernel
theorem dX0_playedOn_2 : decode cX0_playedOn 2 = .ok (.iload_n 2, 1) := by decide +kernel
theorem dX0_playedOn_3 : decode cX0_playedOn 3 = .ok (.aload_n 0, 1) := by decide +kernel
theorem dX0_playedOn_4 : decode cX0_playedOn 4 = .ok (.getfield 64, 3) := by decide +kernel
theorem dX0_playedOn_7 : decode cX0_playedOn 7 = .ok (.if_icmp .ge 36, 3) := by decide +kernel
theorem dX0_playedOn_10 : decode cX0_playedOn 10 = .ok (.aload_n 0, 1) := by decide +kernel
theorem dX0_playedOn_11 : decode cX0_playedOn 11 = .ok (.getfield 39, 3) := by decide +kernel
theorem dX0_playedOn_14 : decode cX0_playedOn 14 = .ok (.iload_n 2, 1) := by decide +kernel
theorem dX0_playedOn_15 : decode cX0_playedOn 15 = .ok (.aaload, 1) := by decide +kernel
theorem dX0_playedOn_16 : decode cX0_playedOn 16 = .ok (.getfield 83, 3) := by decide +kernel
theorem dX0_playedOn_19 : decode cX0_playedOn 19 = .ok (.iload_n 1, 1) := by decide +kernel
theorem dX0_playedOn_20 : decode cX0_playedOn 20 = .ok (.if_icmp .ne 17, 3) := by decide +kernel
theorem dX0_playedOn_23 : decode cX0_playedOn 23 = .ok (.aload_n 0, 1) := by decide +kernel
theorem dX0_playedOn_24 : decode cX0_playedOn 24 = .ok (.getfield 39, 3) := by decide +kernel
theorem dX0_playedOn_27 : decode cX0_playedOn 27 = .ok (.iload_n 2, 1) := by decide +kernel
theorem dX0_playedOn_28 : decode cX0_playedOn 28 = .ok (.aaload, 1) := by decide +kernel
theorem dX0_playedOn_29 : decode cX0_playedOn 29 = .ok (.invokevirtual 84, 3) := by decide +kernel
theorem dX0_playedOn_32 : decode cX0_playedOn 32 = .ok (.ifCond .ne 5, 3) := by decide +kernel
theorem dX0_playedOn_35 : decode cX0_playedOn 35 = .ok (.iload_n 2, 1) := by decide +kernel
theorem dX0_playedOn_36 : decode cX0_playedOn 36 = .ok (.ireturn, 1) := by decide +kernel
theorem dX0_playedOn_37 : decode cX0_playedOn 37 = .ok (.iinc 2 1, 3) := by decide +kernel
theorem dX0_playedOn_40 : decode cX0_playedOn 40 = .ok (.goto (-38), 3) := by decide +kernel
theorem dX0_playedOn_43 : decode cX0_playedOn 43 = .ok (.iconst (-1), 1) := by decide +kernel
theorem dX0_playedOn_44 : decode cX0_playedOn 44 = .ok (.ireturn, 1) := by decide +kernel
theorem dX0_callOf_0 : decode cX0_callOf 0 = .ok (.aload_n 0, 1) := by decide +kernel
theorem dX0_callOf_1 : decode cX0_callOf 1 = .ok (.getfield 46, 3) := by decide +kernel
theorem dX0_callOf_4 : decode cX0_callOf 4 = .ok (.bipush 24, 2) := by decide +kernel
theorem dX0_callOf_6 : decode cX0_callOf 6 = .ok (.invokestatic 88, 3) := by decide +kernel
theorem dX0_callOf_9 : decode cX0_callOf 9 = .ok (.istore_n 3, 1) := by decide +kernel
theorem dX0_callOf_10 : decode cX0_callOf 10 = .ok (.aload_n 0, 1) := by decide +kernel
theorem dX0_callOf_11 : decode cX0_callOf 11 = .ok (.getfield 24, 3) := by decide +kernel
theorem dX0_callOf_14 : decode cX0_callOf 14 = .ok (.iload_n 2, 1) := by decide +kernel
theorem dX0_callOf_15 : decode cX0_callOf 15 = .ok (.aaload, 1) := by decide +kernel
theorem dX0_callOf_16 : decode cX0_callOf 16 = .ok (.getfield 94, 3) := by decide +kernel
theorem dX0_callOf_19 : decode cX0_callOf 19 = .ok (.ifCond .eq 6, 3) := by decide +kernel
theorem dX0_callOf_22 : decode cX0_callOf 22 = .ok (.bipush 6, 2) := by decide +kernel
theorem dX0_callOf_24 : decode cX0_callOf 24 = .ok (.ireturn, 1) := by decide +kernel
theorem dX0_callOf_25 : decode cX0_callOf 25 = .ok (.aload_n 0, 1) := by decide +kernel
theorem dX0_callOf_26 : decode cX0_callOf 26 = .ok (.iload_n 2, 1) := by decide +kernel
theorem dX0_callOf_27 : decode cX0_callOf 27 = .ok (.invokevirtual 98, 3) := by decide +kernel
theorem dX0_callOf_30 : decode cX0_callOf 30 = .ok (.iconst (-1), 1) := by decide +kernel
theorem dX0_callOf_31 : decode cX0_callOf 31 = .ok (.if_icmp .eq 5, 3) := by decide +kernel
theorem dX0_callOf_34 : decode cX0_callOf 34 = .ok (.iconst 5, 1) := by decide +kernel
theorem dX0_callOf_35 : decode cX0_callOf 35 = .ok (.ireturn, 1) := by decide +kernel
theorem dX0_callOf_36 : decode cX0_callOf 36 = .ok (.iload_n 3, 1) := by decide +kernel
theorem dX0_callOf_37 : decode cX0_callOf 37 = .ok (.aload_n 0, 1) := by decide +kernel
theorem dX0_callOf_38 : decode cX0_callOf 38 = .ok (.getfield 9, 3) := by decide +kernel
theorem dX0_callOf_41 : decode cX0_callOf 41 = .ok (.if_icmp .ne 5, 3) := by decide +kernel
theorem dX0_callOf_44 : decode cX0_callOf 44 = .ok (.iconst 4, 1) := by decide +kernel
theorem dX0_callOf_45 : decode cX0_callOf 45 = .ok (.ireturn, 1) := by decide +kernel
theorem dX0_callOf_46 : decode cX0_callOf 46 = .ok (.aload_n 0, 1) := by decide +kernel
theorem dX0_callOf_47 : decode cX0_callOf 47 = .ok (.getfield 15, 3) := by decide +kernel
theorem dX0_callOf_50 : decode cX0_callOf 50 = .ok (.iload_n 3, 1) := by decide +kernel
theorem dX0_callOf_51 : decode cX0_callOf 51 = .ok (.iaload, 1) := by decide +kernel
theorem dX0_callOf_52 : decode cX0_callOf 52 = .ok (.ifCond .le 5, 3) := by decide +kernel
theorem dX0_callOf_55 : decode cX0_callOf 55 = .ok (.iconst 3, 1) := by decide +kernel
theorem dX0_callOf_56 : decode cX0_callOf 56 = .ok (.ireturn, 1) := by decide +kernel
theorem dX0_callOf_57 : decode cX0_callOf 57 = .ok (.aload_n 0, 1) := by decide +kernel
theorem dX0_callOf_58 : decode cX0_callOf 58 = .ok (.getfield 19, 3) := by decide +kernel
theorem dX0_callOf_61 : decode cX0_callOf 61 = .ok (.iload_n 3, 1) := by decide +kernel
theorem dX0_callOf_62 : decode cX0_callOf 62 = .ok (.iaload, 1) := by decide +kernel
theorem dX0_callOf_63 : decode cX0_callOf 63 = .ok (.iconst 3, 1) := by decide +kernel
theorem dX0_callOf_64 : decode cX0_callOf 64 = .ok (.if_icmp .ge 5, 3) := by decide +kernel
theorem dX0_callOf_67 : decode cX0_callOf 67 = .ok (.iconst 2, 1) := by decide +kernel
theorem dX0_callOf_68 : decode cX0_callOf 68 = .ok (.ireturn, 1) := by decide +kernel
theorem dX0_callOf_69 : decode cX0_callOf 69 = .ok (.aload_n 0, 1) := by decide +kernel
theorem dX0_callOf_70 : decode cX0_callOf 70 = .ok (.getfield 24, 3) := by decide +kernel
theorem dX0_callOf_73 : decode cX0_callOf 73 = .ok (.iload_n 2, 1) := by decide +kernel
theorem dX0_callOf_74 : decode cX0_callOf 74 = .ok (.aaload, 1) := by decide +kernel
theorem dX0_callOf_75 : decode cX0_callOf 75 = .ok (.getfield 102, 3) := by decide +kernel
theorem dX0_callOf_78 : decode cX0_callOf 78 = .ok (.bipush 60, 2) := by decide +kernel
theorem dX0_callOf_80 : decode cX0_callOf 80 = .ok (.iconst 5, 1) := by decide +kernel
theorem dX0_callOf_81 : decode cX0_callOf 81 = .ok (.aload_n 0, 1) := by decide +kernel
theorem dX0_callOf_82 : decode cX0_callOf 82 = .ok (.getfield 34, 3) := by decide +kernel
theorem dX0_callOf_85 : decode cX0_callOf 85 = .ok (.iload_n 1, 1) := by decide +kernel
theorem dX0_callOf_86 : decode cX0_callOf 86 = .ok (.iaload, 1) := by decide +kernel
theorem dX0_callOf_87 : decode cX0_callOf 87 = .ok (.imul, 1) := by decide +kernel
theorem dX0_callOf_88 : decode cX0_callOf 88 = .ok (.isub, 1) := by decide +kernel
theorem dX0_callOf_89 : decode cX0_callOf 89 = .ok (.if_icmp .le 7, 3) := by decide +kernel
theorem dX0_callOf_92 : decode cX0_callOf 92 = .ok (.iconst 1, 1) := by decide +kernel
theorem dX0_callOf_93 : decode cX0_callOf 93 = .ok (.goto 4, 3) := by decide +kernel
theorem dX0_callOf_96 : decode cX0_callOf 96 = .ok (.iconst 0, 1) := by decide +kernel
theorem dX0_callOf_97 : decode cX0_callOf 97 = .ok (.ireturn, 1) := by decide +kernel
theorem dX0_pitchVerdict_0 : decode cX0_pitchVerdict 0 = .ok (.iload_n 1, 1) := by decide +kernel
theorem dX0_pitchVerdict_1 : decode cX0_pitchVerdict 1 = .ok (.aload_n 0, 1) := by decide +kernel
theorem dX0_pitchVerdict_2 : decode cX0_pitchVerdict 2 = .ok (.getfield 55, 3) := by decide +kernel
theorem dX0_pitchVerdict_5 : decode cX0_pitchVerdict 5 = .ok (.invokestatic 105, 3) := by decide +kernel
theorem dX0_pitchVerdict_8 : decode cX0_pitchVerdict 8 = .ok (.ireturn, 1) := by decide +kernel
theorem dX0_horseVerdict_0 : decode cX0_horseVerdict 0 = .ok (.iload_n 1, 1) := by decide +kernel
theorem dX0_horseVerdict_1 : decode cX0_horseVerdict 1 = .ok (.aload_n 0, 1) := by decide +kernel
theorem dX0_horseVerdict_2 : decode cX0_horseVerdict 2 = .ok (.getfield 58, 3) := by decide +kernel
theorem dX0_horseVerdict_5 : decode cX0_horseVerdict 5 = .ok (.invokestatic 105, 3) := by decide +kernel
theorem dX0_horseVerdict_8 : decode cX0_horseVerdict 8 = .ok (.ireturn, 1) := by decide +kernel
theorem dX0_umpireVerdict_0 : decode cX0_umpireVerdict 0 = .ok (.iload_n 1, 1) := by decide +kernel
theorem dX0_umpireVerdict_1 : decode cX0_umpireVerdict 1 = .ok (.aload_n 0, 1) := by decide +kernel
theorem dX0_umpireVerdict_2 : decode cX0_umpireVerdict 2 = .ok (.getfield 61, 3) := by decide +kernel
theorem dX0_umpireVerdict_5 : decode cX0_umpireVerdict 5 = .ok (.invokestatic 105, 3) := by decide +kernel
theorem dX0_umpireVerdict_8 : decode cX0_umpireVerdict 8 = .ok (.ireturn, 1) := by decide +kernel
theorem dX0_playedVerdict_0 : decode cX0_playedVerdict 0 = .ok (.iload_n 1, 1) := by decide +kernel
theorem dX0_playedVerdict_1 : decode cX0_playedVerdict 1 = .ok (.aload_n 0, 1) := by decide +kernel
theorem dX0_playedVerdict_2 : decode cX0_playedVerdict 2 = .ok (.getfield 64, 3) := by decide +kernel
theorem dX0_playedVerdict_5 : decode cX0_playedVerdict 5 = .ok (.invokestatic 105, 3) := by decide +kernel
theorem dX0_playedVerdict_8 : decode cX0_playedVerdict 8 = .ok (.ireturn, 1) := by decide +kernel
theorem dX0_callerVerdict_0 : decode cX0_callerVerdict 0 = .ok (.aload_n 0, 1) := by decide +kernel
theorem dX0_callerVerdict_1 : decode cX0_callerVerdict 1 = .ok (.iload_n 1, 1) := by decide +kernel
theorem dX0_callerVerdict_2 : decode cX0_callerVerdict 2 = .ok (.invokevirtual 108, 3) := by decide +kernel
theorem dX0_callerVerdict_5 : decode cX0_callerVerdict 5 = .ok (.istore_n 3, 1) := by decide +kernel
theorem dX0_callerVerdict_6 : decode cX0_callerVerdict 6 = .ok (.iload_n 3, 1) := by decide +kernel
theorem dX0_callerVerdict_7 : decode cX0_callerVerdict 7 = .ok (.ifCond .ne 11, 3) := by decide +kernel
theorem dX0_callerVerdict_10 : decode cX0_callerVerdict 10 = .ok (.aload_n 0, 1) := by decide +kernel
theorem dX0_callerVerdict_11 : decode cX0_callerVerdict 11 = .ok (.iload_n 2, 1) := by decide +kernel
theorem dX0_callerVerdict_12 : decode cX0_callerVerdict 12 = .ok (.invokevirtual 111, 3) := by decide +kernel
theorem dX0_callerVerdict_15 : decode cX0_callerVerdict 15 = .ok (.goto 4, 3) := by decide +kernel
theorem dX0_callerVerdict_18 : decode cX0_callerVerdict 18 = .ok (.iload_n 3, 1) := by decide +kernel
theorem dX0_callerVerdict_19 : decode cX0_callerVerdict 19 = .ok (.ireturn, 1) := by decide +kernel
theorem dX0_coverVerdict_0 : decode cX0_coverVerdict 0 = .ok (.aload_n 0, 1) := by decide +kernel
theorem dX0_coverVerdict_1 : decode cX0_coverVerdict 1 = .ok (.iload_n 1, 1) := by decide +kernel
theorem dX0_coverVerdict_2 : decode cX0_coverVerdict 2 = .ok (.invokevirtual 111, 3) := by decide +kernel
theorem dX0_coverVerdict_5 : decode cX0_coverVerdict 5 = .ok (.istore_n 3, 1) := by decide +kernel
theorem dX0_coverVerdict_6 : decode cX0_coverVerdict 6 = .ok (.iload_n 3, 1) := by decide +kernel
theorem dX0_coverVerdict_7 : decode cX0_coverVerdict 7 = .ok (.ifCond .ne 15, 3) := by decide +kernel
theorem dX0_coverVerdict_10 : decode cX0_coverVerdict 10 = .ok (.iload_n 2, 1) := by decide +kernel
theorem dX0_coverVerdict_11 : decode cX0_coverVerdict 11 = .ok (.ifCond .eq 11, 3) := by decide +kernel
theorem dX0_coverVerdict_14 : decode cX0_coverVerdict 14 = .ok (.aload_n 0, 1) := by decide +kernel
theorem dX0_coverVerdict_15 : decode cX0_coverVerdict 15 = .ok (.iload_n 1, 1) := by decide +kernel
theorem dX0_coverVerdict_16 : decode cX0_coverVerdict 16 = .ok (.invokevirtual 114, 3) := by decide +kernel
theorem dX0_coverVerdict_19 : decode cX0_coverVerdict 19 = .ok (.goto 4, 3) := by decide +kernel
theorem dX0_coverVerdict_22 : decode cX0_coverVerdict 22 = .ok (.iload_n 3, 1) := by decide +kernel
theorem dX0_coverVerdict_23 : decode cX0_coverVerdict 23 = .ok (.ireturn, 1) := by decide +kernel
theorem dX0_rollerVerdict_0 : decode cX0_rollerVerdict 0 = .ok (.aload_n 0, 1) := by decide +kernel
theorem dX0_rollerVerdict_1 : decode cX0_rollerVerdict 1 = .ok (.iload_n 1, 1) := by decide +kernel
theorem dX0_rollerVerdict_2 : decode cX0_rollerVerdict 2 = .ok (.invokevirtual 98, 3) := by decide +kernel
theorem dX0_rollerVerdict_5 : decode cX0_rollerVerdict 5 = .ok (.istore_n 2, 1) := by decide +kernel
theorem dX0_rollerVerdict_6 : decode cX0_rollerVerdict 6 = .ok (.iload_n 2, 1) := by decide +kernel
theorem dX0_rollerVerdict_7 : decode cX0_rollerVerdict 7 = .ok (.iconst (-1), 1) := by decide +kernel
theorem dX0_rollerVerdict_8 : decode cX0_rollerVerdict 8 = .ok (.if_icmp .ne 7, 3) := by decide +kernel
theorem dX0_rollerVerdict_11 : decode cX0_rollerVerdict 11 = .ok (.iconst 0, 1) := by decide +kernel
theorem dX0_rollerVerdict_12 : decode cX0_rollerVerdict 12 = .ok (.goto 8, 3) := by decide +kernel
theorem dX0_rollerVerdict_15 : decode cX0_rollerVerdict 15 = .ok (.iconst 4, 1) := by decide +kernel
theorem dX0_rollerVerdict_16 : decode cX0_rollerVerdict 16 = .ok (.iload_n 2, 1) := by decide +kernel
theorem dX0_rollerVerdict_17 : decode cX0_rollerVerdict 17 = .ok (.invokestatic 117, 3) := by decide +kernel
theorem dX0_rollerVerdict_20 : decode cX0_rollerVerdict 20 = .ok (.ireturn, 1) := by decide +kernel
theorem dX0_playVerdict_0 : decode cX0_playVerdict 0 = .ok (.aload_n 0, 1) := by decide +kernel
theorem dX0_playVerdict_1 : decode cX0_playVerdict 1 = .ok (.iload_n 1, 1) := by decide +kernel
theorem dX0_playVerdict_2 : decode cX0_playVerdict 2 = .ok (.invokevirtual 120, 3) := by decide +kernel
theorem dX0_playVerdict_5 : decode cX0_playVerdict 5 = .ok (.istore_n 2, 1) := by decide +kernel
theorem dX0_playVerdict_6 : decode cX0_playVerdict 6 = .ok (.iload_n 2, 1) := by decide +kernel
theorem dX0_playVerdict_7 : decode cX0_playVerdict 7 = .ok (.iconst (-1), 1) := by decide +kernel
theorem dX0_playVerdict_8 : decode cX0_playVerdict 8 = .ok (.if_icmp .ne 7, 3) := by decide +kernel
theorem dX0_playVerdict_11 : decode cX0_playVerdict 11 = .ok (.iconst 0, 1) := by decide +kernel
theorem dX0_playVerdict_12 : decode cX0_playVerdict 12 = .ok (.goto 8, 3) := by decide +kernel
theorem dX0_playVerdict_15 : decode cX0_playVerdict 15 = .ok (.iconst 5, 1) := by decide +kernel
theorem dX0_playVerdict_16 : decode cX0_playVerdict 16 = .ok (.iload_n 2, 1) := by decide +kernel
theorem dX0_playVerdict_17 : decode cX0_playVerdict 17 = .ok (.invokestatic 117, 3) := by decide +kernel
theorem dX0_playVerdict_20 : decode cX0_playVerdict 20 = .ok (.ireturn, 1) := by decide +kernel
theorem dX0_callVerdict_0 : decode cX0_callVerdict 0 = .ok (.aload_n 0, 1) := by decide +kernel
theorem dX0_callVerdict_1 : decode cX0_callVerdict 1 = .ok (.iload_n 1, 1) := by decide +kernel
theorem dX0_callVerdict_2 : decode cX0_callVerdict 2 = .ok (.iload_n 2, 1) := by decide +kernel
theorem dX0_callVerdict_3 : decode cX0_callVerdict 3 = .ok (.invokevirtual 123, 3) := by decide +kernel
theorem dX0_callVerdict_6 : decode cX0_callVerdict 6 = .ok (.istore_n 3, 1) := by decide +kernel
theorem dX0_callVerdict_7 : decode cX0_callVerdict 7 = .ok (.iload_n 3, 1) := by decide +kernel
theorem dX0_callVerdict_8 : decode cX0_callVerdict 8 = .ok (.ifCond .ne 7, 3) := by decide +kernel
theorem dX0_callVerdict_11 : decode cX0_callVerdict 11 = .ok (.iconst 0, 1) := by decide +kernel
theorem dX0_callVerdict_12 : decode cX0_callVerdict 12 = .ok (.goto 9, 3) := by decide +kernel
theorem dX0_callVerdict_15 : decode cX0_callVerdict 15 = .ok (.bipush 8, 2) := by decide +kernel
theorem dX0_callVerdict_17 : decode cX0_callVerdict 17 = .ok (.iload_n 3, 1) := by decide +kernel
theorem dX0_callVerdict_18 : decode cX0_callVerdict 18 = .ok (.invokestatic 117, 3) := by decide +kernel
theorem dX0_callVerdict_21 : decode cX0_callVerdict 21 = .ok (.ireturn, 1) := by decide +kernel
theorem dX0_bootsVerdict_0 : decode cX0_bootsVerdict 0 = .ok (.aload_n 0, 1) := by decide +kernel
theorem dX0_bootsVerdict_1 : decode cX0_bootsVerdict 1 = .ok (.iload_n 1, 1) := by decide +kernel
theorem dX0_bootsVerdict_2 : decode cX0_bootsVerdict 2 = .ok (.invokevirtual 126, 3) := by decide +kernel
theorem dX0_bootsVerdict_5 : decode cX0_bootsVerdict 5 = .ok (.istore_n 2, 1) := by decide +kernel
theorem dX0_bootsVerdict_6 : decode cX0_bootsVerdict 6 = .ok (.iload_n 2, 1) := by decide +kernel
theorem dX0_bootsVerdict_7 : decode cX0_bootsVerdict 7 = .ok (.ifCond .eq 5, 3) := by decide +kernel
theorem dX0_bootsVerdict_10 : decode cX0_bootsVerdict 10 = .ok (.iload_n 2, 1) := by decide +kernel
theorem dX0_bootsVerdict_11 : decode cX0_bootsVerdict 11 = .ok (.ireturn, 1) := by decide +kernel
theorem dX0_bootsVerdict_12 : decode cX0_bootsVerdict 12 = .ok (.aload_n 0, 1) := by decide +kernel
theorem dX0_bootsVerdict_13 : decode cX0_bootsVerdict 13 = .ok (.getfield 30, 3) := by decide +kernel
theorem dX0_bootsVerdict_16 : decode cX0_bootsVerdict 16 = .ok (.iload_n 1, 1) := by decide +kernel
theorem dX0_bootsVerdict_17 : decode cX0_bootsVerdict 17 = .ok (.aaload, 1) := by decide +kernel
theorem dX0_bootsVerdict_18 : decode cX0_bootsVerdict 18 = .ok (.invokevirtual 129, 3) := by decide +kernel
theorem dX0_bootsVerdict_21 : decode cX0_bootsVerdict 21 = .ok (.ifCond .eq 19, 3) := by decide +kernel
theorem dX0_bootsVerdict_24 : decode cX0_bootsVerdict 24 = .ok (.iconst 2, 1) := by decide +kernel
theorem dX0_bootsVerdict_25 : decode cX0_bootsVerdict 25 = .ok (.aload_n 0, 1) := by decide +kernel
theorem dX0_bootsVerdict_26 : decode cX0_bootsVerdict 26 = .ok (.getfield 30, 3) := by decide +kernel
theorem dX0_bootsVerdict_29 : decode cX0_bootsVerdict 29 = .ok (.iload_n 1, 1) := by decide +kernel
theorem dX0_bootsVerdict_30 : decode cX0_bootsVerdict 30 = .ok (.aaload, 1) := by decide +kernel
theorem dX0_bootsVerdict_31 : decode cX0_bootsVerdict 31 = .ok (.getfield 77, 3) := by decide +kernel
theorem dX0_bootsVerdict_34 : decode cX0_bootsVerdict 34 = .ok (.invokestatic 117, 3) := by decide +kernel
theorem dX0_bootsVerdict_37 : decode cX0_bootsVerdict 37 = .ok (.goto 4, 3) := by decide +kernel
theorem dX0_bootsVerdict_40 : decode cX0_bootsVerdict 40 = .ok (.iconst 0, 1) := by decide +kernel
theorem dX0_bootsVerdict_41 : decode cX0_bootsVerdict 41 = .ok (.ireturn, 1) := by decide +kernel
theorem dX0_rollVerdict_0 : decode cX0_rollVerdict 0 = .ok (.aload_n 0, 1) := by decide +kernel
theorem dX0_rollVerdict_1 : decode cX0_rollVerdict 1 = .ok (.iload_n 1, 1) := by decide +kernel
theorem dX0_rollVerdict_2 : decode cX0_rollVerdict 2 = .ok (.invokevirtual 126, 3) := by decide +kernel
theorem dX0_rollVerdict_5 : decode cX0_rollVerdict 5 = .ok (.ifCond .ne 11, 3) := by decide +kernel
theorem dX0_rollVerdict_8 : decode cX0_rollVerdict 8 = .ok (.aload_n 0, 1) := by decide +kernel
theorem dX0_rollVerdict_9 : decode cX0_rollVerdict 9 = .ok (.iload_n 2, 1) := by decide +kernel
theorem dX0_rollVerdict_10 : decode cX0_rollVerdict 10 = .ok (.invokevirtual 111, 3) := by decide +kernel
theorem dX0_rollVerdict_13 : decode cX0_rollVerdict 13 = .ok (.ifCond .eq 5, 3) := by decide +kernel
theorem dX0_rollVerdict_16 : decode cX0_rollVerdict 16 = .ok (.iconst (-1), 1) := by decide +kernel
theorem dX0_rollVerdict_17 : decode cX0_rollVerdict 17 = .ok (.ireturn, 1) := by decide +kernel
theorem dX0_rollVerdict_18 : decode cX0_rollVerdict 18 = .ok (.iload_n 3, 1) := by decide +kernel
theorem dX0_rollVerdict_19 : decode cX0_rollVerdict 19 = .ok (.iconst 1, 1) := by decide +kernel
theorem dX0_rollVerdict_20 : decode cX0_rollVerdict 20 = .ok (.bipush 6, 2) := by decide +kernel
theorem dX0_rollVerdict_22 : decode cX0_rollVerdict 22 = .ok (.invokestatic 132, 3) := by decide +kernel
theorem dX0_rollVerdict_25 : decode cX0_rollVerdict 25 = .ok (.ifCond .eq 6, 3) := by decide +kernel
theorem dX0_rollVerdict_28 : decode cX0_rollVerdict 28 = .ok (.bipush (-2), 2) := by decide +kernel
theorem dX0_rollVerdict_30 : decode cX0_rollVerdict 30 = .ok (.ireturn, 1) := by decide +kernel
theorem dX0_rollVerdict_31 : decode cX0_rollVerdict 31 = .ok (.aload_n 0, 1) := by decide +kernel
theorem dX0_rollVerdict_32 : decode cX0_rollVerdict 32 = .ok (.iload_n 1, 1) := by decide +kernel
theorem dX0_rollVerdict_33 : decode cX0_rollVerdict 33 = .ok (.invokevirtual 136, 3) := by decide +kernel
theorem dX0_rollVerdict_36 : decode cX0_rollVerdict 36 = .ok (.istore 4, 2) := by decide +kernel
theorem dX0_rollVerdict_38 : decode cX0_rollVerdict 38 = .ok (.iload 4, 2) := by decide +kernel
theorem dX0_rollVerdict_40 : decode cX0_rollVerdict 40 = .ok (.ifCond .ne 32, 3) := by decide +kernel
theorem dX0_rollVerdict_43 : decode cX0_rollVerdict 43 = .ok (.aload_n 0, 1) := by decide +kernel
theorem dX0_rollVerdict_44 : decode cX0_rollVerdict 44 = .ok (.getfield 30, 3) := by decide +kernel
theorem dX0_rollVerdict_47 : decode cX0_rollVerdict 47 = .ok (.iload_n 1, 1) := by decide +kernel
theorem dX0_rollVerdict_48 : decode cX0_rollVerdict 48 = .ok (.aaload, 1) := by decide +kernel
theorem dX0_rollVerdict_49 : decode cX0_rollVerdict 49 = .ok (.getfield 139, 3) := by decide +kernel
theorem dX0_rollVerdict_52 : decode cX0_rollVerdict 52 = .ok (.bipush 15, 2) := by decide +kernel
theorem dX0_rollVerdict_54 : decode cX0_rollVerdict 54 = .ok (.if_icmp .le 18, 3) := by decide +kernel
theorem dX0_rollVerdict_57 : decode cX0_rollVerdict 57 = .ok (.iconst 3, 1) := by decide +kernel
theorem dX0_rollVerdict_58 : decode cX0_rollVerdict 58 = .ok (.aload_n 0, 1) := by decide +kernel
theorem dX0_rollVerdict_59 : decode cX0_rollVerdict 59 = .ok (.getfield 30, 3) := by decide +kernel
theorem dX0_rollVerdict_62 : decode cX0_rollVerdict 62 = .ok (.iload_n 1, 1) := by decide +kernel
theorem dX0_rollVerdict_63 : decode cX0_rollVerdict 63 = .ok (.aaload, 1) := by decide +kernel
theorem dX0_rollVerdict_64 : decode cX0_rollVerdict 64 = .ok (.getfield 139, 3) := by decide +kernel
theorem dX0_rollVerdict_67 : decode cX0_rollVerdict 67 = .ok (.invokestatic 117, 3) := by decide +kernel
theorem dX0_rollVerdict_70 : decode cX0_rollVerdict 70 = .ok (.istore 4, 2) := by decide +kernel
theorem dX0_rollVerdict_72 : decode cX0_rollVerdict 72 = .ok (.iload 4, 2) := by decide +kernel
theorem dX0_rollVerdict_74 : decode cX0_rollVerdict 74 = .ok (.ifCond .ne 10, 3) := by decide +kernel
theorem dX0_rollVerdict_77 : decode cX0_rollVerdict 77 = .ok (.aload_n 0, 1) := by decide +kernel
theorem dX0_rollVerdict_78 : decode cX0_rollVerdict 78 = .ok (.iload_n 2, 1) := by decide +kernel
theorem dX0_rollVerdict_79 : decode cX0_rollVerdict 79 = .ok (.invokevirtual 114, 3) := by decide +kernel
theorem dX0_rollVerdict_82 : decode cX0_rollVerdict 82 = .ok (.istore 4, 2) := by decide +kernel
theorem dX0_rollVerdict_84 : decode cX0_rollVerdict 84 = .ok (.iload 4, 2) := by decide +kernel
theorem dX0_rollVerdict_86 : decode cX0_rollVerdict 86 = .ok (.ifCond .ne 10, 3) := by decide +kernel
theorem dX0_rollVerdict_89 : decode cX0_rollVerdict 89 = .ok (.aload_n 0, 1) := by decide +kernel
theorem dX0_rollVerdict_90 : decode cX0_rollVerdict 90 = .ok (.iload_n 2, 1) := by decide +kernel
theorem dX0_rollVerdict_91 : decode cX0_rollVerdict 91 = .ok (.invokevirtual 142, 3) := by decide +kernel
theorem dX0_rollVerdict_94 : decode cX0_rollVerdict 94 = .ok (.istore 4, 2) := by decide +kernel
theorem dX0_rollVerdict_96 : decode cX0_rollVerdict 96 = .ok (.iload 4, 2) := by decide +kernel
theorem dX0_rollVerdict_98 : decode cX0_rollVerdict 98 = .ok (.ifCond .ne 23, 3) := by decide +kernel
theorem dX0_rollVerdict_101 : decode cX0_rollVerdict 101 = .ok (.aload_n 0, 1) := by decide +kernel
theorem dX0_rollVerdict_102 : decode cX0_rollVerdict 102 = .ok (.getfield 24, 3) := by decide +kernel
theorem dX0_rollVerdict_105 : decode cX0_rollVerdict 105 = .ok (.iload_n 2, 1) := by decide +kernel
theorem dX0_rollVerdict_106 : decode cX0_rollVerdict 106 = .ok (.aaload, 1) := by decide +kernel
theorem dX0_rollVerdict_107 : decode cX0_rollVerdict 107 = .ok (.getfield 94, 3) := by decide +kernel
theorem dX0_rollVerdict_110 : decode cX0_rollVerdict 110 = .ok (.ifCond .eq 11, 3) := by decide +kernel
theorem dX0_rollVerdict_113 : decode cX0_rollVerdict 113 = .ok (.bipush 6, 2) := by decide +kernel
theorem dX0_rollVerdict_115 : decode cX0_rollVerdict 115 = .ok (.iload_n 2, 1) := by decide +kernel
theorem dX0_rollVerdict_116 : decode cX0_rollVerdict 116 = .ok (.invokestatic 117, 3) := by decide +kernel
theorem dX0_rollVerdict_119 : decode cX0_rollVerdict 119 = .ok (.istore 4, 2) := by decide +kernel
theorem dX0_rollVerdict_121 : decode cX0_rollVerdict 121 = .ok (.iload 4, 2) := by decide +kernel
theorem dX0_rollVerdict_123 : decode cX0_rollVerdict 123 = .ok (.ifCond .ne 45, 3) := by decide +kernel
theorem dX0_rollVerdict_126 : decode cX0_rollVerdict 126 = .ok (.aload_n 0, 1) := by decide +kernel
theorem dX0_rollVerdict_127 : decode cX0_rollVerdict 127 = .ok (.getfield 24, 3) := by decide +kernel
theorem dX0_rollVerdict_130 : decode cX0_rollVerdict 130 = .ok (.iload_n 2, 1) := by decide +kernel
theorem dX0_rollVerdict_131 : decode cX0_rollVerdict 131 = .ok (.aaload, 1) := by decide +kernel
theorem dX0_rollVerdict_132 : decode cX0_rollVerdict 132 = .ok (.getfield 102, 3) := by decide +kernel
theorem dX0_rollVerdict_135 : decode cX0_rollVerdict 135 = .ok (.bipush 60, 2) := by decide +kernel
theorem dX0_rollVerdict_137 : decode cX0_rollVerdict 137 = .ok (.if_icmp .le 31, 3) := by decide +kernel
theorem dX0_rollVerdict_140 : decode cX0_rollVerdict 140 = .ok (.aload_n 0, 1) := by decide +kernel
theorem dX0_rollVerdict_141 : decode cX0_rollVerdict 141 = .ok (.getfield 30, 3) := by decide +kernel
theorem dX0_rollVerdict_144 : decode cX0_rollVerdict 144 = .ok (.iload_n 1, 1) := by decide +kernel
theorem dX0_rollVerdict_145 : decode cX0_rollVerdict 145 = .ok (.aaload, 1) := by decide +kernel
theorem dX0_rollVerdict_146 : decode cX0_rollVerdict 146 = .ok (.getfield 145, 3) := by decide +kernel
theorem dX0_rollVerdict_149 : decode cX0_rollVerdict 149 = .ok (.ifCond .ne 19, 3) := by decide +kernel
theorem dX0_rollVerdict_152 : decode cX0_rollVerdict 152 = .ok (.bipush 7, 2) := by decide +kernel
theorem dX0_rollVerdict_154 : decode cX0_rollVerdict 154 = .ok (.aload_n 0, 1) := by decide +kernel
theorem dX0_rollVerdict_155 : decode cX0_rollVerdict 155 = .ok (.getfield 24, 3) := by decide +kernel
theorem dX0_rollVerdict_158 : decode cX0_rollVerdict 158 = .ok (.iload_n 2, 1) := by decide +kernel
theorem dX0_rollVerdict_159 : decode cX0_rollVerdict 159 = .ok (.aaload, 1) := by decide +kernel
theorem dX0_rollVerdict_160 : decode cX0_rollVerdict 160 = .ok (.getfield 102, 3) := by decide +kernel
theorem dX0_rollVerdict_163 : decode cX0_rollVerdict 163 = .ok (.invokestatic 117, 3) := by decide +kernel
theorem dX0_rollVerdict_166 : decode cX0_rollVerdict 166 = .ok (.istore 4, 2) := by decide +kernel
theorem dX0_rollVerdict_168 : decode cX0_rollVerdict 168 = .ok (.iload 4, 2) := by decide +kernel
theorem dX0_rollVerdict_170 : decode cX0_rollVerdict 170 = .ok (.ireturn, 1) := by decide +kernel
theorem dX0_inningsVerdict_0 : decode cX0_inningsVerdict 0 = .ok (.aload_n 0, 1) := by decide +kernel
theorem dX0_inningsVerdict_1 : decode cX0_inningsVerdict 1 = .ok (.iload_n 2, 1) := by decide +kernel
theorem dX0_inningsVerdict_2 : decode cX0_inningsVerdict 2 = .ok (.iload_n 1, 1) := by decide +kernel
theorem dX0_inningsVerdict_3 : decode cX0_inningsVerdict 3 = .ok (.invokevirtual 148, 3) := by decide +kernel
theorem dX0_inningsVerdict_6 : decode cX0_inningsVerdict 6 = .ok (.ifCond .eq 5, 3) := by decide +kernel
theorem dX0_inningsVerdict_9 : decode cX0_inningsVerdict 9 = .ok (.iconst (-1), 1) := by decide +kernel
theorem dX0_inningsVerdict_10 : decode cX0_inningsVerdict 10 = .ok (.ireturn, 1) := by decide +kernel
theorem dX0_inningsVerdict_11 : decode cX0_inningsVerdict 11 = .ok (.iload_n 3, 1) := by decide +kernel
theorem dX0_inningsVerdict_12 : decode cX0_inningsVerdict 12 = .ok (.bipush 6, 2) := by decide +kernel
theorem dX0_inningsVerdict_14 : decode cX0_inningsVerdict 14 = .ok (.bipush 120, 2) := by decide +kernel
theorem dX0_inningsVerdict_16 : decode cX0_inningsVerdict 16 = .ok (.invokestatic 132, 3) := by decide +kernel
theorem dX0_inningsVerdict_19 : decode cX0_inningsVerdict 19 = .ok (.ifCond .eq 6, 3) := by decide +kernel
theorem dX0_inningsVerdict_22 : decode cX0_inningsVerdict 22 = .ok (.bipush (-2), 2) := by decide +kernel
theorem dX0_inningsVerdict_24 : decode cX0_inningsVerdict 24 = .ok (.ireturn, 1) := by decide +kernel
theorem dX0_inningsVerdict_25 : decode cX0_inningsVerdict 25 = .ok (.aload_n 0, 1) := by decide +kernel
theorem dX0_inningsVerdict_26 : decode cX0_inningsVerdict 26 = .ok (.getfield 64, 3) := by decide +kernel
theorem dX0_inningsVerdict_29 : decode cX0_inningsVerdict 29 = .ok (.bipush 12, 2) := by decide +kernel
theorem dX0_inningsVerdict_31 : decode cX0_inningsVerdict 31 = .ok (.invokestatic 151, 3) := by decide +kernel
theorem dX0_inningsVerdict_34 : decode cX0_inningsVerdict 34 = .ok (.istore 4, 2) := by decide +kernel
theorem dX0_inningsVerdict_36 : decode cX0_inningsVerdict 36 = .ok (.iload 4, 2) := by decide +kernel
theorem dX0_inningsVerdict_38 : decode cX0_inningsVerdict 38 = .ok (.ifCond .ne 10, 3) := by decide +kernel
theorem dX0_inningsVerdict_41 : decode cX0_inningsVerdict 41 = .ok (.aload_n 0, 1) := by decide +kernel
theorem dX0_inningsVerdict_42 : decode cX0_inningsVerdict 42 = .ok (.iload_n 1, 1) := by decide +kernel
theorem dX0_inningsVerdict_43 : decode cX0_inningsVerdict 43 = .ok (.invokevirtual 142, 3) := by decide +kernel
theorem dX0_inningsVerdict_46 : decode cX0_inningsVerdict 46 = .ok (.istore 4, 2) := by decide +kernel
theorem dX0_inningsVerdict_48 : decode cX0_inningsVerdict 48 = .ok (.iload 4, 2) := by decide +kernel
theorem dX0_inningsVerdict_50 : decode cX0_inningsVerdict 50 = .ok (.ifCond .ne 12, 3) := by decide +kernel
theorem dX0_inningsVerdict_53 : decode cX0_inningsVerdict 53 = .ok (.aload_n 0, 1) := by decide +kernel
theorem dX0_inningsVerdict_54 : decode cX0_inningsVerdict 54 = .ok (.iload_n 2, 1) := by decide +kernel
theorem dX0_inningsVerdict_55 : decode cX0_inningsVerdict 55 = .ok (.iload_n 1, 1) := by decide +kernel
theorem dX0_inningsVerdict_56 : decode cX0_inningsVerdict 56 = .ok (.invokevirtual 154, 3) := by decide +kernel
theorem dX0_inningsVerdict_59 : decode cX0_inningsVerdict 59 = .ok (.goto 5, 3) := by decide +kernel
theorem dX0_inningsVerdict_62 : decode cX0_inningsVerdict 62 = .ok (.iload 4, 2) := by decide +kernel
theorem dX0_inningsVerdict_64 : decode cX0_inningsVerdict 64 = .ok (.ireturn, 1) := by decide +kernel
theorem dX0_ballsVerdict_0 : decode cX0_ballsVerdict 0 = .ok (.aload_n 0, 1) := by decide +kernel
theorem dX0_ballsVerdict_1 : decode cX0_ballsVerdict 1 = .ok (.iload_n 1, 1) := by decide +kernel
theorem dX0_ballsVerdict_2 : decode cX0_ballsVerdict 2 = .ok (.invokevirtual 157, 3) := by decide +kernel
theorem dX0_ballsVerdict_5 : decode cX0_ballsVerdict 5 = .ok (.istore_n 3, 1) := by decide +kernel
theorem dX0_ballsVerdict_6 : decode cX0_ballsVerdict 6 = .ok (.iload_n 3, 1) := by decide +kernel
theorem dX0_ballsVerdict_7 : decode cX0_ballsVerdict 7 = .ok (.ifCond .ne 13, 3) := by decide +kernel
theorem dX0_ballsVerdict_10 : decode cX0_ballsVerdict 10 = .ok (.iload_n 2, 1) := by decide +kernel
theorem dX0_ballsVerdict_11 : decode cX0_ballsVerdict 11 = .ok (.iconst 1, 1) := by decide +kernel
theorem dX0_ballsVerdict_12 : decode cX0_ballsVerdict 12 = .ok (.bipush 36, 2) := by decide +kernel
theorem dX0_ballsVerdict_14 : decode cX0_ballsVerdict 14 = .ok (.invokestatic 132, 3) := by decide +kernel
theorem dX0_ballsVerdict_17 : decode cX0_ballsVerdict 17 = .ok (.goto 4, 3) := by decide +kernel
theorem dX0_ballsVerdict_20 : decode cX0_ballsVerdict 20 = .ok (.iload_n 3, 1) := by decide +kernel
theorem dX0_ballsVerdict_21 : decode cX0_ballsVerdict 21 = .ok (.ireturn, 1) := by decide +kernel
theorem dX0_bowlVerdict_0 : decode cX0_bowlVerdict 0 = .ok (.aload_n 0, 1) := by decide +kernel
theorem dX0_bowlVerdict_1 : decode cX0_bowlVerdict 1 = .ok (.iload_n 1, 1) := by decide +kernel
theorem dX0_bowlVerdict_2 : decode cX0_bowlVerdict 2 = .ok (.iload_n 2, 1) := by decide +kernel
theorem dX0_bowlVerdict_3 : decode cX0_bowlVerdict 3 = .ok (.invokevirtual 160, 3) := by decide +kernel
theorem dX0_bowlVerdict_6 : decode cX0_bowlVerdict 6 = .ok (.istore_n 3, 1) := by decide +kernel
theorem dX0_bowlVerdict_7 : decode cX0_bowlVerdict 7 = .ok (.iload_n 3, 1) := by decide +kernel
theorem dX0_bowlVerdict_8 : decode cX0_bowlVerdict 8 = .ok (.ifCond .ne 9, 3) := by decide +kernel
theorem dX0_bowlVerdict_11 : decode cX0_bowlVerdict 11 = .ok (.aload_n 0, 1) := by decide +kernel
theorem dX0_bowlVerdict_12 : decode cX0_bowlVerdict 12 = .ok (.iload_n 1, 1) := by decide +kernel
theorem dX0_bowlVerdict_13 : decode cX0_bowlVerdict 13 = .ok (.invokevirtual 163, 3) := by decide +kernel
theorem dX0_bowlVerdict_16 : decode cX0_bowlVerdict 16 = .ok (.istore_n 3, 1) := by decide +kernel
theorem dX0_bowlVerdict_17 : decode cX0_bowlVerdict 17 = .ok (.iload_n 3, 1) := by decide +kernel
theorem dX0_bowlVerdict_18 : decode cX0_bowlVerdict 18 = .ok (.ifCond .eq 5, 3) := by decide +kernel
theorem dX0_bowlVerdict_21 : decode cX0_bowlVerdict 21 = .ok (.iload_n 3, 1) := by decide +kernel
theorem dX0_bowlVerdict_22 : decode cX0_bowlVerdict 22 = .ok (.ireturn, 1) := by decide +kernel
theorem dX0_bowlVerdict_23 : decode cX0_bowlVerdict 23 = .ok (.aload_n 0, 1) := by decide +kernel
theorem dX0_bowlVerdict_24 : decode cX0_bowlVerdict 24 = .ok (.getfield 39, 3) := by decide +kernel
theorem dX0_bowlVerdict_27 : decode cX0_bowlVerdict 27 = .ok (.iload_n 1, 1) := by decide +kernel
theorem dX0_bowlVerdict_28 : decode cX0_bowlVerdict 28 = .ok (.aaload, 1) := by decide +kernel
theorem dX0_bowlVerdict_29 : decode cX0_bowlVerdict 29 = .ok (.astore 4, 2) := by decide +kernel
theorem dX0_bowlVerdict_31 : decode cX0_bowlVerdict 31 = .ok (.aload 4, 2) := by decide +kernel
theorem dX0_bowlVerdict_33 : decode cX0_bowlVerdict 33 = .ok (.getfield 166, 3) := by decide +kernel
theorem dX0_bowlVerdict_36 : decode cX0_bowlVerdict 36 = .ok (.aload 4, 2) := by decide +kernel
theorem dX0_bowlVerdict_38 : decode cX0_bowlVerdict 38 = .ok (.getfield 169, 3) := by decide +kernel
theorem dX0_bowlVerdict_41 : decode cX0_bowlVerdict 41 = .ok (.isub, 1) := by decide +kernel
theorem dX0_bowlVerdict_42 : decode cX0_bowlVerdict 42 = .ok (.istore 5, 2) := by decide +kernel
theorem dX0_bowlVerdict_44 : decode cX0_bowlVerdict 44 = .ok (.iload 5, 2) := by decide +kernel
theorem dX0_bowlVerdict_46 : decode cX0_bowlVerdict 46 = .ok (.iload_n 2, 1) := by decide +kernel
theorem dX0_bowlVerdict_47 : decode cX0_bowlVerdict 47 = .ok (.if_icmp .ge 13, 3) := by decide +kernel
theorem dX0_bowlVerdict_50 : decode cX0_bowlVerdict 50 = .ok (.bipush 10, 2) := by decide +kernel
theorem dX0_bowlVerdict_52 : decode cX0_bowlVerdict 52 = .ok (.iload 5, 2) := by decide +kernel
theorem dX0_bowlVerdict_54 : decode cX0_bowlVerdict 54 = .ok (.invokestatic 117, 3) := by decide +kernel
theorem dX0_bowlVerdict_57 : decode cX0_bowlVerdict 57 = .ok (.goto 17, 3) := by decide +kernel
theorem dX0_bowlVerdict_60 : decode cX0_bowlVerdict 60 = .ok (.aload_n 0, 1) := by decide +kernel
theorem dX0_bowlVerdict_61 : decode cX0_bowlVerdict 61 = .ok (.aload 4, 2) := by decide +kernel
theorem dX0_bowlVerdict_63 : decode cX0_bowlVerdict 63 = .ok (.getfield 172, 3) := by decide +kernel
theorem dX0_bowlVerdict_66 : decode cX0_bowlVerdict 66 = .ok (.aload 4, 2) := by decide +kernel
theorem dX0_bowlVerdict_68 : decode cX0_bowlVerdict 68 = .ok (.getfield 83, 3) := by decide +kernel
theorem dX0_bowlVerdict_71 : decode cX0_bowlVerdict 71 = .ok (.invokevirtual 154, 3) := by decide +kernel
theorem dX0_bowlVerdict_74 : decode cX0_bowlVerdict 74 = .ok (.ireturn, 1) := by decide +kernel
theorem dX0_endVerdict_0 : decode cX0_endVerdict 0 = .ok (.aload_n 0, 1) := by decide +kernel
theorem dX0_endVerdict_1 : decode cX0_endVerdict 1 = .ok (.iload_n 1, 1) := by decide +kernel
theorem dX0_endVerdict_2 : decode cX0_endVerdict 2 = .ok (.invokevirtual 157, 3) := by decide +kernel
theorem dX0_endVerdict_5 : decode cX0_endVerdict 5 = .ok (.istore_n 2, 1) := by decide +kernel
theorem dX0_endVerdict_6 : decode cX0_endVerdict 6 = .ok (.iload_n 2, 1) := by decide +kernel
theorem dX0_endVerdict_7 : decode cX0_endVerdict 7 = .ok (.ifCond .eq 5, 3) := by decide +kernel
theorem dX0_endVerdict_10 : decode cX0_endVerdict 10 = .ok (.iload_n 2, 1) := by decide +kernel
theorem dX0_endVerdict_11 : decode cX0_endVerdict 11 = .ok (.ireturn, 1) := by decide +kernel
theorem dX0_endVerdict_12 : decode cX0_endVerdict 12 = .ok (.aload_n 0, 1) := by decide +kernel
theorem dX0_endVerdict_13 : decode cX0_endVerdict 13 = .ok (.getfield 39, 3) := by decide +kernel
theorem dX0_endVerdict_16 : decode cX0_endVerdict 16 = .ok (.iload_n 1, 1) := by decide +kernel
theorem dX0_endVerdict_17 : decode cX0_endVerdict 17 = .ok (.aaload, 1) := by decide +kernel
theorem dX0_endVerdict_18 : decode cX0_endVerdict 18 = .ok (.invokevirtual 84, 3) := by decide +kernel
theorem dX0_endVerdict_21 : decode cX0_endVerdict 21 = .ok (.ifCond .eq 12, 3) := by decide +kernel
theorem dX0_endVerdict_24 : decode cX0_endVerdict 24 = .ok (.bipush 9, 2) := by decide +kernel
theorem dX0_endVerdict_26 : decode cX0_endVerdict 26 = .ok (.iload_n 1, 1) := by decide +kernel
theorem dX0_endVerdict_27 : decode cX0_endVerdict 27 = .ok (.invokestatic 117, 3) := by decide +kernel
theorem dX0_endVerdict_30 : decode cX0_endVerdict 30 = .ok (.goto 4, 3) := by decide +kernel
theorem dX0_endVerdict_33 : decode cX0_endVerdict 33 = .ok (.iconst 0, 1) := by decide +kernel
theorem dX0_endVerdict_34 : decode cX0_endVerdict 34 = .ok (.ireturn, 1) := by decide +kernel
theorem dX0_beginRolling_0 : decode cX0_beginRolling 0 = .ok (.aload_n 0, 1) := by decide +kernel
theorem dX0_beginRolling_1 : decode cX0_beginRolling 1 = .ok (.getfield 30, 3) := by decide +kernel
theorem dX0_beginRolling_4 : decode cX0_beginRolling 4 = .ok (.iload_n 1, 1) := by decide +kernel
theorem dX0_beginRolling_5 : decode cX0_beginRolling 5 = .ok (.aaload, 1) := by decide +kernel
theorem dX0_beginRolling_6 : decode cX0_beginRolling 6 = .ok (.iload_n 2, 1) := by decide +kernel
theorem dX0_beginRolling_7 : decode cX0_beginRolling 7 = .ok (.putfield 80, 3) := by decide +kernel
theorem dX0_beginRolling_10 : decode cX0_beginRolling 10 = .ok (.aload_n 0, 1) := by decide +kernel
theorem dX0_beginRolling_11 : decode cX0_beginRolling 11 = .ok (.getfield 30, 3) := by decide +kernel
theorem dX0_beginRolling_14 : decode cX0_beginRolling 14 = .ok (.iload_n 1, 1) := by decide +kernel
theorem dX0_beginRolling_15 : decode cX0_beginRolling 15 = .ok (.aaload, 1) := by decide +kernel
theorem dX0_beginRolling_16 : decode cX0_beginRolling 16 = .ok (.iload_n 3, 1) := by decide +kernel
theorem dX0_beginRolling_17 : decode cX0_beginRolling 17 = .ok (.putfield 77, 3) := by decide +kernel
theorem dX0_beginRolling_20 : decode cX0_beginRolling 20 = .ok (.return_, 1) := by decide +kernel
theorem dX0_bowlBalls_0 : decode cX0_bowlBalls 0 = .ok (.aload_n 0, 1) := by decide +kernel
theorem dX0_bowlBalls_1 : decode cX0_bowlBalls 1 = .ok (.getfield 39, 3) := by decide +kernel
theorem dX0_bowlBalls_4 : decode cX0_bowlBalls 4 = .ok (.iload_n 1, 1) := by decide +kernel
theorem dX0_bowlBalls_5 : decode cX0_bowlBalls 5 = .ok (.aaload, 1) := by decide +kernel
theorem dX0_bowlBalls_6 : decode cX0_bowlBalls 6 = .ok (.astore_n 3, 1) := by decide +kernel
theorem dX0_bowlBalls_7 : decode cX0_bowlBalls 7 = .ok (.aload_n 3, 1) := by decide +kernel
theorem dX0_bowlBalls_8 : decode cX0_bowlBalls 8 = .ok (.getfield 175, 3) := by decide +kernel
theorem dX0_bowlBalls_11 : decode cX0_bowlBalls 11 = .ok (.istore 4, 2) := by decide +kernel
theorem dX0_bowlBalls_13 : decode cX0_bowlBalls 13 = .ok (.iconst 0, 1) := by decide +kernel
theorem dX0_bowlBalls_14 : decode cX0_bowlBalls 14 = .ok (.istore 5, 2) := by decide +kernel
theorem dX0_bowlBalls_16 : decode cX0_bowlBalls 16 = .ok (.iload 5, 2) := by decide +kernel
theorem dX0_bowlBalls_18 : decode cX0_bowlBalls 18 = .ok (.iload_n 2, 1) := by decide +kernel
theorem dX0_bowlBalls_19 : decode cX0_bowlBalls 19 = .ok (.if_icmp .ge 29, 3) := by decide +kernel
theorem dX0_bowlBalls_22 : decode cX0_bowlBalls 22 = .ok (.aload_n 3, 1) := by decide +kernel
theorem dX0_bowlBalls_23 : decode cX0_bowlBalls 23 = .ok (.invokevirtual 84, 3) := by decide +kernel
theorem dX0_bowlBalls_26 : decode cX0_bowlBalls 26 = .ok (.ifCond .ne 22, 3) := by decide +kernel
theorem dX0_bowlBalls_29 : decode cX0_bowlBalls 29 = .ok (.aload_n 3, 1) := by decide +kernel
theorem dX0_bowlBalls_30 : decode cX0_bowlBalls 30 = .ok (.aload_n 0, 1) := by decide +kernel
theorem dX0_bowlBalls_31 : decode cX0_bowlBalls 31 = .ok (.getfield 24, 3) := by decide +kernel
theorem dX0_bowlBalls_34 : decode cX0_bowlBalls 34 = .ok (.aload_n 3, 1) := by decide +kernel
theorem dX0_bowlBalls_35 : decode cX0_bowlBalls 35 = .ok (.getfield 83, 3) := by decide +kernel
theorem dX0_bowlBalls_38 : decode cX0_bowlBalls 38 = .ok (.aaload, 1) := by decide +kernel
theorem dX0_bowlBalls_39 : decode cX0_bowlBalls 39 = .ok (.invokevirtual 178, 3) := by decide +kernel
theorem dX0_bowlBalls_42 : decode cX0_bowlBalls 42 = .ok (.iinc 5 1, 3) := by decide +kernel
theorem dX0_bowlBalls_45 : decode cX0_bowlBalls 45 = .ok (.goto (-29), 3) := by decide +kernel
theorem dX0_bowlBalls_48 : decode cX0_bowlBalls 48 = .ok (.aload_n 3, 1) := by decide +kernel
theorem dX0_bowlBalls_49 : decode cX0_bowlBalls 49 = .ok (.getfield 175, 3) := by decide +kernel
theorem dX0_bowlBalls_52 : decode cX0_bowlBalls 52 = .ok (.iload 4, 2) := by decide +kernel
theorem dX0_bowlBalls_54 : decode cX0_bowlBalls 54 = .ok (.isub, 1) := by decide +kernel
theorem dX0_bowlBalls_55 : decode cX0_bowlBalls 55 = .ok (.ireturn, 1) := by decide +kernel
theorem dX0_letHoursGoBy_0 : decode cX0_letHoursGoBy 0 = .ok (.iconst 0, 1) := by decide +kernel
theorem dX0_letHoursGoBy_1 : decode cX0_letHoursGoBy 1 = .ok (.istore_n 2, 1) := by decide +kernel
theorem dX0_letHoursGoBy_2 : decode cX0_letHoursGoBy 2 = .ok (.iconst 0, 1) := by decide +kernel
theorem dX0_letHoursGoBy_3 : decode cX0_letHoursGoBy 3 = .ok (.istore_n 3, 1) := by decide +kernel
theorem dX0_letHoursGoBy_4 : decode cX0_letHoursGoBy 4 = .ok (.iload_n 3, 1) := by decide +kernel
theorem dX0_letHoursGoBy_5 : decode cX0_letHoursGoBy 5 = .ok (.iload_n 1, 1) := by decide +kernel
theorem dX0_letHoursGoBy_6 : decode cX0_letHoursGoBy 6 = .ok (.if_icmp .ge 16, 3) := by decide +kernel
theorem dX0_letHoursGoBy_9 : decode cX0_letHoursGoBy 9 = .ok (.iload_n 2, 1) := by decide +kernel
theorem dX0_letHoursGoBy_10 : decode cX0_letHoursGoBy 10 = .ok (.aload_n 0, 1) := by decide +kernel
theorem dX0_letHoursGoBy_11 : decode cX0_letHoursGoBy 11 = .ok (.invokevirtual 181, 3) := by decide +kernel
theorem dX0_letHoursGoBy_14 : decode cX0_letHoursGoBy 14 = .ok (.iadd, 1) := by decide +kernel
theorem dX0_letHoursGoBy_15 : decode cX0_letHoursGoBy 15 = .ok (.istore_n 2, 1) := by decide +kernel
theorem dX0_letHoursGoBy_16 : decode cX0_letHoursGoBy 16 = .ok (.iinc 3 1, 3) := by decide +kernel
theorem dX0_letHoursGoBy_19 : decode cX0_letHoursGoBy 19 = .ok (.goto (-15), 3) := by decide +kernel
theorem dX0_letHoursGoBy_22 : decode cX0_letHoursGoBy 22 = .ok (.iload_n 2, 1) := by decide +kernel
theorem dX0_letHoursGoBy_23 : decode cX0_letHoursGoBy 23 = .ok (.ireturn, 1) := by decide +kernel
theorem dX0_letHourGoBy_0 : decode cX0_letHourGoBy 0 = .ok (.iconst 0, 1) := by decide +kernel
theorem dX0_letHourGoBy_1 : decode cX0_letHourGoBy 1 = .ok (.istore_n 1, 1) := by decide +kernel
theorem dX0_letHourGoBy_2 : decode cX0_letHourGoBy 2 = .ok (.iconst 0, 1) := by decide +kernel
theorem dX0_letHourGoBy_3 : decode cX0_letHourGoBy 3 = .ok (.istore_n 2, 1) := by decide +kernel
theorem dX0_letHourGoBy_4 : decode cX0_letHourGoBy 4 = .ok (.iload_n 2, 1) := by decide +kernel
theorem dX0_letHourGoBy_5 : decode cX0_letHourGoBy 5 = .ok (.aload_n 0, 1) := by decide +kernel
theorem dX0_letHourGoBy_6 : decode cX0_letHourGoBy 6 = .ok (.getfield 58, 3) := by decide +kernel
theorem dX0_letHourGoBy_9 : decode cX0_letHourGoBy 9 = .ok (.if_icmp .ge 59, 3) := by decide +kernel
theorem dX0_letHourGoBy_12 : decode cX0_letHourGoBy 12 = .ok (.aload_n 0, 1) := by decide +kernel
theorem dX0_letHourGoBy_13 : decode cX0_letHourGoBy 13 = .ok (.getfield 30, 3) := by decide +kernel
theorem dX0_letHourGoBy_16 : decode cX0_letHourGoBy 16 = .ok (.iload_n 2, 1) := by decide +kernel
theorem dX0_letHourGoBy_17 : decode cX0_letHourGoBy 17 = .ok (.aaload, 1) := by decide +kernel
theorem dX0_letHourGoBy_18 : decode cX0_letHourGoBy 18 = .ok (.invokevirtual 129, 3) := by decide +kernel
theorem dX0_letHourGoBy_21 : decode cX0_letHourGoBy 21 = .ok (.ifCond .eq 32, 3) := by decide +kernel
theorem dX0_letHourGoBy_24 : decode cX0_letHourGoBy 24 = .ok (.aload_n 0, 1) := by decide +kernel
theorem dX0_letHourGoBy_25 : decode cX0_letHourGoBy 25 = .ok (.getfield 30, 3) := by decide +kernel
theorem dX0_letHourGoBy_28 : decode cX0_letHourGoBy 28 = .ok (.iload_n 2, 1) := by decide +kernel
theorem dX0_letHourGoBy_29 : decode cX0_letHourGoBy 29 = .ok (.aaload, 1) := by decide +kernel
theorem dX0_letHourGoBy_30 : decode cX0_letHourGoBy 30 = .ok (.aload_n 0, 1) := by decide +kernel
theorem dX0_letHourGoBy_31 : decode cX0_letHourGoBy 31 = .ok (.getfield 24, 3) := by decide +kernel
theorem dX0_letHourGoBy_34 : decode cX0_letHourGoBy 34 = .ok (.aload_n 0, 1) := by decide +kernel
theorem dX0_letHourGoBy_35 : decode cX0_letHourGoBy 35 = .ok (.getfield 30, 3) := by decide +kernel
theorem dX0_letHourGoBy_38 : decode cX0_letHourGoBy 38 = .ok (.iload_n 2, 1) := by decide +kernel
theorem dX0_letHourGoBy_39 : decode cX0_letHourGoBy 39 = .ok (.aaload, 1) := by decide +kernel
theorem dX0_letHourGoBy_40 : decode cX0_letHourGoBy 40 = .ok (.getfield 80, 3) := by decide +kernel
theorem dX0_letHourGoBy_43 : decode cX0_letHourGoBy 43 = .ok (.aaload, 1) := by decide +kernel
theorem dX0_letHourGoBy_44 : decode cX0_letHourGoBy 44 = .ok (.invokevirtual 185, 3) := by decide +kernel
theorem dX0_letHourGoBy_47 : decode cX0_letHourGoBy 47 = .ok (.iinc 1 1, 3) := by decide +kernel
theorem dX0_letHourGoBy_50 : decode cX0_letHourGoBy 50 = .ok (.goto 12, 3) := by decide +kernel
theorem dX0_letHourGoBy_53 : decode cX0_letHourGoBy 53 = .ok (.aload_n 0, 1) := by decide +kernel
theorem dX0_letHourGoBy_54 : decode cX0_letHourGoBy 54 = .ok (.getfield 30, 3) := by decide +kernel
theorem dX0_letHourGoBy_57 : decode cX0_letHourGoBy 57 = .ok (.iload_n 2, 1) := by decide +kernel
theorem dX0_letHourGoBy_58 : decode cX0_letHourGoBy 58 = .ok (.aaload, 1) := by decide +kernel
theorem dX0_letHourGoBy_59 : decode cX0_letHourGoBy 59 = .ok (.invokevirtual 188, 3) := by decide +kernel
theorem dX0_letHourGoBy_62 : decode cX0_letHourGoBy 62 = .ok (.iinc 2 1, 3) := by decide +kernel
theorem dX0_letHourGoBy_65 : decode cX0_letHourGoBy 65 = .ok (.goto (-61), 3) := by decide +kernel
theorem dX0_letHourGoBy_68 : decode cX0_letHourGoBy 68 = .ok (.aload_n 0, 1) := by decide +kernel
theorem dX0_letHourGoBy_69 : decode cX0_letHourGoBy 69 = .ok (.getfield 46, 3) := by decide +kernel
theorem dX0_letHourGoBy_72 : decode cX0_letHourGoBy 72 = .ok (.bipush 24, 2) := by decide +kernel
theorem dX0_letHourGoBy_74 : decode cX0_letHourGoBy 74 = .ok (.invokestatic 88, 3) := by decide +kernel
theorem dX0_letHourGoBy_77 : decode cX0_letHourGoBy 77 = .ok (.istore_n 2, 1) := by decide +kernel
theorem dX0_letHourGoBy_78 : decode cX0_letHourGoBy 78 = .ok (.iconst 0, 1) := by decide +kernel
theorem dX0_letHourGoBy_79 : decode cX0_letHourGoBy 79 = .ok (.istore_n 3, 1) := by decide +kernel
theorem dX0_letHourGoBy_80 : decode cX0_letHourGoBy 80 = .ok (.iload_n 3, 1) := by decide +kernel
theorem dX0_letHourGoBy_81 : decode cX0_letHourGoBy 81 = .ok (.aload_n 0, 1) := by decide +kernel
theorem dX0_letHourGoBy_82 : decode cX0_letHourGoBy 82 = .ok (.getfield 55, 3) := by decide +kernel
theorem dX0_letHourGoBy_85 : decode cX0_letHourGoBy 85 = .ok (.if_icmp .ge 42, 3) := by decide +kernel
theorem dX0_letHourGoBy_88 : decode cX0_letHourGoBy 88 = .ok (.aload_n 0, 1) := by decide +kernel
theorem dX0_letHourGoBy_89 : decode cX0_letHourGoBy 89 = .ok (.getfield 24, 3) := by decide +kernel
theorem dX0_letHourGoBy_92 : decode cX0_letHourGoBy 92 = .ok (.iload_n 3, 1) := by decide +kernel
theorem dX0_letHourGoBy_93 : decode cX0_letHourGoBy 93 = .ok (.aaload, 1) := by decide +kernel
theorem dX0_letHourGoBy_94 : decode cX0_letHourGoBy 94 = .ok (.getfield 94, 3) := by decide +kernel
theorem dX0_letHourGoBy_97 : decode cX0_letHourGoBy 97 = .ok (.ifCond .ne 24, 3) := by decide +kernel
theorem dX0_letHourGoBy_100 : decode cX0_letHourGoBy 100 = .ok (.aload_n 0, 1) := by decide +kernel
theorem dX0_letHourGoBy_101 : decode cX0_letHourGoBy 101 = .ok (.getfield 24, 3) := by decide +kernel
theorem dX0_letHourGoBy_104 : decode cX0_letHourGoBy 104 = .ok (.iload_n 3, 1) := by decide +kernel
theorem dX0_letHourGoBy_105 : decode cX0_letHourGoBy 105 = .ok (.aaload, 1) := by decide +kernel
theorem dX0_letHourGoBy_106 : decode cX0_letHourGoBy 106 = .ok (.aload_n 0, 1) := by decide +kernel
theorem dX0_letHourGoBy_107 : decode cX0_letHourGoBy 107 = .ok (.getfield 15, 3) := by decide +kernel
theorem dX0_letHourGoBy_110 : decode cX0_letHourGoBy 110 = .ok (.iload_n 2, 1) := by decide +kernel
theorem dX0_letHourGoBy_111 : decode cX0_letHourGoBy 111 = .ok (.iaload, 1) := by decide +kernel
theorem dX0_letHourGoBy_112 : decode cX0_letHourGoBy 112 = .ok (.aload_n 0, 1) := by decide +kernel
theorem dX0_letHourGoBy_113 : decode cX0_letHourGoBy 113 = .ok (.getfield 19, 3) := by decide +kernel
theorem dX0_letHourGoBy_116 : decode cX0_letHourGoBy 116 = .ok (.iload_n 2, 1) := by decide +kernel
theorem dX0_letHourGoBy_117 : decode cX0_letHourGoBy 117 = .ok (.iaload, 1) := by decide +kernel
theorem dX0_letHourGoBy_118 : decode cX0_letHourGoBy 118 = .ok (.invokevirtual 191, 3) := by decide +kernel
theorem dX0_letHourGoBy_121 : decode cX0_letHourGoBy 121 = .ok (.iinc 3 1, 3) := by decide +kernel
theorem dX0_letHourGoBy_124 : decode cX0_letHourGoBy 124 = .ok (.goto (-44), 3) := by decide +kernel
theorem dX0_letHourGoBy_127 : decode cX0_letHourGoBy 127 = .ok (.aload_n 0, 1) := by decide +kernel
theorem dX0_letHourGoBy_128 : decode cX0_letHourGoBy 128 = .ok (.dup, 1) := by decide +kernel
theorem dX0_letHourGoBy_129 : decode cX0_letHourGoBy 129 = .ok (.getfield 46, 3) := by decide +kernel
theorem dX0_letHourGoBy_132 : decode cX0_letHourGoBy 132 = .ok (.iconst 1, 1) := by decide +kernel
theorem dX0_letHourGoBy_133 : decode cX0_letHourGoBy 133 = .ok (.iadd, 1) := by decide +kernel
theorem dX0_letHourGoBy_134 : decode cX0_letHourGoBy 134 = .ok (.putfield 46, 3) := by decide +kernel
theorem dX0_letHourGoBy_137 : decode cX0_letHourGoBy 137 = .ok (.iload_n 1, 1) := by decide +kernel
theorem dX0_letHourGoBy_138 : decode cX0_letHourGoBy 138 = .ok (.ireturn, 1) := by decide +kernel
theorem dX0_bestRollerFor_0 : decode cX0_bestRollerFor 0 = .ok (.iconst (-1), 1) := by decide +kernel
theorem dX0_bestRollerFor_1 : decode cX0_bestRollerFor 1 = .ok (.istore_n 2, 1) := by decide +kernel
theorem dX0_bestRollerFor_2 : decode cX0_bestRollerFor 2 = .ok (.iconst 0, 1) := by decide +kernel
theorem dX0_bestRollerFor_3 : decode cX0_bestRollerFor 3 = .ok (.istore_n 3, 1) := by decide +kernel
theorem dX0_bestRollerFor_4 : decode cX0_bestRollerFor 4 = .ok (.iload_n 3, 1) := by decide +kernel
theorem dX0_bestRollerFor_5 : decode cX0_bestRollerFor 5 = .ok (.aload_n 0, 1) := by decide +kernel
theorem dX0_bestRollerFor_6 : decode cX0_bestRollerFor 6 = .ok (.getfield 58, 3) := by decide +kernel
theorem dX0_bestRollerFor_9 : decode cX0_bestRollerFor 9 = .ok (.if_icmp .ge 56, 3) := by decide +kernel
theorem dX0_bestRollerFor_12 : decode cX0_bestRollerFor 12 = .ok (.aload_n 0, 1) := by decide +kernel
theorem dX0_bestRollerFor_13 : decode cX0_bestRollerFor 13 = .ok (.iload_n 3, 1) := by decide +kernel
theorem dX0_bestRollerFor_14 : decode cX0_bestRollerFor 14 = .ok (.iload_n 1, 1) := by decide +kernel
theorem dX0_bestRollerFor_15 : decode cX0_bestRollerFor 15 = .ok (.iconst 1, 1) := by decide +kernel
theorem dX0_bestRollerFor_16 : decode cX0_bestRollerFor 16 = .ok (.invokevirtual 195, 3) := by decide +kernel
theorem dX0_bestRollerFor_19 : decode cX0_bestRollerFor 19 = .ok (.ifCond .ne 7, 3) := by decide +kernel
theorem dX0_bestRollerFor_22 : decode cX0_bestRollerFor 22 = .ok (.iconst 1, 1) := by decide +kernel
theorem dX0_bestRollerFor_23 : decode cX0_bestRollerFor 23 = .ok (.goto 4, 3) := by decide +kernel
theorem dX0_bestRollerFor_26 : decode cX0_bestRollerFor 26 = .ok (.iconst 0, 1) := by decide +kernel
theorem dX0_bestRollerFor_27 : decode cX0_bestRollerFor 27 = .ok (.istore 4, 2) := by decide +kernel
theorem dX0_bestRollerFor_29 : decode cX0_bestRollerFor 29 = .ok (.iload 4, 2) := by decide +kernel
theorem dX0_bestRollerFor_31 : decode cX0_bestRollerFor 31 = .ok (.ifCond .eq 28, 3) := by decide +kernel
theorem dX0_bestRollerFor_34 : decode cX0_bestRollerFor 34 = .ok (.iload_n 2, 1) := by decide +kernel
theorem dX0_bestRollerFor_35 : decode cX0_bestRollerFor 35 = .ok (.iconst (-1), 1) := by decide +kernel
theorem dX0_bestRollerFor_36 : decode cX0_bestRollerFor 36 = .ok (.if_icmp .eq 21, 3) := by decide +kernel
theorem dX0_bestRollerFor_39 : decode cX0_bestRollerFor 39 = .ok (.aload_n 0, 1) := by decide +kernel
theorem dX0_bestRollerFor_40 : decode cX0_bestRollerFor 40 = .ok (.getfield 30, 3) := by decide +kernel
theorem dX0_bestRollerFor_43 : decode cX0_bestRollerFor 43 = .ok (.iload_n 3, 1) := by decide +kernel
theorem dX0_bestRollerFor_44 : decode cX0_bestRollerFor 44 = .ok (.aaload, 1) := by decide +kernel
theorem dX0_bestRollerFor_45 : decode cX0_bestRollerFor 45 = .ok (.aload_n 0, 1) := by decide +kernel
theorem dX0_bestRollerFor_46 : decode cX0_bestRollerFor 46 = .ok (.getfield 30, 3) := by decide +kernel
theorem dX0_bestRollerFor_49 : decode cX0_bestRollerFor 49 = .ok (.iload_n 2, 1) := by decide +kernel
theorem dX0_bestRollerFor_50 : decode cX0_bestRollerFor 50 = .ok (.aaload, 1) := by decide +kernel
theorem dX0_bestRollerFor_51 : decode cX0_bestRollerFor 51 = .ok (.invokevirtual 198, 3) := by decide +kernel
theorem dX0_bestRollerFor_54 : decode cX0_bestRollerFor 54 = .ok (.ifCond .eq 5, 3) := by decide +kernel
theorem dX0_bestRollerFor_57 : decode cX0_bestRollerFor 57 = .ok (.iload_n 3, 1) := by decide +kernel
theorem dX0_bestRollerFor_58 : decode cX0_bestRollerFor 58 = .ok (.istore_n 2, 1) := by decide +kernel
theorem dX0_bestRollerFor_59 : decode cX0_bestRollerFor 59 = .ok (.iinc 3 1, 3) := by decide +kernel
theorem dX0_bestRollerFor_62 : decode cX0_bestRollerFor 62 = .ok (.goto (-58), 3) := by decide +kernel
theorem dX0_bestRollerFor_65 : decode cX0_bestRollerFor 65 = .ok (.iload_n 2, 1) := by decide +kernel
theorem dX0_bestRollerFor_66 : decode cX0_bestRollerFor 66 = .ok (.ireturn, 1) := by decide +kernel
theorem dX0_bestFitPitch_0 : decode cX0_bestFitPitch 0 = .ok (.iconst (-1), 1) := by decide +kernel
theorem dX0_bestFitPitch_1 : decode cX0_bestFitPitch 1 = .ok (.istore_n 2, 1) := by decide +kernel
theorem dX0_bestFitPitch_2 : decode cX0_bestFitPitch 2 = .ok (.iconst 0, 1) := by decide +kernel
theorem dX0_bestFitPitch_3 : decode cX0_bestFitPitch 3 = .ok (.istore_n 3, 1) := by decide +kernel
theorem dX0_bestFitPitch_4 : decode cX0_bestFitPitch 4 = .ok (.iconst 0, 1) := by decide +kernel
theorem dX0_bestFitPitch_5 : decode cX0_bestFitPitch 5 = .ok (.istore 4, 2) := by decide +kernel
theorem dX0_bestFitPitch_7 : decode cX0_bestFitPitch 7 = .ok (.iload 4, 2) := by decide +kernel
theorem dX0_bestFitPitch_9 : decode cX0_bestFitPitch 9 = .ok (.aload_n 0, 1) := by decide +kernel
theorem dX0_bestFitPitch_10 : decode cX0_bestFitPitch 10 = .ok (.getfield 55, 3) := by decide +kernel
theorem dX0_bestFitPitch_13 : decode cX0_bestFitPitch 13 = .ok (.if_icmp .ge 59, 3) := by decide +kernel
theorem dX0_bestFitPitch_16 : decode cX0_bestFitPitch 16 = .ok (.aload_n 0, 1) := by decide +kernel
theorem dX0_bestFitPitch_17 : decode cX0_bestFitPitch 17 = .ok (.getfield 24, 3) := by decide +kernel
theorem dX0_bestFitPitch_20 : decode cX0_bestFitPitch 20 = .ok (.iload 4, 2) := by decide +kernel
theorem dX0_bestFitPitch_22 : decode cX0_bestFitPitch 22 = .ok (.aaload, 1) := by decide +kernel
theorem dX0_bestFitPitch_23 : decode cX0_bestFitPitch 23 = .ok (.getfield 202, 3) := by decide +kernel
theorem dX0_bestFitPitch_26 : decode cX0_bestFitPitch 26 = .ok (.aload_n 0, 1) := by decide +kernel
theorem dX0_bestFitPitch_27 : decode cX0_bestFitPitch 27 = .ok (.getfield 24, 3) := by decide +kernel
theorem dX0_bestFitPitch_30 : decode cX0_bestFitPitch 30 = .ok (.iload 4, 2) := by decide +kernel
theorem dX0_bestFitPitch_32 : decode cX0_bestFitPitch 32 = .ok (.aaload, 1) := by decide +kernel
theorem dX0_bestFitPitch_33 : decode cX0_bestFitPitch 33 = .ok (.getfield 205, 3) := by decide +kernel
theorem dX0_bestFitPitch_36 : decode cX0_bestFitPitch 36 = .ok (.isub, 1) := by decide +kernel
theorem dX0_bestFitPitch_37 : decode cX0_bestFitPitch 37 = .ok (.istore 5, 2) := by decide +kernel
theorem dX0_bestFitPitch_39 : decode cX0_bestFitPitch 39 = .ok (.aload_n 0, 1) := by decide +kernel
theorem dX0_bestFitPitch_40 : decode cX0_bestFitPitch 40 = .ok (.iload_n 1, 1) := by decide +kernel
theorem dX0_bestFitPitch_41 : decode cX0_bestFitPitch 41 = .ok (.iload 4, 2) := by decide +kernel
theorem dX0_bestFitPitch_43 : decode cX0_bestFitPitch 43 = .ok (.invokevirtual 123, 3) := by decide +kernel
theorem dX0_bestFitPitch_46 : decode cX0_bestFitPitch 46 = .ok (.ifCond .ne 20, 3) := by decide +kernel
theorem dX0_bestFitPitch_49 : decode cX0_bestFitPitch 49 = .ok (.iload_n 2, 1) := by decide +kernel
theorem dX0_bestFitPitch_50 : decode cX0_bestFitPitch 50 = .ok (.iconst (-1), 1) := by decide +kernel
theorem dX0_bestFitPitch_51 : decode cX0_bestFitPitch 51 = .ok (.if_icmp .eq 9, 3) := by decide +kernel
theorem dX0_bestFitPitch_54 : decode cX0_bestFitPitch 54 = .ok (.iload 5, 2) := by decide +kernel
theorem dX0_bestFitPitch_56 : decode cX0_bestFitPitch 56 = .ok (.iload_n 3, 1) := by decide +kernel
theorem dX0_bestFitPitch_57 : decode cX0_bestFitPitch 57 = .ok (.if_icmp .le 9, 3) := by decide +kernel
theorem dX0_bestFitPitch_60 : decode cX0_bestFitPitch 60 = .ok (.iload 4, 2) := by decide +kernel
theorem dX0_bestFitPitch_62 : decode cX0_bestFitPitch 62 = .ok (.istore_n 2, 1) := by decide +kernel
theorem dX0_bestFitPitch_63 : decode cX0_bestFitPitch 63 = .ok (.iload 5, 2) := by decide +kernel
theorem dX0_bestFitPitch_65 : decode cX0_bestFitPitch 65 = .ok (.istore_n 3, 1) := by decide +kernel
theorem dX0_bestFitPitch_66 : decode cX0_bestFitPitch 66 = .ok (.iinc 4 1, 3) := by decide +kernel
theorem dX0_bestFitPitch_69 : decode cX0_bestFitPitch 69 = .ok (.goto (-62), 3) := by decide +kernel
theorem dX0_bestFitPitch_72 : decode cX0_bestFitPitch 72 = .ok (.iload_n 2, 1) := by decide +kernel
theorem dX0_bestFitPitch_73 : decode cX0_bestFitPitch 73 = .ok (.ireturn, 1) := by decide +kernel
theorem dX0_inningsAtPlace_0 : decode cX0_inningsAtPlace 0 = .ok (.iconst 0, 1) := by decide +kernel
theorem dX0_inningsAtPlace_1 : decode cX0_inningsAtPlace 1 = .ok (.istore_n 2, 1) := by decide +kernel
theorem dX0_inningsAtPlace_2 : decode cX0_inningsAtPlace 2 = .ok (.iload_n 2, 1) := by decide +kernel
theorem dX0_inningsAtPlace_3 : decode cX0_inningsAtPlace 3 = .ok (.aload_n 0, 1) := by decide +kernel
theorem dX0_inningsAtPlace_4 : decode cX0_inningsAtPlace 4 = .ok (.getfield 64, 3) := by decide +kernel
theorem dX0_inningsAtPlace_7 : decode cX0_inningsAtPlace 7 = .ok (.if_icmp .ge 20, 3) := by decide +kernel
theorem dX0_inningsAtPlace_10 : decode cX0_inningsAtPlace 10 = .ok (.aload_n 0, 1) := by decide +kernel
theorem dX0_inningsAtPlace_11 : decode cX0_inningsAtPlace 11 = .ok (.iload_n 2, 1) := by decide +kernel
theorem dX0_inningsAtPlace_12 : decode cX0_inningsAtPlace 12 = .ok (.invokevirtual 208, 3) := by decide +kernel
theorem dX0_inningsAtPlace_15 : decode cX0_inningsAtPlace 15 = .ok (.iload_n 1, 1) := by decide +kernel
theorem dX0_inningsAtPlace_16 : decode cX0_inningsAtPlace 16 = .ok (.if_icmp .ne 5, 3) := by decide +kernel
theorem dX0_inningsAtPlace_19 : decode cX0_inningsAtPlace 19 = .ok (.iload_n 2, 1) := by decide +kernel
theorem dX0_inningsAtPlace_20 : decode cX0_inningsAtPlace 20 = .ok (.ireturn, 1) := by decide +kernel
theorem dX0_inningsAtPlace_21 : decode cX0_inningsAtPlace 21 = .ok (.iinc 2 1, 3) := by decide +kernel
theorem dX0_inningsAtPlace_24 : decode cX0_inningsAtPlace 24 = .ok (.goto (-22), 3) := by decide +kernel
theorem dX0_inningsAtPlace_27 : decode cX0_inningsAtPlace 27 = .ok (.iconst (-1), 1) := by decide +kernel
theorem dX0_inningsAtPlace_28 : decode cX0_inningsAtPlace 28 = .ok (.ireturn, 1) := by decide +kernel
theorem dX0_placeOf_0 : decode cX0_placeOf 0 = .ok (.iconst 0, 1) := by decide +kernel
theorem dX0_placeOf_1 : decode cX0_placeOf 1 = .ok (.istore_n 2, 1) := by decide +kernel
theorem dX0_placeOf_2 : decode cX0_placeOf 2 = .ok (.iconst 0, 1) := by decide +kernel
theorem dX0_placeOf_3 : decode cX0_placeOf 3 = .ok (.istore_n 3, 1) := by decide +kernel
theorem dX0_placeOf_4 : decode cX0_placeOf 4 = .ok (.iload_n 3, 1) := by decide +kernel
theorem dX0_placeOf_5 : decode cX0_placeOf 5 = .ok (.aload_n 0, 1) := by decide +kernel
theorem dX0_placeOf_6 : decode cX0_placeOf 6 = .ok (.getfield 64, 3) := by decide +kernel
theorem dX0_placeOf_9 : decode cX0_placeOf 9 = .ok (.if_icmp .ge 65, 3) := by decide +kernel
theorem dX0_placeOf_12 : decode cX0_placeOf 12 = .ok (.iload_n 3, 1) := by decide +kernel
theorem dX0_placeOf_13 : decode cX0_placeOf 13 = .ok (.iload_n 1, 1) := by decide +kernel
theorem dX0_placeOf_14 : decode cX0_placeOf 14 = .ok (.if_icmp .ge 25, 3) := by decide +kernel
theorem dX0_placeOf_17 : decode cX0_placeOf 17 = .ok (.aload_n 0, 1) := by decide +kernel
theorem dX0_placeOf_18 : decode cX0_placeOf 18 = .ok (.getfield 39, 3) := by decide +kernel
theorem dX0_placeOf_21 : decode cX0_placeOf 21 = .ok (.iload_n 1, 1) := by decide +kernel
theorem dX0_placeOf_22 : decode cX0_placeOf 22 = .ok (.aaload, 1) := by decide +kernel
theorem dX0_placeOf_23 : decode cX0_placeOf 23 = .ok (.aload_n 0, 1) := by decide +kernel
theorem dX0_placeOf_24 : decode cX0_placeOf 24 = .ok (.getfield 39, 3) := by decide +kernel
theorem dX0_placeOf_27 : decode cX0_placeOf 27 = .ok (.iload_n 3, 1) := by decide +kernel
theorem dX0_placeOf_28 : decode cX0_placeOf 28 = .ok (.aaload, 1) := by decide +kernel
theorem dX0_placeOf_29 : decode cX0_placeOf 29 = .ok (.invokevirtual 211, 3) := by decide +kernel
theorem dX0_placeOf_32 : decode cX0_placeOf 32 = .ok (.ifCond .ne 7, 3) := by decide +kernel
theorem dX0_placeOf_35 : decode cX0_placeOf 35 = .ok (.iconst 1, 1) := by decide +kernel
theorem dX0_placeOf_36 : decode cX0_placeOf 36 = .ok (.goto 4, 3) := by decide +kernel
theorem dX0_placeOf_39 : decode cX0_placeOf 39 = .ok (.iconst 0, 1) := by decide +kernel
theorem dX0_placeOf_40 : decode cX0_placeOf 40 = .ok (.istore 4, 2) := by decide +kernel
theorem dX0_placeOf_42 : decode cX0_placeOf 42 = .ok (.iload 4, 2) := by decide +kernel
theorem dX0_placeOf_44 : decode cX0_placeOf 44 = .ok (.ifCond .ne 21, 3) := by decide +kernel
theorem dX0_placeOf_47 : decode cX0_placeOf 47 = .ok (.aload_n 0, 1) := by decide +kernel
theorem dX0_placeOf_48 : decode cX0_placeOf 48 = .ok (.getfield 39, 3) := by decide +kernel
theorem dX0_placeOf_51 : decode cX0_placeOf 51 = .ok (.iload_n 3, 1) := by decide +kernel
theorem dX0_placeOf_52 : decode cX0_placeOf 52 = .ok (.aaload, 1) := by decide +kernel
theorem dX0_placeOf_53 : decode cX0_placeOf 53 = .ok (.aload_n 0, 1) := by decide +kernel
theorem dX0_placeOf_54 : decode cX0_placeOf 54 = .ok (.getfield 39, 3) := by decide +kernel
theorem dX0_placeOf_57 : decode cX0_placeOf 57 = .ok (.iload_n 1, 1) := by decide +kernel
theorem dX0_placeOf_58 : decode cX0_placeOf 58 = .ok (.aaload, 1) := by decide +kernel
theorem dX0_placeOf_59 : decode cX0_placeOf 59 = .ok (.invokevirtual 211, 3) := by decide +kernel
theorem dX0_placeOf_62 : decode cX0_placeOf 62 = .ok (.ifCond .eq 6, 3) := by decide +kernel
theorem dX0_placeOf_65 : decode cX0_placeOf 65 = .ok (.iinc 2 1, 3) := by decide +kernel
theorem dX0_placeOf_68 : decode cX0_placeOf 68 = .ok (.iinc 3 1, 3) := by decide +kernel
theorem dX0_placeOf_71 : decode cX0_placeOf 71 = .ok (.goto (-67), 3) := by decide +kernel
theorem dX0_placeOf_74 : decode cX0_placeOf 74 = .ok (.iload_n 2, 1) := by decide +kernel
theorem dX0_placeOf_75 : decode cX0_placeOf 75 = .ok (.ireturn, 1) := by decide +kernel
theorem dX0_coveredPitches_0 : decode cX0_coveredPitches 0 = .ok (.iconst 0, 1) := by decide +kernel
theorem dX0_coveredPitches_1 : decode cX0_coveredPitches 1 = .ok (.istore_n 1, 1) := by decide +kernel
theorem dX0_coveredPitches_2 : decode cX0_coveredPitches 2 = .ok (.iconst 0, 1) := by decide +kernel
theorem dX0_coveredPitches_3 : decode cX0_coveredPitches 3 = .ok (.istore_n 2, 1) := by decide +kernel
theorem dX0_coveredPitches_4 : decode cX0_coveredPitches 4 = .ok (.iload_n 2, 1) := by decide +kernel
theorem dX0_coveredPitches_5 : decode cX0_coveredPitches 5 = .ok (.aload_n 0, 1) := by decide +kernel
theorem dX0_coveredPitches_6 : decode cX0_coveredPitches 6 = .ok (.getfield 55, 3) := by decide +kernel
theorem dX0_coveredPitches_9 : decode cX0_coveredPitches 9 = .ok (.if_icmp .ge 29, 3) := by decide +kernel
theorem dX0_coveredPitches_12 : decode cX0_coveredPitches 12 = .ok (.iload_n 1, 1) := by decide +kernel
theorem dX0_coveredPitches_13 : decode cX0_coveredPitches 13 = .ok (.aload_n 0, 1) := by decide +kernel
theorem dX0_coveredPitches_14 : decode cX0_coveredPitches 14 = .ok (.getfield 24, 3) := by decide +kernel
theorem dX0_coveredPitches_17 : decode cX0_coveredPitches 17 = .ok (.iload_n 2, 1) := by decide +kernel
theorem dX0_coveredPitches_18 : decode cX0_coveredPitches 18 = .ok (.aaload, 1) := by decide +kernel
theorem dX0_coveredPitches_19 : decode cX0_coveredPitches 19 = .ok (.getfield 94, 3) := by decide +kernel
theorem dX0_coveredPitches_22 : decode cX0_coveredPitches 22 = .ok (.ifCond .eq 7, 3) := by decide +kernel
theorem dX0_coveredPitches_25 : decode cX0_coveredPitches 25 = .ok (.iconst 1, 1) := by decide +kernel
theorem dX0_coveredPitches_26 : decode cX0_coveredPitches 26 = .ok (.goto 4, 3) := by decide +kernel
theorem dX0_coveredPitches_29 : decode cX0_coveredPitches 29 = .ok (.iconst 0, 1) := by decide +kernel
theorem dX0_coveredPitches_30 : decode cX0_coveredPitches 30 = .ok (.iadd, 1) := by decide +kernel
theorem dX0_coveredPitches_31 : decode cX0_coveredPitches 31 = .ok (.istore_n 1, 1) := by decide +kernel
theorem dX0_coveredPitches_32 : decode cX0_coveredPitches 32 = .ok (.iinc 2 1, 3) := by decide +kernel
theorem dX0_coveredPitches_35 : decode cX0_coveredPitches 35 = .ok (.goto (-31), 3) := by decide +kernel
theorem dX0_coveredPitches_38 : decode cX0_coveredPitches 38 = .ok (.iload_n 1, 1) := by decide +kernel
theorem dX0_coveredPitches_39 : decode cX0_coveredPitches 39 = .ok (.ireturn, 1) := by decide +kernel
theorem dX0_wetnessOfPitches_0 : decode cX0_wetnessOfPitches 0 = .ok (.iconst 0, 1) := by decide +kernel
theorem dX0_wetnessOfPitches_1 : decode cX0_wetnessOfPitches 1 = .ok (.istore_n 1, 1) := by decide +kernel
theorem dX0_wetnessOfPitches_2 : decode cX0_wetnessOfPitches 2 = .ok (.iconst 0, 1) := by decide +kernel
theorem dX0_wetnessOfPitches_3 : decode cX0_wetnessOfPitches 3 = .ok (.istore_n 2, 1) := by decide +kernel
theorem dX0_wetnessOfPitches_4 : decode cX0_wetnessOfPitches 4 = .ok (.iload_n 2, 1) := by decide +kernel
theorem dX0_wetnessOfPitches_5 : decode cX0_wetnessOfPitches 5 = .ok (.aload_n 0, 1) := by decide +kernel
theorem dX0_wetnessOfPitches_6 : decode cX0_wetnessOfPitches 6 = .ok (.getfield 55, 3) := by decide +kernel
theorem dX0_wetnessOfPitches_9 : decode cX0_wetnessOfPitches 9 = .ok (.if_icmp .ge 21, 3) := by decide +kernel
theorem dX0_wetnessOfPitches_12 : decode cX0_wetnessOfPitches 12 = .ok (.iload_n 1, 1) := by decide +kernel
theorem dX0_wetnessOfPitches_13 : decode cX0_wetnessOfPitches 13 = .ok (.aload_n 0, 1) := by decide +kernel
theorem dX0_wetnessOfPitches_14 : decode cX0_wetnessOfPitches 14 = .ok (.getfield 24, 3) := by decide +kernel
theorem dX0_wetnessOfPitches_17 : decode cX0_wetnessOfPitches 17 = .ok (.iload_n 2, 1) := by decide +kernel
theorem dX0_wetnessOfPitches_18 : decode cX0_wetnessOfPitches 18 = .ok (.aaload, 1) := by decide +kernel
theorem dX0_wetnessOfPitches_19 : decode cX0_wetnessOfPitches 19 = .ok (.getfield 102, 3) := by decide +kernel
theorem dX0_wetnessOfPitches_22 : decode cX0_wetnessOfPitches 22 = .ok (.iadd, 1) := by decide +kernel
theorem dX0_wetnessOfPitches_23 : decode cX0_wetnessOfPitches 23 = .ok (.istore_n 1, 1) := by decide +kernel
theorem dX0_wetnessOfPitches_24 : decode cX0_wetnessOfPitches 24 = .ok (.iinc 2 1, 3) := by decide +kernel
theorem dX0_wetnessOfPitches_27 : decode cX0_wetnessOfPitches 27 = .ok (.goto (-23), 3) := by decide +kernel
theorem dX0_wetnessOfPitches_30 : decode cX0_wetnessOfPitches 30 = .ok (.iload_n 1, 1) := by decide +kernel
theorem dX0_wetnessOfPitches_31 : decode cX0_wetnessOfPitches 31 = .ok (.ireturn, 1) := by decide +kernel
theorem dX0_rollingHorses_0 : decode cX0_rollingHorses 0 = .ok (.iconst 0, 1) := by decide +kernel
theorem dX0_rollingHorses_1 : decode cX0_rollingHorses 1 = .ok (.istore_n 1, 1) := by decide +kernel
theorem dX0_rollingHorses_2 : decode cX0_rollingHorses 2 = .ok (.iconst 0, 1) := by decide +kernel
theorem dX0_rollingHorses_3 : decode cX0_rollingHorses 3 = .ok (.istore_n 2, 1) := by decide +kernel
theorem dX0_rollingHorses_4 : decode cX0_rollingHorses 4 = .ok (.iload_n 2, 1) := by decide +kernel
theorem dX0_rollingHorses_5 : decode cX0_rollingHorses 5 = .ok (.aload_n 0, 1) := by decide +kernel
theorem dX0_rollingHorses_6 : decode cX0_rollingHorses 6 = .ok (.getfield 58, 3) := by decide +kernel
theorem dX0_rollingHorses_9 : decode cX0_rollingHorses 9 = .ok (.if_icmp .ge 29, 3) := by decide +kernel
theorem dX0_rollingHorses_12 : decode cX0_rollingHorses 12 = .ok (.iload_n 1, 1) := by decide +kernel
theorem dX0_rollingHorses_13 : decode cX0_rollingHorses 13 = .ok (.aload_n 0, 1) := by decide +kernel
theorem dX0_rollingHorses_14 : decode cX0_rollingHorses 14 = .ok (.getfield 30, 3) := by decide +kernel
theorem dX0_rollingHorses_17 : decode cX0_rollingHorses 17 = .ok (.iload_n 2, 1) := by decide +kernel
theorem dX0_rollingHorses_18 : decode cX0_rollingHorses 18 = .ok (.aaload, 1) := by decide +kernel
theorem dX0_rollingHorses_19 : decode cX0_rollingHorses 19 = .ok (.invokevirtual 129, 3) := by decide +kernel
theorem dX0_rollingHorses_22 : decode cX0_rollingHorses 22 = .ok (.ifCond .eq 7, 3) := by decide +kernel
theorem dX0_rollingHorses_25 : decode cX0_rollingHorses 25 = .ok (.iconst 1, 1) := by decide +kernel
theorem dX0_rollingHorses_26 : decode cX0_rollingHorses 26 = .ok (.goto 4, 3) := by decide +kernel
theorem dX0_rollingHorses_29 : decode cX0_rollingHorses 29 = .ok (.iconst 0, 1) := by decide +kernel
theorem dX0_rollingHorses_30 : decode cX0_rollingHorses 30 = .ok (.iadd, 1) := by decide +kernel
theorem dX0_rollingHorses_31 : decode cX0_rollingHorses 31 = .ok (.istore_n 1, 1) := by decide +kernel
theorem dX0_rollingHorses_32 : decode cX0_rollingHorses 32 = .ok (.iinc 2 1, 3) := by decide +kernel
theorem dX0_rollingHorses_35 : decode cX0_rollingHorses 35 = .ok (.goto (-31), 3) := by decide +kernel
theorem dX0_rollingHorses_38 : decode cX0_rollingHorses 38 = .ok (.iload_n 1, 1) := by decide +kernel
theorem dX0_rollingHorses_39 : decode cX0_rollingHorses 39 = .ok (.ireturn, 1) := by decide +kernel
theorem dX0_bootedHorses_0 : decode cX0_bootedHorses 0 = .ok (.iconst 0, 1) := by decide +kernel
theorem dX0_bootedHorses_1 : decode cX0_bootedHorses 1 = .ok (.istore_n 1, 1) := by decide +kernel
theorem dX0_bootedHorses_2 : decode cX0_bootedHorses 2 = .ok (.iconst 0, 1) := by decide +kernel
theorem dX0_bootedHorses_3 : decode cX0_bootedHorses 3 = .ok (.istore_n 2, 1) := by decide +kernel
theorem dX0_bootedHorses_4 : decode cX0_bootedHorses 4 = .ok (.iload_n 2, 1) := by decide +kernel
theorem dX0_bootedHorses_5 : decode cX0_bootedHorses 5 = .ok (.aload_n 0, 1) := by decide +kernel
theorem dX0_bootedHorses_6 : decode cX0_bootedHorses 6 = .ok (.getfield 58, 3) := by decide +kernel
theorem dX0_bootedHorses_9 : decode cX0_bootedHorses 9 = .ok (.if_icmp .ge 29, 3) := by decide +kernel
theorem dX0_bootedHorses_12 : decode cX0_bootedHorses 12 = .ok (.iload_n 1, 1) := by decide +kernel
theorem dX0_bootedHorses_13 : decode cX0_bootedHorses 13 = .ok (.aload_n 0, 1) := by decide +kernel
theorem dX0_bootedHorses_14 : decode cX0_bootedHorses 14 = .ok (.getfield 30, 3) := by decide +kernel
theorem dX0_bootedHorses_17 : decode cX0_bootedHorses 17 = .ok (.iload_n 2, 1) := by decide +kernel
theorem dX0_bootedHorses_18 : decode cX0_bootedHorses 18 = .ok (.aaload, 1) := by decide +kernel
theorem dX0_bootedHorses_19 : decode cX0_bootedHorses 19 = .ok (.getfield 145, 3) := by decide +kernel
theorem dX0_bootedHorses_22 : decode cX0_bootedHorses 22 = .ok (.ifCond .eq 7, 3) := by decide +kernel
theorem dX0_bootedHorses_25 : decode cX0_bootedHorses 25 = .ok (.iconst 1, 1) := by decide +kernel
theorem dX0_bootedHorses_26 : decode cX0_bootedHorses 26 = .ok (.goto 4, 3) := by decide +kernel
theorem dX0_bootedHorses_29 : decode cX0_bootedHorses 29 = .ok (.iconst 0, 1) := by decide +kernel
theorem dX0_bootedHorses_30 : decode cX0_bootedHorses 30 = .ok (.iadd, 1) := by decide +kernel
theorem dX0_bootedHorses_31 : decode cX0_bootedHorses 31 = .ok (.istore_n 1, 1) := by decide +kernel
theorem dX0_bootedHorses_32 : decode cX0_bootedHorses 32 = .ok (.iinc 2 1, 3) := by decide +kernel
theorem dX0_bootedHorses_35 : decode cX0_bootedHorses 35 = .ok (.goto (-31), 3) := by decide +kernel
theorem dX0_bootedHorses_38 : decode cX0_bootedHorses 38 = .ok (.iload_n 1, 1) := by decide +kernel
theorem dX0_bootedHorses_39 : decode cX0_bootedHorses 39 = .ok (.ireturn, 1) := by decide +kernel
theorem dX0_hoursOfHorses_0 : decode cX0_hoursOfHorses 0 = .ok (.iconst 0, 1) := by decide +kernel
theorem dX0_hoursOfHorses_1 : decode cX0_hoursOfHorses 1 = .ok (.istore_n 1, 1) := by decide +kernel
theorem dX0_hoursOfHorses_2 : decode cX0_hoursOfHorses 2 = .ok (.iconst 0, 1) := by decide +kernel
theorem dX0_hoursOfHorses_3 : decode cX0_hoursOfHorses 3 = .ok (.istore_n 2, 1) := by decide +kernel
theorem dX0_hoursOfHorses_4 : decode cX0_hoursOfHorses 4 = .ok (.iload_n 2, 1) := by decide +kernel
theorem dX0_hoursOfHorses_5 : decode cX0_hoursOfHorses 5 = .ok (.aload_n 0, 1) := by decide +kernel
theorem dX0_hoursOfHorses_6 : decode cX0_hoursOfHorses 6 = .ok (.getfield 58, 3) := by decide +kernel
theorem dX0_hoursOfHorses_9 : decode cX0_hoursOfHorses 9 = .ok (.if_icmp .ge 21, 3) := by decide +kernel
theorem dX0_hoursOfHorses_12 : decode cX0_hoursOfHorses 12 = .ok (.iload_n 1, 1) := by decide +kernel
theorem dX0_hoursOfHorses_13 : decode cX0_hoursOfHorses 13 = .ok (.aload_n 0, 1) := by decide +kernel
theorem dX0_hoursOfHorses_14 : decode cX0_hoursOfHorses 14 = .ok (.getfield 30, 3) := by decide +kernel
theorem dX0_hoursOfHorses_17 : decode cX0_hoursOfHorses 17 = .ok (.iload_n 2, 1) := by decide +kernel
theorem dX0_hoursOfHorses_18 : decode cX0_hoursOfHorses 18 = .ok (.aaload, 1) := by decide +kernel
theorem dX0_hoursOfHorses_19 : decode cX0_hoursOfHorses 19 = .ok (.getfield 215, 3) := by decide +kernel
theorem dX0_hoursOfHorses_22 : decode cX0_hoursOfHorses 22 = .ok (.iadd, 1) := by decide +kernel
theorem dX0_hoursOfHorses_23 : decode cX0_hoursOfHorses 23 = .ok (.istore_n 1, 1) := by decide +kernel
theorem dX0_hoursOfHorses_24 : decode cX0_hoursOfHorses 24 = .ok (.iinc 2 1, 3) := by decide +kernel
theorem dX0_hoursOfHorses_27 : decode cX0_hoursOfHorses 27 = .ok (.goto (-23), 3) := by decide +kernel
theorem dX0_hoursOfHorses_30 : decode cX0_hoursOfHorses 30 = .ok (.iload_n 1, 1) := by decide +kernel
theorem dX0_hoursOfHorses_31 : decode cX0_hoursOfHorses 31 = .ok (.ireturn, 1) := by decide +kernel
theorem dX0_inningsOver_0 : decode cX0_inningsOver 0 = .ok (.iconst 0, 1) := by decide +kernel
theorem dX0_inningsOver_1 : decode cX0_inningsOver 1 = .ok (.istore_n 1, 1) := by decide +kernel
theorem dX0_inningsOver_2 : decode cX0_inningsOver 2 = .ok (.iconst 0, 1) := by decide +kernel
theorem dX0_inningsOver_3 : decode cX0_inningsOver 3 = .ok (.istore_n 2, 1) := by decide +kernel
theorem dX0_inningsOver_4 : decode cX0_inningsOver 4 = .ok (.iload_n 2, 1) := by decide +kernel
theorem dX0_inningsOver_5 : decode cX0_inningsOver 5 = .ok (.aload_n 0, 1) := by decide +kernel
theorem dX0_inningsOver_6 : decode cX0_inningsOver 6 = .ok (.getfield 64, 3) := by decide +kernel
theorem dX0_inningsOver_9 : decode cX0_inningsOver 9 = .ok (.if_icmp .ge 29, 3) := by decide +kernel
theorem dX0_inningsOver_12 : decode cX0_inningsOver 12 = .ok (.iload_n 1, 1) := by decide +kernel
theorem dX0_inningsOver_13 : decode cX0_inningsOver 13 = .ok (.aload_n 0, 1) := by decide +kernel
theorem dX0_inningsOver_14 : decode cX0_inningsOver 14 = .ok (.getfield 39, 3) := by decide +kernel
theorem dX0_inningsOver_17 : decode cX0_inningsOver 17 = .ok (.iload_n 2, 1) := by decide +kernel
theorem dX0_inningsOver_18 : decode cX0_inningsOver 18 = .ok (.aaload, 1) := by decide +kernel
theorem dX0_inningsOver_19 : decode cX0_inningsOver 19 = .ok (.invokevirtual 84, 3) := by decide +kernel
theorem dX0_inningsOver_22 : decode cX0_inningsOver 22 = .ok (.ifCond .eq 7, 3) := by decide +kernel
theorem dX0_inningsOver_25 : decode cX0_inningsOver 25 = .ok (.iconst 1, 1) := by decide +kernel
theorem dX0_inningsOver_26 : decode cX0_inningsOver 26 = .ok (.goto 4, 3) := by decide +kernel
theorem dX0_inningsOver_29 : decode cX0_inningsOver 29 = .ok (.iconst 0, 1) := by decide +kernel
theorem dX0_inningsOver_30 : decode cX0_inningsOver 30 = .ok (.iadd, 1) := by decide +kernel
theorem dX0_inningsOver_31 : decode cX0_inningsOver 31 = .ok (.istore_n 1, 1) := by decide +kernel
theorem dX0_inningsOver_32 : decode cX0_inningsOver 32 = .ok (.iinc 2 1, 3) := by decide +kernel
theorem dX0_inningsOver_35 : decode cX0_inningsOver 35 = .ok (.goto (-31), 3) := by decide +kernel
theorem dX0_inningsOver_38 : decode cX0_inningsOver 38 = .ok (.iload_n 1, 1) := by decide +kernel
theorem dX0_inningsOver_39 : decode cX0_inningsOver 39 = .ok (.ireturn, 1) := by decide +kernel
theorem dX0_ballsInInnings_0 : decode cX0_ballsInInnings 0 = .ok (.iconst 0, 1) := by decide +kernel
theorem dX0_ballsInInnings_1 : decode cX0_ballsInInnings 1 = .ok (.istore_n 1, 1) := by decide +kernel
theorem dX0_ballsInInnings_2 : decode cX0_ballsInInnings 2 = .ok (.iconst 0, 1) := by decide +kernel
theorem dX0_ballsInInnings_3 : decode cX0_ballsInInnings 3 = .ok (.istore_n 2, 1) := by decide +kernel
theorem dX0_ballsInInnings_4 : decode cX0_ballsInInnings 4 = .ok (.iload_n 2, 1) := by decide +kernel
theorem dX0_ballsInInnings_5 : decode cX0_ballsInInnings 5 = .ok (.aload_n 0, 1) := by decide +kernel
theorem dX0_ballsInInnings_6 : decode cX0_ballsInInnings 6 = .ok (.getfield 64, 3) := by decide +kernel
theorem dX0_ballsInInnings_9 : decode cX0_ballsInInnings 9 = .ok (.if_icmp .ge 21, 3) := by decide +kernel
theorem dX0_ballsInInnings_12 : decode cX0_ballsInInnings 12 = .ok (.iload_n 1, 1) := by decide +kernel
theorem dX0_ballsInInnings_13 : decode cX0_ballsInInnings 13 = .ok (.aload_n 0, 1) := by decide +kernel
theorem dX0_ballsInInnings_14 : decode cX0_ballsInInnings 14 = .ok (.getfield 39, 3) := by decide +kernel
theorem dX0_ballsInInnings_17 : decode cX0_ballsInInnings 17 = .ok (.iload_n 2, 1) := by decide +kernel
theorem dX0_ballsInInnings_18 : decode cX0_ballsInInnings 18 = .ok (.aaload, 1) := by decide +kernel
theorem dX0_ballsInInnings_19 : decode cX0_ballsInInnings 19 = .ok (.getfield 169, 3) := by decide +kernel
theorem dX0_ballsInInnings_22 : decode cX0_ballsInInnings 22 = .ok (.iadd, 1) := by decide +kernel
theorem dX0_ballsInInnings_23 : decode cX0_ballsInInnings 23 = .ok (.istore_n 1, 1) := by decide +kernel
theorem dX0_ballsInInnings_24 : decode cX0_ballsInInnings 24 = .ok (.iinc 2 1, 3) := by decide +kernel
theorem dX0_ballsInInnings_27 : decode cX0_ballsInInnings 27 = .ok (.goto (-23), 3) := by decide +kernel
theorem dX0_ballsInInnings_30 : decode cX0_ballsInInnings 30 = .ok (.iload_n 1, 1) := by decide +kernel
theorem dX0_ballsInInnings_31 : decode cX0_ballsInInnings 31 = .ok (.ireturn, 1) := by decide +kernel
theorem dX0_runsInInnings_0 : decode cX0_runsInInnings 0 = .ok (.iconst 0, 1) := by decide +kernel
theorem dX0_runsInInnings_1 : decode cX0_runsInInnings 1 = .ok (.istore_n 1, 1) := by decide +kernel
theorem dX0_runsInInnings_2 : decode cX0_runsInInnings 2 = .ok (.iconst 0, 1) := by decide +kernel
theorem dX0_runsInInnings_3 : decode cX0_runsInInnings 3 = .ok (.istore_n 2, 1) := by decide +kernel
theorem dX0_runsInInnings_4 : decode cX0_runsInInnings 4 = .ok (.iload_n 2, 1) := by decide +kernel
theorem dX0_runsInInnings_5 : decode cX0_runsInInnings 5 = .ok (.aload_n 0, 1) := by decide +kernel
theorem dX0_runsInInnings_6 : decode cX0_runsInInnings 6 = .ok (.getfield 64, 3) := by decide +kernel
theorem dX0_runsInInnings_9 : decode cX0_runsInInnings 9 = .ok (.if_icmp .ge 21, 3) := by decide +kernel
theorem dX0_runsInInnings_12 : decode cX0_runsInInnings 12 = .ok (.iload_n 1, 1) := by decide +kernel
theorem dX0_runsInInnings_13 : decode cX0_runsInInnings 13 = .ok (.aload_n 0, 1) := by decide +kernel
theorem dX0_runsInInnings_14 : decode cX0_runsInInnings 14 = .ok (.getfield 39, 3) := by decide +kernel
theorem dX0_runsInInnings_17 : decode cX0_runsInInnings 17 = .ok (.iload_n 2, 1) := by decide +kernel
theorem dX0_runsInInnings_18 : decode cX0_runsInInnings 18 = .ok (.aaload, 1) := by decide +kernel
theorem dX0_runsInInnings_19 : decode cX0_runsInInnings 19 = .ok (.getfield 175, 3) := by decide +kernel
theorem dX0_runsInInnings_22 : decode cX0_runsInInnings 22 = .ok (.iadd, 1) := by decide +kernel
theorem dX0_runsInInnings_23 : decode cX0_runsInInnings 23 = .ok (.istore_n 1, 1) := by decide +kernel
theorem dX0_runsInInnings_24 : decode cX0_runsInInnings 24 = .ok (.iinc 2 1, 3) := by decide +kernel
theorem dX0_runsInInnings_27 : decode cX0_runsInInnings 27 = .ok (.goto (-23), 3) := by decide +kernel
theorem dX0_runsInInnings_30 : decode cX0_runsInInnings 30 = .ok (.iload_n 1, 1) := by decide +kernel
theorem dX0_runsInInnings_31 : decode cX0_runsInInnings 31 = .ok (.ireturn, 1) := by decide +kernel
theorem dX0_wicketsInInnings_0 : decode cX0_wicketsInInnings 0 = .ok (.iconst 0, 1) := by decide +kernel
theorem dX0_wicketsInInnings_1 : decode cX0_wicketsInInnings 1 = .ok (.istore_n 1, 1) := by decide +kernel
theorem dX0_wicketsInInnings_2 : decode cX0_wicketsInInnings 2 = .ok (.iconst 0, 1) := by decide +kernel
theorem dX0_wicketsInInnings_3 : decode cX0_wicketsInInnings 3 = .ok (.istore_n 2, 1) := by decide +kernel
theorem dX0_wicketsInInnings_4 : decode cX0_wicketsInInnings 4 = .ok (.iload_n 2, 1) := by decide +kernel
theorem dX0_wicketsInInnings_5 : decode cX0_wicketsInInnings 5 = .ok (.aload_n 0, 1) := by decide +kernel
theorem dX0_wicketsInInnings_6 : decode cX0_wicketsInInnings 6 = .ok (.getfield 64, 3) := by decide +kernel
theorem dX0_wicketsInInnings_9 : decode cX0_wicketsInInnings 9 = .ok (.if_icmp .ge 21, 3) := by decide +kernel
theorem dX0_wicketsInInnings_12 : decode cX0_wicketsInInnings 12 = .ok (.iload_n 1, 1) := by decide +kernel
theorem dX0_wicketsInInnings_13 : decode cX0_wicketsInInnings 13 = .ok (.aload_n 0, 1) := by decide +kernel
theorem dX0_wicketsInInnings_14 : decode cX0_wicketsInInnings 14 = .ok (.getfield 39, 3) := by decide +kernel
theorem dX0_wicketsInInnings_17 : decode cX0_wicketsInInnings 17 = .ok (.iload_n 2, 1) := by decide +kernel
theorem dX0_wicketsInInnings_18 : decode cX0_wicketsInInnings 18 = .ok (.aaload, 1) := by decide +kernel
theorem dX0_wicketsInInnings_19 : decode cX0_wicketsInInnings 19 = .ok (.getfield 218, 3) := by decide +kernel
theorem dX0_wicketsInInnings_22 : decode cX0_wicketsInInnings 22 = .ok (.iadd, 1) := by decide +kernel
theorem dX0_wicketsInInnings_23 : decode cX0_wicketsInInnings 23 = .ok (.istore_n 1, 1) := by decide +kernel
theorem dX0_wicketsInInnings_24 : decode cX0_wicketsInInnings 24 = .ok (.iinc 2 1, 3) := by decide +kernel
theorem dX0_wicketsInInnings_27 : decode cX0_wicketsInInnings 27 = .ok (.goto (-23), 3) := by decide +kernel
theorem dX0_wicketsInInnings_30 : decode cX0_wicketsInInnings 30 = .ok (.iload_n 1, 1) := by decide +kernel
theorem dX0_wicketsInInnings_31 : decode cX0_wicketsInInnings 31 = .ok (.ireturn, 1) := by decide +kernel
theorem dX0_areInningsWell_0 : decode cX0_areInningsWell 0 = .ok (.iconst 0, 1) := by decide +kernel
theorem dX0_areInningsWell_1 : decode cX0_areInningsWell 1 = .ok (.istore_n 1, 1) := by decide +kernel
theorem dX0_areInningsWell_2 : decode cX0_areInningsWell 2 = .ok (.iload_n 1, 1) := by decide +kernel
theorem dX0_areInningsWell_3 : decode cX0_areInningsWell 3 = .ok (.aload_n 0, 1) := by decide +kernel
theorem dX0_areInningsWell_4 : decode cX0_areInningsWell 4 = .ok (.getfield 64, 3) := by decide +kernel
theorem dX0_areInningsWell_7 : decode cX0_areInningsWell 7 = .ok (.if_icmp .ge 23, 3) := by decide +kernel
theorem dX0_areInningsWell_10 : decode cX0_areInningsWell 10 = .ok (.aload_n 0, 1) := by decide +kernel
theorem dX0_areInningsWell_11 : decode cX0_areInningsWell 11 = .ok (.getfield 39, 3) := by decide +kernel
theorem dX0_areInningsWell_14 : decode cX0_areInningsWell 14 = .ok (.iload_n 1, 1) := by decide +kernel
theorem dX0_areInningsWell_15 : decode cX0_areInningsWell 15 = .ok (.aaload, 1) := by decide +kernel
theorem dX0_areInningsWell_16 : decode cX0_areInningsWell 16 = .ok (.invokevirtual 221, 3) := by decide +kernel
theorem dX0_areInningsWell_19 : decode cX0_areInningsWell 19 = .ok (.ifCond .ne 5, 3) := by decide +kernel
theorem dX0_areInningsWell_22 : decode cX0_areInningsWell 22 = .ok (.iconst 0, 1) := by decide +kernel
theorem dX0_areInningsWell_23 : decode cX0_areInningsWell 23 = .ok (.ireturn, 1) := by decide +kernel
theorem dX0_areInningsWell_24 : decode cX0_areInningsWell 24 = .ok (.iinc 1 1, 3) := by decide +kernel
theorem dX0_areInningsWell_27 : decode cX0_areInningsWell 27 = .ok (.goto (-25), 3) := by decide +kernel
theorem dX0_areInningsWell_30 : decode cX0_areInningsWell 30 = .ok (.iconst 1, 1) := by decide +kernel
theorem dX0_areInningsWell_31 : decode cX0_areInningsWell 31 = .ok (.ireturn, 1) := by decide +kernel
theorem dX0_arePitchesWell_0 : decode cX0_arePitchesWell 0 = .ok (.iconst 0, 1) := by decide +kernel
theorem dX0_arePitchesWell_1 : decode cX0_arePitchesWell 1 = .ok (.istore_n 1, 1) := by decide +kernel
theorem dX0_arePitchesWell_2 : decode cX0_arePitchesWell 2 = .ok (.iload_n 1, 1) := by decide +kernel
theorem dX0_arePitchesWell_3 : decode cX0_arePitchesWell 3 = .ok (.aload_n 0, 1) := by decide +kernel
theorem dX0_arePitchesWell_4 : decode cX0_arePitchesWell 4 = .ok (.getfield 55, 3) := by decide +kernel
theorem dX0_arePitchesWell_7 : decode cX0_arePitchesWell 7 = .ok (.if_icmp .ge 56, 3) := by decide +kernel
theorem dX0_arePitchesWell_10 : decode cX0_arePitchesWell 10 = .ok (.aload_n 0, 1) := by decide +kernel
theorem dX0_arePitchesWell_11 : decode cX0_arePitchesWell 11 = .ok (.iload_n 1, 1) := by decide +kernel
theorem dX0_arePitchesWell_12 : decode cX0_arePitchesWell 12 = .ok (.invokevirtual 98, 3) := by decide +kernel
theorem dX0_arePitchesWell_15 : decode cX0_arePitchesWell 15 = .ok (.iconst (-1), 1) := by decide +kernel
theorem dX0_arePitchesWell_16 : decode cX0_arePitchesWell 16 = .ok (.if_icmp .eq 16, 3) := by decide +kernel
theorem dX0_arePitchesWell_19 : decode cX0_arePitchesWell 19 = .ok (.aload_n 0, 1) := by decide +kernel
theorem dX0_arePitchesWell_20 : decode cX0_arePitchesWell 20 = .ok (.iload_n 1, 1) := by decide +kernel
theorem dX0_arePitchesWell_21 : decode cX0_arePitchesWell 21 = .ok (.invokevirtual 120, 3) := by decide +kernel
theorem dX0_arePitchesWell_24 : decode cX0_arePitchesWell 24 = .ok (.iconst (-1), 1) := by decide +kernel
theorem dX0_arePitchesWell_25 : decode cX0_arePitchesWell 25 = .ok (.if_icmp .eq 7, 3) := by decide +kernel
theorem dX0_arePitchesWell_28 : decode cX0_arePitchesWell 28 = .ok (.iconst 1, 1) := by decide +kernel
theorem dX0_arePitchesWell_29 : decode cX0_arePitchesWell 29 = .ok (.goto 4, 3) := by decide +kernel
theorem dX0_arePitchesWell_32 : decode cX0_arePitchesWell 32 = .ok (.iconst 0, 1) := by decide +kernel
theorem dX0_arePitchesWell_33 : decode cX0_arePitchesWell 33 = .ok (.istore_n 2, 1) := by decide +kernel
theorem dX0_arePitchesWell_34 : decode cX0_arePitchesWell 34 = .ok (.iload_n 2, 1) := by decide +kernel
theorem dX0_arePitchesWell_35 : decode cX0_arePitchesWell 35 = .ok (.ifCond .ne 20, 3) := by decide +kernel
theorem dX0_arePitchesWell_38 : decode cX0_arePitchesWell 38 = .ok (.aload_n 0, 1) := by decide +kernel
theorem dX0_arePitchesWell_39 : decode cX0_arePitchesWell 39 = .ok (.getfield 24, 3) := by decide +kernel
theorem dX0_arePitchesWell_42 : decode cX0_arePitchesWell 42 = .ok (.iload_n 1, 1) := by decide +kernel
theorem dX0_arePitchesWell_43 : decode cX0_arePitchesWell 43 = .ok (.aaload, 1) := by decide +kernel
theorem dX0_arePitchesWell_44 : decode cX0_arePitchesWell 44 = .ok (.getfield 224, 3) := by decide +kernel
theorem dX0_arePitchesWell_47 : decode cX0_arePitchesWell 47 = .ok (.aload_n 0, 1) := by decide +kernel
theorem dX0_arePitchesWell_48 : decode cX0_arePitchesWell 48 = .ok (.iload_n 1, 1) := by decide +kernel
theorem dX0_arePitchesWell_49 : decode cX0_arePitchesWell 49 = .ok (.invokevirtual 227, 3) := by decide +kernel
theorem dX0_arePitchesWell_52 : decode cX0_arePitchesWell 52 = .ok (.if_icmp .eq 5, 3) := by decide +kernel
theorem dX0_arePitchesWell_55 : decode cX0_arePitchesWell 55 = .ok (.iconst 0, 1) := by decide +kernel
theorem dX0_arePitchesWell_56 : decode cX0_arePitchesWell 56 = .ok (.ireturn, 1) := by decide +kernel
theorem dX0_arePitchesWell_57 : decode cX0_arePitchesWell 57 = .ok (.iinc 1 1, 3) := by decide +kernel
theorem dX0_arePitchesWell_60 : decode cX0_arePitchesWell 60 = .ok (.goto (-58), 3) := by decide +kernel
theorem dX0_arePitchesWell_63 : decode cX0_arePitchesWell 63 = .ok (.iconst 1, 1) := by decide +kernel
theorem dX0_arePitchesWell_64 : decode cX0_arePitchesWell 64 = .ok (.ireturn, 1) := by decide +kernel
theorem dX0_ballsOfInningsOn_0 : decode cX0_ballsOfInningsOn 0 = .ok (.iconst 0, 1) := by decide +kernel
theorem dX0_ballsOfInningsOn_1 : decode cX0_ballsOfInningsOn 1 = .ok (.istore_n 2, 1) := by decide +kernel
theorem dX0_ballsOfInningsOn_2 : decode cX0_ballsOfInningsOn 2 = .ok (.iconst 0, 1) := by decide +kernel
theorem dX0_ballsOfInningsOn_3 : decode cX0_ballsOfInningsOn 3 = .ok (.istore_n 3, 1) := by decide +kernel
theorem dX0_ballsOfInningsOn_4 : decode cX0_ballsOfInningsOn 4 = .ok (.iload_n 3, 1) := by decide +kernel
theorem dX0_ballsOfInningsOn_5 : decode cX0_ballsOfInningsOn 5 = .ok (.aload_n 0, 1) := by decide +kernel
theorem dX0_ballsOfInningsOn_6 : decode cX0_ballsOfInningsOn 6 = .ok (.getfield 64, 3) := by decide +kernel
theorem dX0_ballsOfInningsOn_9 : decode cX0_ballsOfInningsOn 9 = .ok (.if_icmp .ge 38, 3) := by decide +kernel
theorem dX0_ballsOfInningsOn_12 : decode cX0_ballsOfInningsOn 12 = .ok (.iload_n 2, 1) := by decide +kernel
theorem dX0_ballsOfInningsOn_13 : decode cX0_ballsOfInningsOn 13 = .ok (.aload_n 0, 1) := by decide +kernel
theorem dX0_ballsOfInningsOn_14 : decode cX0_ballsOfInningsOn 14 = .ok (.getfield 39, 3) := by decide +kernel
theorem dX0_ballsOfInningsOn_17 : decode cX0_ballsOfInningsOn 17 = .ok (.iload_n 3, 1) := by decide +kernel
theorem dX0_ballsOfInningsOn_18 : decode cX0_ballsOfInningsOn 18 = .ok (.aaload, 1) := by decide +kernel
theorem dX0_ballsOfInningsOn_19 : decode cX0_ballsOfInningsOn 19 = .ok (.getfield 83, 3) := by decide +kernel
theorem dX0_ballsOfInningsOn_22 : decode cX0_ballsOfInningsOn 22 = .ok (.iload_n 1, 1) := by decide +kernel
theorem dX0_ballsOfInningsOn_23 : decode cX0_ballsOfInningsOn 23 = .ok (.if_icmp .ne 15, 3) := by decide +kernel
theorem dX0_ballsOfInningsOn_26 : decode cX0_ballsOfInningsOn 26 = .ok (.aload_n 0, 1) := by decide +kernel
theorem dX0_ballsOfInningsOn_27 : decode cX0_ballsOfInningsOn 27 = .ok (.getfield 39, 3) := by decide +kernel
theorem dX0_ballsOfInningsOn_30 : decode cX0_ballsOfInningsOn 30 = .ok (.iload_n 3, 1) := by decide +kernel
theorem dX0_ballsOfInningsOn_31 : decode cX0_ballsOfInningsOn 31 = .ok (.aaload, 1) := by decide +kernel
theorem dX0_ballsOfInningsOn_32 : decode cX0_ballsOfInningsOn 32 = .ok (.getfield 169, 3) := by decide +kernel
theorem dX0_ballsOfInningsOn_35 : decode cX0_ballsOfInningsOn 35 = .ok (.goto 4, 3) := by decide +kernel
theorem dX0_ballsOfInningsOn_38 : decode cX0_ballsOfInningsOn 38 = .ok (.iconst 0, 1) := by decide +kernel
theorem dX0_ballsOfInningsOn_39 : decode cX0_ballsOfInningsOn 39 = .ok (.iadd, 1) := by decide +kernel
theorem dX0_ballsOfInningsOn_40 : decode cX0_ballsOfInningsOn 40 = .ok (.istore_n 2, 1) := by decide +kernel
theorem dX0_ballsOfInningsOn_41 : decode cX0_ballsOfInningsOn 41 = .ok (.iinc 3 1, 3) := by decide +kernel
theorem dX0_ballsOfInningsOn_44 : decode cX0_ballsOfInningsOn 44 = .ok (.goto (-40), 3) := by decide +kernel
theorem dX0_ballsOfInningsOn_47 : decode cX0_ballsOfInningsOn 47 = .ok (.iload_n 2, 1) := by decide +kernel
theorem dX0_ballsOfInningsOn_48 : decode cX0_ballsOfInningsOn 48 = .ok (.ireturn, 1) := by decide +kernel
theorem dX1_init_0 : decode cX1_init 0 = .ok (.aload_n 0, 1) := by decide +kernel
theorem dX1_init_1 : decode cX1_init 1 = .ok (.invokespecial 3, 3) := by decide +kernel
theorem dX1_init_4 : decode cX1_init 4 = .ok (.return_, 1) := by decide +kernel
theorem dX1_become_0 : decode cX1_become 0 = .ok (.aload_n 0, 1) := by decide +kernel
theorem dX1_become_1 : decode cX1_become 1 = .ok (.aload_n 1, 1) := by decide +kernel
theorem dX1_become_2 : decode cX1_become 2 = .ok (.getfield 9, 3) := by decide +kernel
theorem dX1_become_5 : decode cX1_become 5 = .ok (.putfield 9, 3) := by decide +kernel
theorem dX1_become_8 : decode cX1_become 8 = .ok (.aload_n 0, 1) := by decide +kernel
theorem dX1_become_9 : decode cX1_become 9 = .ok (.aload_n 1, 1) := by decide +kernel
theorem dX1_become_10 : decode cX1_become 10 = .ok (.getfield 15, 3) := by decide +kernel
theorem dX1_become_13 : decode cX1_become 13 = .ok (.putfield 15, 3) := by decide +kernel
theorem dX1_become_16 : decode cX1_become 16 = .ok (.aload_n 0, 1) := by decide +kernel
theorem dX1_become_17 : decode cX1_become 17 = .ok (.aload_n 1, 1) := by decide +kernel
theorem dX1_become_18 : decode cX1_become 18 = .ok (.getfield 19, 3) := by decide +kernel
theorem dX1_become_21 : decode cX1_become 21 = .ok (.putfield 19, 3) := by decide +kernel
theorem dX1_become_24 : decode cX1_become 24 = .ok (.aload_n 0, 1) := by decide +kernel
theorem dX1_become_25 : decode cX1_become 25 = .ok (.aload_n 1, 1) := by decide +kernel
theorem dX1_become_26 : decode cX1_become 26 = .ok (.getfield 22, 3) := by decide +kernel
theorem dX1_become_29 : decode cX1_become 29 = .ok (.putfield 22, 3) := by decide +kernel
theorem dX1_become_32 : decode cX1_become 32 = .ok (.aload_n 0, 1) := by decide +kernel
theorem dX1_become_33 : decode cX1_become 33 = .ok (.aload_n 1, 1) := by decide +kernel
theorem dX1_become_34 : decode cX1_become 34 = .ok (.getfield 25, 3) := by decide +kernel
theorem dX1_become_37 : decode cX1_become 37 = .ok (.putfield 25, 3) := by decide +kernel
theorem dX1_become_40 : decode cX1_become 40 = .ok (.aload_n 0, 1) := by decide +kernel
theorem dX1_become_41 : decode cX1_become 41 = .ok (.aload_n 1, 1) := by decide +kernel
theorem dX1_become_42 : decode cX1_become 42 = .ok (.getfield 28, 3) := by decide +kernel
theorem dX1_become_45 : decode cX1_become 45 = .ok (.putfield 28, 3) := by decide +kernel
theorem dX1_become_48 : decode cX1_become 48 = .ok (.return_, 1) := by decide +kernel
theorem dX1_isRolling_0 : decode cX1_isRolling 0 = .ok (.aload_n 0, 1) := by decide +kernel
theorem dX1_isRolling_1 : decode cX1_isRolling 1 = .ok (.getfield 22, 3) := by decide +kernel
theorem dX1_isRolling_4 : decode cX1_isRolling 4 = .ok (.ifCond .le 7, 3) := by decide +kernel
theorem dX1_isRolling_7 : decode cX1_isRolling 7 = .ok (.iconst 1, 1) := by decide +kernel
theorem dX1_isRolling_8 : decode cX1_isRolling 8 = .ok (.goto 4, 3) := by decide +kernel
theorem dX1_isRolling_11 : decode cX1_isRolling 11 = .ok (.iconst 0, 1) := by decide +kernel
theorem dX1_isRolling_12 : decode cX1_isRolling 12 = .ok (.ireturn, 1) := by decide +kernel
theorem dX1_rollForAnHour_0 : decode cX1_rollForAnHour 0 = .ok (.aload_n 1, 1) := by decide +kernel
theorem dX1_rollForAnHour_1 : decode cX1_rollForAnHour 1 = .ok (.aload_n 1, 1) := by decide +kernel
theorem dX1_rollForAnHour_2 : decode cX1_rollForAnHour 2 = .ok (.getfield 31, 3) := by decide +kernel
theorem dX1_rollForAnHour_5 : decode cX1_rollForAnHour 5 = .ok (.aload_n 0, 1) := by decide +kernel
theorem dX1_rollForAnHour_6 : decode cX1_rollForAnHour 6 = .ok (.getfield 9, 3) := by decide +kernel
theorem dX1_rollForAnHour_9 : decode cX1_rollForAnHour 9 = .ok (.bipush 99, 2) := by decide +kernel
theorem dX1_rollForAnHour_11 : decode cX1_rollForAnHour 11 = .ok (.invokestatic 36, 3) := by decide +kernel
theorem dX1_rollForAnHour_14 : decode cX1_rollForAnHour 14 = .ok (.putfield 31, 3) := by decide +kernel
theorem dX1_rollForAnHour_17 : decode cX1_rollForAnHour 17 = .ok (.aload_n 1, 1) := by decide +kernel
theorem dX1_rollForAnHour_18 : decode cX1_rollForAnHour 18 = .ok (.aload_n 1, 1) := by decide +kernel
theorem dX1_rollForAnHour_19 : decode cX1_rollForAnHour 19 = .ok (.getfield 40, 3) := by decide +kernel
theorem dX1_rollForAnHour_22 : decode cX1_rollForAnHour 22 = .ok (.aload_n 0, 1) := by decide +kernel
theorem dX1_rollForAnHour_23 : decode cX1_rollForAnHour 23 = .ok (.getfield 9, 3) := by decide +kernel
theorem dX1_rollForAnHour_26 : decode cX1_rollForAnHour 26 = .ok (.iconst 2, 1) := by decide +kernel
theorem dX1_rollForAnHour_27 : decode cX1_rollForAnHour 27 = .ok (.idiv, 1) := by decide +kernel
theorem dX1_rollForAnHour_28 : decode cX1_rollForAnHour 28 = .ok (.invokestatic 43, 3) := by decide +kernel
theorem dX1_rollForAnHour_31 : decode cX1_rollForAnHour 31 = .ok (.putfield 40, 3) := by decide +kernel
theorem dX1_rollForAnHour_34 : decode cX1_rollForAnHour 34 = .ok (.aload_n 0, 1) := by decide +kernel
theorem dX1_rollForAnHour_35 : decode cX1_rollForAnHour 35 = .ok (.getfield 15, 3) := by decide +kernel
theorem dX1_rollForAnHour_38 : decode cX1_rollForAnHour 38 = .ok (.ifCond .ne 25, 3) := by decide +kernel
theorem dX1_rollForAnHour_41 : decode cX1_rollForAnHour 41 = .ok (.aload_n 1, 1) := by decide +kernel
theorem dX1_rollForAnHour_42 : decode cX1_rollForAnHour 42 = .ok (.aload_n 1, 1) := by decide +kernel
theorem dX1_rollForAnHour_43 : decode cX1_rollForAnHour 43 = .ok (.getfield 47, 3) := by decide +kernel
theorem dX1_rollForAnHour_46 : decode cX1_rollForAnHour 46 = .ok (.aload_n 1, 1) := by decide +kernel
theorem dX1_rollForAnHour_47 : decode cX1_rollForAnHour 47 = .ok (.getfield 40, 3) := by decide +kernel
theorem dX1_rollForAnHour_50 : decode cX1_rollForAnHour 50 = .ok (.bipush 10, 2) := by decide +kernel
theorem dX1_rollForAnHour_52 : decode cX1_rollForAnHour 52 = .ok (.idiv, 1) := by decide +kernel
theorem dX1_rollForAnHour_53 : decode cX1_rollForAnHour 53 = .ok (.iconst 1, 1) := by decide +kernel
theorem dX1_rollForAnHour_54 : decode cX1_rollForAnHour 54 = .ok (.iadd, 1) := by decide +kernel
theorem dX1_rollForAnHour_55 : decode cX1_rollForAnHour 55 = .ok (.bipush 99, 2) := by decide +kernel
theorem dX1_rollForAnHour_57 : decode cX1_rollForAnHour 57 = .ok (.invokestatic 36, 3) := by decide +kernel
theorem dX1_rollForAnHour_60 : decode cX1_rollForAnHour 60 = .ok (.putfield 47, 3) := by decide +kernel
theorem dX1_rollForAnHour_63 : decode cX1_rollForAnHour 63 = .ok (.aload_n 0, 1) := by decide +kernel
theorem dX1_rollForAnHour_64 : decode cX1_rollForAnHour 64 = .ok (.aload_n 0, 1) := by decide +kernel
theorem dX1_rollForAnHour_65 : decode cX1_rollForAnHour 65 = .ok (.getfield 19, 3) := by decide +kernel
theorem dX1_rollForAnHour_68 : decode cX1_rollForAnHour 68 = .ok (.iconst 2, 1) := by decide +kernel
theorem dX1_rollForAnHour_69 : decode cX1_rollForAnHour 69 = .ok (.bipush 20, 2) := by decide +kernel
theorem dX1_rollForAnHour_71 : decode cX1_rollForAnHour 71 = .ok (.invokestatic 36, 3) := by decide +kernel
theorem dX1_rollForAnHour_74 : decode cX1_rollForAnHour 74 = .ok (.putfield 19, 3) := by decide +kernel
theorem dX1_rollForAnHour_77 : decode cX1_rollForAnHour 77 = .ok (.aload_n 0, 1) := by decide +kernel
theorem dX1_rollForAnHour_78 : decode cX1_rollForAnHour 78 = .ok (.dup, 1) := by decide +kernel
theorem dX1_rollForAnHour_79 : decode cX1_rollForAnHour 79 = .ok (.getfield 22, 3) := by decide +kernel
theorem dX1_rollForAnHour_82 : decode cX1_rollForAnHour 82 = .ok (.iconst 1, 1) := by decide +kernel
theorem dX1_rollForAnHour_83 : decode cX1_rollForAnHour 83 = .ok (.isub, 1) := by decide +kernel
theorem dX1_rollForAnHour_84 : decode cX1_rollForAnHour 84 = .ok (.putfield 22, 3) := by decide +kernel
theorem dX1_rollForAnHour_87 : decode cX1_rollForAnHour 87 = .ok (.aload_n 0, 1) := by decide +kernel
theorem dX1_rollForAnHour_88 : decode cX1_rollForAnHour 88 = .ok (.dup, 1) := by decide +kernel
theorem dX1_rollForAnHour_89 : decode cX1_rollForAnHour 89 = .ok (.getfield 28, 3) := by decide +kernel
theorem dX1_rollForAnHour_92 : decode cX1_rollForAnHour 92 = .ok (.iconst 1, 1) := by decide +kernel
theorem dX1_rollForAnHour_93 : decode cX1_rollForAnHour 93 = .ok (.iadd, 1) := by decide +kernel
theorem dX1_rollForAnHour_94 : decode cX1_rollForAnHour 94 = .ok (.putfield 28, 3) := by decide +kernel
theorem dX1_rollForAnHour_97 : decode cX1_rollForAnHour 97 = .ok (.return_, 1) := by decide +kernel
theorem dX1_rest_0 : decode cX1_rest 0 = .ok (.aload_n 0, 1) := by decide +kernel
theorem dX1_rest_1 : decode cX1_rest 1 = .ok (.aload_n 0, 1) := by decide +kernel
theorem dX1_rest_2 : decode cX1_rest 2 = .ok (.getfield 19, 3) := by decide +kernel
theorem dX1_rest_5 : decode cX1_rest 5 = .ok (.iconst 1, 1) := by decide +kernel
theorem dX1_rest_6 : decode cX1_rest 6 = .ok (.invokestatic 43, 3) := by decide +kernel
theorem dX1_rest_9 : decode cX1_rest 9 = .ok (.putfield 19, 3) := by decide +kernel
theorem dX1_rest_12 : decode cX1_rest 12 = .ok (.return_, 1) := by decide +kernel
theorem dX1_isBetterThan_0 : decode cX1_isBetterThan 0 = .ok (.aload_n 0, 1) := by decide +kernel
theorem dX1_isBetterThan_1 : decode cX1_isBetterThan 1 = .ok (.getfield 9, 3) := by decide +kernel
theorem dX1_isBetterThan_4 : decode cX1_isBetterThan 4 = .ok (.aload_n 1, 1) := by decide +kernel
theorem dX1_isBetterThan_5 : decode cX1_isBetterThan 5 = .ok (.getfield 9, 3) := by decide +kernel
theorem dX1_isBetterThan_8 : decode cX1_isBetterThan 8 = .ok (.if_icmp .eq 20, 3) := by decide +kernel
theorem dX1_isBetterThan_11 : decode cX1_isBetterThan 11 = .ok (.aload_n 0, 1) := by decide +kernel
theorem dX1_isBetterThan_12 : decode cX1_isBetterThan 12 = .ok (.getfield 9, 3) := by decide +kernel
theorem dX1_isBetterThan_15 : decode cX1_isBetterThan 15 = .ok (.aload_n 1, 1) := by decide +kernel
theorem dX1_isBetterThan_16 : decode cX1_isBetterThan 16 = .ok (.getfield 9, 3) := by decide +kernel
theorem dX1_isBetterThan_19 : decode cX1_isBetterThan 19 = .ok (.if_icmp .le 7, 3) := by decide +kernel
theorem dX1_isBetterThan_22 : decode cX1_isBetterThan 22 = .ok (.iconst 1, 1) := by decide +kernel
theorem dX1_isBetterThan_23 : decode cX1_isBetterThan 23 = .ok (.goto 4, 3) := by decide +kernel
theorem dX1_isBetterThan_26 : decode cX1_isBetterThan 26 = .ok (.iconst 0, 1) := by decide +kernel
theorem dX1_isBetterThan_27 : decode cX1_isBetterThan 27 = .ok (.ireturn, 1) := by decide +kernel
theorem dX1_isBetterThan_28 : decode cX1_isBetterThan 28 = .ok (.aload_n 0, 1) := by decide +kernel
theorem dX1_isBetterThan_29 : decode cX1_isBetterThan 29 = .ok (.getfield 19, 3) := by decide +kernel
theorem dX1_isBetterThan_32 : decode cX1_isBetterThan 32 = .ok (.aload_n 1, 1) := by decide +kernel
theorem dX1_isBetterThan_33 : decode cX1_isBetterThan 33 = .ok (.getfield 19, 3) := by decide +kernel
theorem dX1_isBetterThan_36 : decode cX1_isBetterThan 36 = .ok (.if_icmp .ge 7, 3) := by decide +kernel
theorem dX1_isBetterThan_39 : decode cX1_isBetterThan 39 = .ok (.iconst 1, 1) := by decide +kernel
theorem dX1_isBetterThan_40 : decode cX1_isBetterThan 40 = .ok (.goto 4, 3) := by decide +kernel
theorem dX1_isBetterThan_43 : decode cX1_isBetterThan 43 = .ok (.iconst 0, 1) := by decide +kernel
theorem dX1_isBetterThan_44 : decode cX1_isBetterThan 44 = .ok (.ireturn, 1) := by decide +kernel
theorem dX2_init_0 : decode cX2_init 0 = .ok (.aload_n 0, 1) := by decide +kernel
theorem dX2_init_1 : decode cX2_init 1 = .ok (.invokespecial 3, 3) := by decide +kernel
theorem dX2_init_4 : decode cX2_init 4 = .ok (.aload_n 0, 1) := by decide +kernel
theorem dX2_init_5 : decode cX2_init 5 = .ok (.bipush 7, 2) := by decide +kernel
theorem dX2_init_7 : decode cX2_init 7 = .ok (.newarray .int, 2) := by decide +kernel
theorem dX2_init_9 : decode cX2_init 9 = .ok (.putfield 9, 3) := by decide +kernel
theorem dX2_init_12 : decode cX2_init 12 = .ok (.return_, 1) := by decide +kernel
theorem dX2_become_0 : decode cX2_become 0 = .ok (.aload_n 0, 1) := by decide +kernel
theorem dX2_become_1 : decode cX2_become 1 = .ok (.aload_n 1, 1) := by decide +kernel
theorem dX2_become_2 : decode cX2_become 2 = .ok (.getfield 15, 3) := by decide +kernel
theorem dX2_become_5 : decode cX2_become 5 = .ok (.putfield 15, 3) := by decide +kernel
theorem dX2_become_8 : decode cX2_become 8 = .ok (.aload_n 0, 1) := by decide +kernel
theorem dX2_become_9 : decode cX2_become 9 = .ok (.aload_n 1, 1) := by decide +kernel
theorem dX2_become_10 : decode cX2_become 10 = .ok (.getfield 19, 3) := by decide +kernel
theorem dX2_become_13 : decode cX2_become 13 = .ok (.putfield 19, 3) := by decide +kernel
theorem dX2_become_16 : decode cX2_become 16 = .ok (.aload_n 0, 1) := by decide +kernel
theorem dX2_become_17 : decode cX2_become 17 = .ok (.aload_n 1, 1) := by decide +kernel
theorem dX2_become_18 : decode cX2_become 18 = .ok (.getfield 22, 3) := by decide +kernel
theorem dX2_become_21 : decode cX2_become 21 = .ok (.putfield 22, 3) := by decide +kernel
theorem dX2_become_24 : decode cX2_become 24 = .ok (.aload_n 0, 1) := by decide +kernel
theorem dX2_become_25 : decode cX2_become 25 = .ok (.aload_n 1, 1) := by decide +kernel
theorem dX2_become_26 : decode cX2_become 26 = .ok (.getfield 25, 3) := by decide +kernel
theorem dX2_become_29 : decode cX2_become 29 = .ok (.putfield 25, 3) := by decide +kernel
theorem dX2_become_32 : decode cX2_become 32 = .ok (.aload_n 0, 1) := by decide +kernel
theorem dX2_become_33 : decode cX2_become 33 = .ok (.aload_n 1, 1) := by decide +kernel
theorem dX2_become_34 : decode cX2_become 34 = .ok (.getfield 28, 3) := by decide +kernel
theorem dX2_become_37 : decode cX2_become 37 = .ok (.putfield 28, 3) := by decide +kernel
theorem dX2_become_40 : decode cX2_become 40 = .ok (.aload_n 0, 1) := by decide +kernel
theorem dX2_become_41 : decode cX2_become 41 = .ok (.aload_n 1, 1) := by decide +kernel
theorem dX2_become_42 : decode cX2_become 42 = .ok (.getfield 31, 3) := by decide +kernel
theorem dX2_become_45 : decode cX2_become 45 = .ok (.putfield 31, 3) := by decide +kernel
theorem dX2_become_48 : decode cX2_become 48 = .ok (.aload_n 0, 1) := by decide +kernel
theorem dX2_become_49 : decode cX2_become 49 = .ok (.aload_n 1, 1) := by decide +kernel
theorem dX2_become_50 : decode cX2_become 50 = .ok (.getfield 34, 3) := by decide +kernel
theorem dX2_become_53 : decode cX2_become 53 = .ok (.putfield 34, 3) := by decide +kernel
theorem dX2_become_56 : decode cX2_become 56 = .ok (.aload_n 1, 1) := by decide +kernel
theorem dX2_become_57 : decode cX2_become 57 = .ok (.getfield 9, 3) := by decide +kernel
theorem dX2_become_60 : decode cX2_become 60 = .ok (.iconst 0, 1) := by decide +kernel
theorem dX2_become_61 : decode cX2_become 61 = .ok (.aload_n 0, 1) := by decide +kernel
theorem dX2_become_62 : decode cX2_become 62 = .ok (.getfield 9, 3) := by decide +kernel
theorem dX2_become_65 : decode cX2_become 65 = .ok (.iconst 0, 1) := by decide +kernel
theorem dX2_become_66 : decode cX2_become 66 = .ok (.bipush 7, 2) := by decide +kernel
theorem dX2_become_68 : decode cX2_become 68 = .ok (.invokestatic 38, 3) := by decide +kernel
theorem dX2_become_71 : decode cX2_become 71 = .ok (.return_, 1) := by decide +kernel
theorem dX2_isOver_0 : decode cX2_isOver 0 = .ok (.aload_n 0, 1) := by decide +kernel
theorem dX2_isOver_1 : decode cX2_isOver 1 = .ok (.getfield 34, 3) := by decide +kernel
theorem dX2_isOver_4 : decode cX2_isOver 4 = .ok (.ifCond .ne 23, 3) := by decide +kernel
theorem dX2_isOver_7 : decode cX2_isOver 7 = .ok (.aload_n 0, 1) := by decide +kernel
theorem dX2_isOver_8 : decode cX2_isOver 8 = .ok (.getfield 25, 3) := by decide +kernel
theorem dX2_isOver_11 : decode cX2_isOver 11 = .ok (.aload_n 0, 1) := by decide +kernel
theorem dX2_isOver_12 : decode cX2_isOver 12 = .ok (.getfield 22, 3) := by decide +kernel
theorem dX2_isOver_15 : decode cX2_isOver 15 = .ok (.if_icmp .ge 12, 3) := by decide +kernel
theorem dX2_isOver_18 : decode cX2_isOver 18 = .ok (.aload_n 0, 1) := by decide +kernel
theorem dX2_isOver_19 : decode cX2_isOver 19 = .ok (.getfield 31, 3) := by decide +kernel
theorem dX2_isOver_22 : decode cX2_isOver 22 = .ok (.bipush 10, 2) := by decide +kernel
theorem dX2_isOver_24 : decode cX2_isOver 24 = .ok (.if_icmp .lt 7, 3) := by decide +kernel
theorem dX2_isOver_27 : decode cX2_isOver 27 = .ok (.iconst 1, 1) := by decide +kernel
theorem dX2_isOver_28 : decode cX2_isOver 28 = .ok (.goto 4, 3) := by decide +kernel
theorem dX2_isOver_31 : decode cX2_isOver 31 = .ok (.iconst 0, 1) := by decide +kernel
theorem dX2_isOver_32 : decode cX2_isOver 32 = .ok (.ireturn, 1) := by decide +kernel
theorem dX2_bowlOne_0 : decode cX2_bowlOne 0 = .ok (.aload_n 1, 1) := by decide +kernel
theorem dX2_bowlOne_1 : decode cX2_bowlOne 1 = .ok (.getfield 44, 3) := by decide +kernel
theorem dX2_bowlOne_4 : decode cX2_bowlOne 4 = .ok (.iconst 3, 1) := by decide +kernel
theorem dX2_bowlOne_5 : decode cX2_bowlOne 5 = .ok (.aload_n 0, 1) := by decide +kernel
theorem dX2_bowlOne_6 : decode cX2_bowlOne 6 = .ok (.getfield 25, 3) := by decide +kernel
theorem dX2_bowlOne_9 : decode cX2_bowlOne 9 = .ok (.imul, 1) := by decide +kernel
theorem dX2_bowlOne_10 : decode cX2_bowlOne 10 = .ok (.iadd, 1) := by decide +kernel
theorem dX2_bowlOne_11 : decode cX2_bowlOne 11 = .ok (.aload_n 1, 1) := by decide +kernel
theorem dX2_bowlOne_12 : decode cX2_bowlOne 12 = .ok (.getfield 49, 3) := by decide +kernel
theorem dX2_bowlOne_15 : decode cX2_bowlOne 15 = .ok (.iadd, 1) := by decide +kernel
theorem dX2_bowlOne_16 : decode cX2_bowlOne 16 = .ok (.bipush 7, 2) := by decide +kernel
theorem dX2_bowlOne_18 : decode cX2_bowlOne 18 = .ok (.invokestatic 52, 3) := by decide +kernel
theorem dX2_bowlOne_21 : decode cX2_bowlOne 21 = .ok (.istore_n 2, 1) := by decide +kernel
theorem dX2_bowlOne_22 : decode cX2_bowlOne 22 = .ok (.aload_n 0, 1) := by decide +kernel
theorem dX2_bowlOne_23 : decode cX2_bowlOne 23 = .ok (.getfield 9, 3) := by decide +kernel
theorem dX2_bowlOne_26 : decode cX2_bowlOne 26 = .ok (.iload_n 2, 1) := by decide +kernel
theorem dX2_bowlOne_27 : decode cX2_bowlOne 27 = .ok (.dup2, 1) := by decide +kernel
theorem dX2_bowlOne_28 : decode cX2_bowlOne 28 = .ok (.iaload, 1) := by decide +kernel
theorem dX2_bowlOne_29 : decode cX2_bowlOne 29 = .ok (.iconst 1, 1) := by decide +kernel
theorem dX2_bowlOne_30 : decode cX2_bowlOne 30 = .ok (.iadd, 1) := by decide +kernel
theorem dX2_bowlOne_31 : decode cX2_bowlOne 31 = .ok (.iastore, 1) := by decide +kernel
theorem dX2_bowlOne_32 : decode cX2_bowlOne 32 = .ok (.iload_n 2, 1) := by decide +kernel
theorem dX2_bowlOne_33 : decode cX2_bowlOne 33 = .ok (.iconst 5, 1) := by decide +kernel
theorem dX2_bowlOne_34 : decode cX2_bowlOne 34 = .ok (.if_icmp .ne 16, 3) := by decide +kernel
theorem dX2_bowlOne_37 : decode cX2_bowlOne 37 = .ok (.aload_n 0, 1) := by decide +kernel
theorem dX2_bowlOne_38 : decode cX2_bowlOne 38 = .ok (.dup, 1) := by decide +kernel
theorem dX2_bowlOne_39 : decode cX2_bowlOne 39 = .ok (.getfield 31, 3) := by decide +kernel
theorem dX2_bowlOne_42 : decode cX2_bowlOne 42 = .ok (.iconst 1, 1) := by decide +kernel
theorem dX2_bowlOne_43 : decode cX2_bowlOne 43 = .ok (.iadd, 1) := by decide +kernel
theorem dX2_bowlOne_44 : decode cX2_bowlOne 44 = .ok (.putfield 31, 3) := by decide +kernel
theorem dX2_bowlOne_47 : decode cX2_bowlOne 47 = .ok (.goto 13, 3) := by decide +kernel
theorem dX2_bowlOne_50 : decode cX2_bowlOne 50 = .ok (.aload_n 0, 1) := by decide +kernel
theorem dX2_bowlOne_51 : decode cX2_bowlOne 51 = .ok (.dup, 1) := by decide +kernel
theorem dX2_bowlOne_52 : decode cX2_bowlOne 52 = .ok (.getfield 28, 3) := by decide +kernel
theorem dX2_bowlOne_55 : decode cX2_bowlOne 55 = .ok (.iload_n 2, 1) := by decide +kernel
theorem dX2_bowlOne_56 : decode cX2_bowlOne 56 = .ok (.iadd, 1) := by decide +kernel
theorem dX2_bowlOne_57 : decode cX2_bowlOne 57 = .ok (.putfield 28, 3) := by decide +kernel
theorem dX2_bowlOne_60 : decode cX2_bowlOne 60 = .ok (.aload_n 0, 1) := by decide +kernel
theorem dX2_bowlOne_61 : decode cX2_bowlOne 61 = .ok (.getfield 25, 3) := by decide +kernel
theorem dX2_bowlOne_64 : decode cX2_bowlOne 64 = .ok (.bipush 6, 2) := by decide +kernel
theorem dX2_bowlOne_66 : decode cX2_bowlOne 66 = .ok (.irem, 1) := by decide +kernel
theorem dX2_bowlOne_67 : decode cX2_bowlOne 67 = .ok (.iconst 5, 1) := by decide +kernel
theorem dX2_bowlOne_68 : decode cX2_bowlOne 68 = .ok (.if_icmp .ne 15, 3) := by decide +kernel
theorem dX2_bowlOne_71 : decode cX2_bowlOne 71 = .ok (.aload_n 1, 1) := by decide +kernel
theorem dX2_bowlOne_72 : decode cX2_bowlOne 72 = .ok (.aload_n 1, 1) := by decide +kernel
theorem dX2_bowlOne_73 : decode cX2_bowlOne 73 = .ok (.getfield 44, 3) := by decide +kernel
theorem dX2_bowlOne_76 : decode cX2_bowlOne 76 = .ok (.iconst 1, 1) := by decide +kernel
theorem dX2_bowlOne_77 : decode cX2_bowlOne 77 = .ok (.invokestatic 58, 3) := by decide +kernel
theorem dX2_bowlOne_80 : decode cX2_bowlOne 80 = .ok (.putfield 44, 3) := by decide +kernel
theorem dX2_bowlOne_83 : decode cX2_bowlOne 83 = .ok (.aload_n 0, 1) := by decide +kernel
theorem dX2_bowlOne_84 : decode cX2_bowlOne 84 = .ok (.dup, 1) := by decide +kernel
theorem dX2_bowlOne_85 : decode cX2_bowlOne 85 = .ok (.getfield 25, 3) := by decide +kernel
theorem dX2_bowlOne_88 : decode cX2_bowlOne 88 = .ok (.iconst 1, 1) := by decide +kernel
theorem dX2_bowlOne_89 : decode cX2_bowlOne 89 = .ok (.iadd, 1) := by decide +kernel
theorem dX2_bowlOne_90 : decode cX2_bowlOne 90 = .ok (.putfield 25, 3) := by decide +kernel
theorem dX2_bowlOne_93 : decode cX2_bowlOne 93 = .ok (.aload_n 1, 1) := by decide +kernel
theorem dX2_bowlOne_94 : decode cX2_bowlOne 94 = .ok (.dup, 1) := by decide +kernel
theorem dX2_bowlOne_95 : decode cX2_bowlOne 95 = .ok (.getfield 61, 3) := by decide +kernel
theorem dX2_bowlOne_98 : decode cX2_bowlOne 98 = .ok (.iconst 1, 1) := by decide +kernel
theorem dX2_bowlOne_99 : decode cX2_bowlOne 99 = .ok (.iadd, 1) := by decide +kernel
theorem dX2_bowlOne_100 : decode cX2_bowlOne 100 = .ok (.putfield 61, 3) := by decide +kernel
theorem dX2_bowlOne_103 : decode cX2_bowlOne 103 = .ok (.return_, 1) := by decide +kernel
theorem dX2_runsByWorth_0 : decode cX2_runsByWorth 0 = .ok (.iconst 0, 1) := by decide +kernel
theorem dX2_runsByWorth_1 : decode cX2_runsByWorth 1 = .ok (.istore_n 1, 1) := by decide +kernel
theorem dX2_runsByWorth_2 : decode cX2_runsByWorth 2 = .ok (.iconst 0, 1) := by decide +kernel
theorem dX2_runsByWorth_3 : decode cX2_runsByWorth 3 = .ok (.istore_n 2, 1) := by decide +kernel
theorem dX2_runsByWorth_4 : decode cX2_runsByWorth 4 = .ok (.iload_n 2, 1) := by decide +kernel
theorem dX2_runsByWorth_5 : decode cX2_runsByWorth 5 = .ok (.bipush 7, 2) := by decide +kernel
theorem dX2_runsByWorth_7 : decode cX2_runsByWorth 7 = .ok (.if_icmp .ge 25, 3) := by decide +kernel
theorem dX2_runsByWorth_10 : decode cX2_runsByWorth 10 = .ok (.iload_n 2, 1) := by decide +kernel
theorem dX2_runsByWorth_11 : decode cX2_runsByWorth 11 = .ok (.iconst 5, 1) := by decide +kernel
theorem dX2_runsByWorth_12 : decode cX2_runsByWorth 12 = .ok (.if_icmp .eq 14, 3) := by decide +kernel
theorem dX2_runsByWorth_15 : decode cX2_runsByWorth 15 = .ok (.iload_n 1, 1) := by decide +kernel
theorem dX2_runsByWorth_16 : decode cX2_runsByWorth 16 = .ok (.iload_n 2, 1) := by decide +kernel
theorem dX2_runsByWorth_17 : decode cX2_runsByWorth 17 = .ok (.aload_n 0, 1) := by decide +kernel
theorem dX2_runsByWorth_18 : decode cX2_runsByWorth 18 = .ok (.getfield 9, 3) := by decide +kernel
theorem dX2_runsByWorth_21 : decode cX2_runsByWorth 21 = .ok (.iload_n 2, 1) := by decide +kernel
theorem dX2_runsByWorth_22 : decode cX2_runsByWorth 22 = .ok (.iaload, 1) := by decide +kernel
theorem dX2_runsByWorth_23 : decode cX2_runsByWorth 23 = .ok (.imul, 1) := by decide +kernel
theorem dX2_runsByWorth_24 : decode cX2_runsByWorth 24 = .ok (.iadd, 1) := by decide +kernel
theorem dX2_runsByWorth_25 : decode cX2_runsByWorth 25 = .ok (.istore_n 1, 1) := by decide +kernel
theorem dX2_runsByWorth_26 : decode cX2_runsByWorth 26 = .ok (.iinc 2 1, 3) := by decide +kernel
theorem dX2_runsByWorth_29 : decode cX2_runsByWorth 29 = .ok (.goto (-25), 3) := by decide +kernel
theorem dX2_runsByWorth_32 : decode cX2_runsByWorth 32 = .ok (.iload_n 1, 1) := by decide +kernel
theorem dX2_runsByWorth_33 : decode cX2_runsByWorth 33 = .ok (.ireturn, 1) := by decide +kernel
theorem dX2_ballsByWorth_0 : decode cX2_ballsByWorth 0 = .ok (.iconst 0, 1) := by decide +kernel
theorem dX2_ballsByWorth_1 : decode cX2_ballsByWorth 1 = .ok (.istore_n 1, 1) := by decide +kernel
theorem dX2_ballsByWorth_2 : decode cX2_ballsByWorth 2 = .ok (.iconst 0, 1) := by decide +kernel
theorem dX2_ballsByWorth_3 : decode cX2_ballsByWorth 3 = .ok (.istore_n 2, 1) := by decide +kernel
theorem dX2_ballsByWorth_4 : decode cX2_ballsByWorth 4 = .ok (.iload_n 2, 1) := by decide +kernel
theorem dX2_ballsByWorth_5 : decode cX2_ballsByWorth 5 = .ok (.bipush 7, 2) := by decide +kernel
theorem dX2_ballsByWorth_7 : decode cX2_ballsByWorth 7 = .ok (.if_icmp .ge 18, 3) := by decide +kernel
theorem dX2_ballsByWorth_10 : decode cX2_ballsByWorth 10 = .ok (.iload_n 1, 1) := by decide +kernel
theorem dX2_ballsByWorth_11 : decode cX2_ballsByWorth 11 = .ok (.aload_n 0, 1) := by decide +kernel
theorem dX2_ballsByWorth_12 : decode cX2_ballsByWorth 12 = .ok (.getfield 9, 3) := by decide +kernel
theorem dX2_ballsByWorth_15 : decode cX2_ballsByWorth 15 = .ok (.iload_n 2, 1) := by decide +kernel
theorem dX2_ballsByWorth_16 : decode cX2_ballsByWorth 16 = .ok (.iaload, 1) := by decide +kernel
theorem dX2_ballsByWorth_17 : decode cX2_ballsByWorth 17 = .ok (.iadd, 1) := by decide +kernel
theorem dX2_ballsByWorth_18 : decode cX2_ballsByWorth 18 = .ok (.istore_n 1, 1) := by decide +kernel
theorem dX2_ballsByWorth_19 : decode cX2_ballsByWorth 19 = .ok (.iinc 2 1, 3) := by decide +kernel
theorem dX2_ballsByWorth_22 : decode cX2_ballsByWorth 22 = .ok (.goto (-18), 3) := by decide +kernel
theorem dX2_ballsByWorth_25 : decode cX2_ballsByWorth 25 = .ok (.iload_n 1, 1) := by decide +kernel
theorem dX2_ballsByWorth_26 : decode cX2_ballsByWorth 26 = .ok (.ireturn, 1) := by decide +kernel
theorem dX2_isWellCounted_0 : decode cX2_isWellCounted 0 = .ok (.aload_n 0, 1) := by decide +kernel
theorem dX2_isWellCounted_1 : decode cX2_isWellCounted 1 = .ok (.getfield 28, 3) := by decide +kernel
theorem dX2_isWellCounted_4 : decode cX2_isWellCounted 4 = .ok (.aload_n 0, 1) := by decide +kernel
theorem dX2_isWellCounted_5 : decode cX2_isWellCounted 5 = .ok (.invokevirtual 64, 3) := by decide +kernel
theorem dX2_isWellCounted_8 : decode cX2_isWellCounted 8 = .ok (.if_icmp .ne 31, 3) := by decide +kernel
theorem dX2_isWellCounted_11 : decode cX2_isWellCounted 11 = .ok (.aload_n 0, 1) := by decide +kernel
theorem dX2_isWellCounted_12 : decode cX2_isWellCounted 12 = .ok (.getfield 31, 3) := by decide +kernel
theorem dX2_isWellCounted_15 : decode cX2_isWellCounted 15 = .ok (.aload_n 0, 1) := by decide +kernel
theorem dX2_isWellCounted_16 : decode cX2_isWellCounted 16 = .ok (.getfield 9, 3) := by decide +kernel
theorem dX2_isWellCounted_19 : decode cX2_isWellCounted 19 = .ok (.iconst 5, 1) := by decide +kernel
theorem dX2_isWellCounted_20 : decode cX2_isWellCounted 20 = .ok (.iaload, 1) := by decide +kernel
theorem dX2_isWellCounted_21 : decode cX2_isWellCounted 21 = .ok (.if_icmp .ne 18, 3) := by decide +kernel
theorem dX2_isWellCounted_24 : decode cX2_isWellCounted 24 = .ok (.aload_n 0, 1) := by decide +kernel
theorem dX2_isWellCounted_25 : decode cX2_isWellCounted 25 = .ok (.getfield 25, 3) := by decide +kernel
theorem dX2_isWellCounted_28 : decode cX2_isWellCounted 28 = .ok (.aload_n 0, 1) := by decide +kernel
theorem dX2_isWellCounted_29 : decode cX2_isWellCounted 29 = .ok (.invokevirtual 68, 3) := by decide +kernel
theorem dX2_isWellCounted_32 : decode cX2_isWellCounted 32 = .ok (.if_icmp .ne 7, 3) := by decide +kernel
theorem dX2_isWellCounted_35 : decode cX2_isWellCounted 35 = .ok (.iconst 1, 1) := by decide +kernel
theorem dX2_isWellCounted_36 : decode cX2_isWellCounted 36 = .ok (.goto 4, 3) := by decide +kernel
theorem dX2_isWellCounted_39 : decode cX2_isWellCounted 39 = .ok (.iconst 0, 1) := by decide +kernel
theorem dX2_isWellCounted_40 : decode cX2_isWellCounted 40 = .ok (.ireturn, 1) := by decide +kernel
theorem dX2_isAheadOf_0 : decode cX2_isAheadOf 0 = .ok (.aload_n 0, 1) := by decide +kernel
theorem dX2_isAheadOf_1 : decode cX2_isAheadOf 1 = .ok (.getfield 28, 3) := by decide +kernel
theorem dX2_isAheadOf_4 : decode cX2_isAheadOf 4 = .ok (.aload_n 1, 1) := by decide +kernel
theorem dX2_isAheadOf_5 : decode cX2_isAheadOf 5 = .ok (.getfield 28, 3) := by decide +kernel
theorem dX2_isAheadOf_8 : decode cX2_isAheadOf 8 = .ok (.if_icmp .eq 20, 3) := by decide +kernel
theorem dX2_isAheadOf_11 : decode cX2_isAheadOf 11 = .ok (.aload_n 0, 1) := by decide +kernel
theorem dX2_isAheadOf_12 : decode cX2_isAheadOf 12 = .ok (.getfield 28, 3) := by decide +kernel
theorem dX2_isAheadOf_15 : decode cX2_isAheadOf 15 = .ok (.aload_n 1, 1) := by decide +kernel
theorem dX2_isAheadOf_16 : decode cX2_isAheadOf 16 = .ok (.getfield 28, 3) := by decide +kernel
theorem dX2_isAheadOf_19 : decode cX2_isAheadOf 19 = .ok (.if_icmp .le 7, 3) := by decide +kernel
theorem dX2_isAheadOf_22 : decode cX2_isAheadOf 22 = .ok (.iconst 1, 1) := by decide +kernel
theorem dX2_isAheadOf_23 : decode cX2_isAheadOf 23 = .ok (.goto 4, 3) := by decide +kernel
theorem dX2_isAheadOf_26 : decode cX2_isAheadOf 26 = .ok (.iconst 0, 1) := by decide +kernel
theorem dX2_isAheadOf_27 : decode cX2_isAheadOf 27 = .ok (.ireturn, 1) := by decide +kernel
theorem dX2_isAheadOf_28 : decode cX2_isAheadOf 28 = .ok (.aload_n 0, 1) := by decide +kernel
theorem dX2_isAheadOf_29 : decode cX2_isAheadOf 29 = .ok (.getfield 25, 3) := by decide +kernel
theorem dX2_isAheadOf_32 : decode cX2_isAheadOf 32 = .ok (.aload_n 1, 1) := by decide +kernel
theorem dX2_isAheadOf_33 : decode cX2_isAheadOf 33 = .ok (.getfield 25, 3) := by decide +kernel
theorem dX2_isAheadOf_36 : decode cX2_isAheadOf 36 = .ok (.if_icmp .ge 7, 3) := by decide +kernel
theorem dX2_isAheadOf_39 : decode cX2_isAheadOf 39 = .ok (.iconst 1, 1) := by decide +kernel
theorem dX2_isAheadOf_40 : decode cX2_isAheadOf 40 = .ok (.goto 4, 3) := by decide +kernel
theorem dX2_isAheadOf_43 : decode cX2_isAheadOf 43 = .ok (.iconst 0, 1) := by decide +kernel
theorem dX2_isAheadOf_44 : decode cX2_isAheadOf 44 = .ok (.ireturn, 1) := by decide +kernel
theorem dX3_init_0 : decode cX3_init 0 = .ok (.aload_n 0, 1) := by decide +kernel
theorem dX3_init_1 : decode cX3_init 1 = .ok (.invokespecial 3, 3) := by decide +kernel
theorem dX3_init_4 : decode cX3_init 4 = .ok (.aload_n 0, 1) := by decide +kernel
theorem dX3_init_5 : decode cX3_init 5 = .ok (.bipush 60, 2) := by decide +kernel
theorem dX3_init_7 : decode cX3_init 7 = .ok (.newarray .char, 2) := by decide +kernel
theorem dX3_init_9 : decode cX3_init 9 = .ok (.putfield 9, 3) := by decide +kernel
theorem dX3_init_12 : decode cX3_init 12 = .ok (.aload_n 0, 1) := by decide +kernel
theorem dX3_init_13 : decode cX3_init 13 = .ok (.iconst (-1), 1) := by decide +kernel
theorem dX3_init_14 : decode cX3_init 14 = .ok (.putfield 15, 3) := by decide +kernel
theorem dX3_init_17 : decode cX3_init 17 = .ok (.return_, 1) := by decide +kernel
theorem dX3_carryOutAll_0 : decode cX3_carryOutAll 0 = .ok (.iconst 0, 1) := by decide +kernel
theorem dX3_carryOutAll_1 : decode cX3_carryOutAll 1 = .ok (.istore_n 2, 1) := by decide +kernel
theorem dX3_carryOutAll_2 : decode cX3_carryOutAll 2 = .ok (.iconst 1, 1) := by decide +kernel
theorem dX3_carryOutAll_3 : decode cX3_carryOutAll 3 = .ok (.istore_n 3, 1) := by decide +kernel
theorem dX3_carryOutAll_4 : decode cX3_carryOutAll 4 = .ok (.aload_n 0, 1) := by decide +kernel
theorem dX3_carryOutAll_5 : decode cX3_carryOutAll 5 = .ok (.iconst 0, 1) := by decide +kernel
theorem dX3_carryOutAll_6 : decode cX3_carryOutAll 6 = .ok (.putfield 19, 3) := by decide +kernel
theorem dX3_carryOutAll_9 : decode cX3_carryOutAll 9 = .ok (.aload_n 0, 1) := by decide +kernel
theorem dX3_carryOutAll_10 : decode cX3_carryOutAll 10 = .ok (.iconst 0, 1) := by decide +kernel
theorem dX3_carryOutAll_11 : decode cX3_carryOutAll 11 = .ok (.putfield 22, 3) := by decide +kernel
theorem dX3_carryOutAll_14 : decode cX3_carryOutAll 14 = .ok (.bipush 60, 2) := by decide +kernel
theorem dX3_carryOutAll_16 : decode cX3_carryOutAll 16 = .ok (.istore 4, 2) := by decide +kernel
theorem dX3_carryOutAll_18 : decode cX3_carryOutAll 18 = .ok (.iload_n 3, 1) := by decide +kernel
theorem dX3_carryOutAll_19 : decode cX3_carryOutAll 19 = .ok (.ifCond .eq 68, 3) := by decide +kernel
theorem dX3_carryOutAll_22 : decode cX3_carryOutAll 22 = .ok (.iload 4, 2) := by decide +kernel
theorem dX3_carryOutAll_24 : decode cX3_carryOutAll 24 = .ok (.ifCond .le 63, 3) := by decide +kernel
theorem dX3_carryOutAll_27 : decode cX3_carryOutAll 27 = .ok (.aload_n 0, 1) := by decide +kernel
theorem dX3_carryOutAll_28 : decode cX3_carryOutAll 28 = .ok (.invokevirtual 25, 3) := by decide +kernel
theorem dX3_carryOutAll_31 : decode cX3_carryOutAll 31 = .ok (.ifCond .ne 14, 3) := by decide +kernel
theorem dX3_carryOutAll_34 : decode cX3_carryOutAll 34 = .ok (.aload_n 0, 1) := by decide +kernel
theorem dX3_carryOutAll_35 : decode cX3_carryOutAll 35 = .ok (.aload_n 0, 1) := by decide +kernel
theorem dX3_carryOutAll_36 : decode cX3_carryOutAll 36 = .ok (.getfield 19, 3) := by decide +kernel
theorem dX3_carryOutAll_39 : decode cX3_carryOutAll 39 = .ok (.putfield 15, 3) := by decide +kernel
theorem dX3_carryOutAll_42 : decode cX3_carryOutAll 42 = .ok (.bipush (-2), 2) := by decide +kernel
theorem dX3_carryOutAll_44 : decode cX3_carryOutAll 44 = .ok (.ireturn, 1) := by decide +kernel
theorem dX3_carryOutAll_45 : decode cX3_carryOutAll 45 = .ok (.iload_n 2, 1) := by decide +kernel
theorem dX3_carryOutAll_46 : decode cX3_carryOutAll 46 = .ok (.ifCond .ne 18, 3) := by decide +kernel
theorem dX3_carryOutAll_49 : decode cX3_carryOutAll 49 = .ok (.aload_n 0, 1) := by decide +kernel
theorem dX3_carryOutAll_50 : decode cX3_carryOutAll 50 = .ok (.aload_n 1, 1) := by decide +kernel
theorem dX3_carryOutAll_51 : decode cX3_carryOutAll 51 = .ok (.invokevirtual 29, 3) := by decide +kernel
theorem dX3_carryOutAll_54 : decode cX3_carryOutAll 54 = .ok (.istore_n 2, 1) := by decide +kernel
theorem dX3_carryOutAll_55 : decode cX3_carryOutAll 55 = .ok (.iload_n 2, 1) := by decide +kernel
theorem dX3_carryOutAll_56 : decode cX3_carryOutAll 56 = .ok (.ifCond .ne 8, 3) := by decide +kernel
theorem dX3_carryOutAll_59 : decode cX3_carryOutAll 59 = .ok (.aload_n 0, 1) := by decide +kernel
theorem dX3_carryOutAll_60 : decode cX3_carryOutAll 60 = .ok (.aload_n 1, 1) := by decide +kernel
theorem dX3_carryOutAll_61 : decode cX3_carryOutAll 61 = .ok (.invokevirtual 33, 3) := by decide +kernel
theorem dX3_carryOutAll_64 : decode cX3_carryOutAll 64 = .ok (.aload_n 0, 1) := by decide +kernel
theorem dX3_carryOutAll_65 : decode cX3_carryOutAll 65 = .ok (.dup, 1) := by decide +kernel
theorem dX3_carryOutAll_66 : decode cX3_carryOutAll 66 = .ok (.getfield 22, 3) := by decide +kernel
theorem dX3_carryOutAll_69 : decode cX3_carryOutAll 69 = .ok (.iconst 1, 1) := by decide +kernel
theorem dX3_carryOutAll_70 : decode cX3_carryOutAll 70 = .ok (.iadd, 1) := by decide +kernel
theorem dX3_carryOutAll_71 : decode cX3_carryOutAll 71 = .ok (.putfield 22, 3) := by decide +kernel
theorem dX3_carryOutAll_74 : decode cX3_carryOutAll 74 = .ok (.aload_n 0, 1) := by decide +kernel
theorem dX3_carryOutAll_75 : decode cX3_carryOutAll 75 = .ok (.bipush 59, 2) := by decide +kernel
theorem dX3_carryOutAll_77 : decode cX3_carryOutAll 77 = .ok (.invokevirtual 37, 3) := by decide +kernel
theorem dX3_carryOutAll_80 : decode cX3_carryOutAll 80 = .ok (.istore_n 3, 1) := by decide +kernel
theorem dX3_carryOutAll_81 : decode cX3_carryOutAll 81 = .ok (.iinc 4 (-1), 3) := by decide +kernel
theorem dX3_carryOutAll_84 : decode cX3_carryOutAll 84 = .ok (.goto (-66), 3) := by decide +kernel
theorem dX3_carryOutAll_87 : decode cX3_carryOutAll 87 = .ok (.aload_n 0, 1) := by decide +kernel
theorem dX3_carryOutAll_88 : decode cX3_carryOutAll 88 = .ok (.aload_n 0, 1) := by decide +kernel
theorem dX3_carryOutAll_89 : decode cX3_carryOutAll 89 = .ok (.getfield 19, 3) := by decide +kernel
theorem dX3_carryOutAll_92 : decode cX3_carryOutAll 92 = .ok (.aload_n 0, 1) := by decide +kernel
theorem dX3_carryOutAll_93 : decode cX3_carryOutAll 93 = .ok (.getfield 41, 3) := by decide +kernel
theorem dX3_carryOutAll_96 : decode cX3_carryOutAll 96 = .ok (.if_icmp .ge 10, 3) := by decide +kernel
theorem dX3_carryOutAll_99 : decode cX3_carryOutAll 99 = .ok (.aload_n 0, 1) := by decide +kernel
theorem dX3_carryOutAll_100 : decode cX3_carryOutAll 100 = .ok (.getfield 19, 3) := by decide +kernel
theorem dX3_carryOutAll_103 : decode cX3_carryOutAll 103 = .ok (.goto 4, 3) := by decide +kernel
theorem dX3_carryOutAll_106 : decode cX3_carryOutAll 106 = .ok (.iconst (-1), 1) := by decide +kernel
theorem dX3_carryOutAll_107 : decode cX3_carryOutAll 107 = .ok (.putfield 15, 3) := by decide +kernel
theorem dX3_carryOutAll_110 : decode cX3_carryOutAll 110 = .ok (.aload_n 0, 1) := by decide +kernel
theorem dX3_carryOutAll_111 : decode cX3_carryOutAll 111 = .ok (.getfield 15, 3) := by decide +kernel
theorem dX3_carryOutAll_114 : decode cX3_carryOutAll 114 = .ok (.iconst (-1), 1) := by decide +kernel
theorem dX3_carryOutAll_115 : decode cX3_carryOutAll 115 = .ok (.if_icmp .ne 7, 3) := by decide +kernel
theorem dX3_carryOutAll_118 : decode cX3_carryOutAll 118 = .ok (.iload_n 2, 1) := by decide +kernel
theorem dX3_carryOutAll_119 : decode cX3_carryOutAll 119 = .ok (.goto 5, 3) := by decide +kernel
theorem dX3_carryOutAll_122 : decode cX3_carryOutAll 122 = .ok (.bipush (-2), 2) := by decide +kernel
theorem dX3_carryOutAll_124 : decode cX3_carryOutAll 124 = .ok (.ireturn, 1) := by decide +kernel
theorem dX3_findOrder_0 : decode cX3_findOrder 0 = .ok (.aload_n 0, 1) := by decide +kernel
theorem dX3_findOrder_1 : decode cX3_findOrder 1 = .ok (.aload_n 0, 1) := by decide +kernel
theorem dX3_findOrder_2 : decode cX3_findOrder 2 = .ok (.invokevirtual 44, 3) := by decide +kernel
theorem dX3_findOrder_5 : decode cX3_findOrder 5 = .ok (.putfield 48, 3) := by decide +kernel
theorem dX3_findOrder_8 : decode cX3_findOrder 8 = .ok (.aload_n 0, 1) := by decide +kernel
theorem dX3_findOrder_9 : decode cX3_findOrder 9 = .ok (.getfield 48, 3) := by decide +kernel
theorem dX3_findOrder_12 : decode cX3_findOrder 12 = .ok (.tableswitch 190 98 117 #[111, 126, 190, 158, 190, 190, 158, 190, 190, 190, 190, 190, 190, 190, 190, 190, 96, 190, 190, 126], 96) := by decide +kernel
theorem dX3_findOrder_108 : decode cX3_findOrder 108 = .ok (.aload_n 0, 1) := by decide +kernel
theorem dX3_findOrder_109 : decode cX3_findOrder 109 = .ok (.dup, 1) := by decide +kernel
theorem dX3_findOrder_110 : decode cX3_findOrder 110 = .ok (.getfield 19, 3) := by decide +kernel
theorem dX3_findOrder_113 : decode cX3_findOrder 113 = .ok (.iconst 1, 1) := by decide +kernel
theorem dX3_findOrder_114 : decode cX3_findOrder 114 = .ok (.iadd, 1) := by decide +kernel
theorem dX3_findOrder_115 : decode cX3_findOrder 115 = .ok (.putfield 19, 3) := by decide +kernel
theorem dX3_findOrder_118 : decode cX3_findOrder 118 = .ok (.aload_n 0, 1) := by decide +kernel
theorem dX3_findOrder_119 : decode cX3_findOrder 119 = .ok (.invokevirtual 51, 3) := by decide +kernel
theorem dX3_findOrder_122 : decode cX3_findOrder 122 = .ok (.ireturn, 1) := by decide +kernel
theorem dX3_findOrder_123 : decode cX3_findOrder 123 = .ok (.aload_n 0, 1) := by decide +kernel
theorem dX3_findOrder_124 : decode cX3_findOrder 124 = .ok (.dup, 1) := by decide +kernel
theorem dX3_findOrder_125 : decode cX3_findOrder 125 = .ok (.getfield 19, 3) := by decide +kernel
theorem dX3_findOrder_128 : decode cX3_findOrder 128 = .ok (.iconst 1, 1) := by decide +kernel
theorem dX3_findOrder_129 : decode cX3_findOrder 129 = .ok (.iadd, 1) := by decide +kernel
theorem dX3_findOrder_130 : decode cX3_findOrder 130 = .ok (.putfield 19, 3) := by decide +kernel
theorem dX3_findOrder_133 : decode cX3_findOrder 133 = .ok (.aload_n 0, 1) := by decide +kernel
theorem dX3_findOrder_134 : decode cX3_findOrder 134 = .ok (.invokevirtual 54, 3) := by decide +kernel
theorem dX3_findOrder_137 : decode cX3_findOrder 137 = .ok (.ireturn, 1) := by decide +kernel
theorem dX3_findOrder_138 : decode cX3_findOrder 138 = .ok (.aload_n 0, 1) := by decide +kernel
theorem dX3_findOrder_139 : decode cX3_findOrder 139 = .ok (.dup, 1) := by decide +kernel
theorem dX3_findOrder_140 : decode cX3_findOrder 140 = .ok (.getfield 19, 3) := by decide +kernel
theorem dX3_findOrder_143 : decode cX3_findOrder 143 = .ok (.iconst 1, 1) := by decide +kernel
theorem dX3_findOrder_144 : decode cX3_findOrder 144 = .ok (.iadd, 1) := by decide +kernel
theorem dX3_findOrder_145 : decode cX3_findOrder 145 = .ok (.putfield 19, 3) := by decide +kernel
theorem dX3_findOrder_148 : decode cX3_findOrder 148 = .ok (.aload_n 0, 1) := by decide +kernel
theorem dX3_findOrder_149 : decode cX3_findOrder 149 = .ok (.aload_n 0, 1) := by decide +kernel
theorem dX3_findOrder_150 : decode cX3_findOrder 150 = .ok (.invokevirtual 57, 3) := by decide +kernel
theorem dX3_findOrder_153 : decode cX3_findOrder 153 = .ok (.putfield 60, 3) := by decide +kernel
theorem dX3_findOrder_156 : decode cX3_findOrder 156 = .ok (.aload_n 0, 1) := by decide +kernel
theorem dX3_findOrder_157 : decode cX3_findOrder 157 = .ok (.getfield 60, 3) := by decide +kernel
theorem dX3_findOrder_160 : decode cX3_findOrder 160 = .ok (.iconst (-1), 1) := by decide +kernel
theorem dX3_findOrder_161 : decode cX3_findOrder 161 = .ok (.if_icmp .eq 7, 3) := by decide +kernel
theorem dX3_findOrder_164 : decode cX3_findOrder 164 = .ok (.iconst 1, 1) := by decide +kernel
theorem dX3_findOrder_165 : decode cX3_findOrder 165 = .ok (.goto 4, 3) := by decide +kernel
theorem dX3_findOrder_168 : decode cX3_findOrder 168 = .ok (.iconst 0, 1) := by decide +kernel
theorem dX3_findOrder_169 : decode cX3_findOrder 169 = .ok (.ireturn, 1) := by decide +kernel
theorem dX3_findOrder_170 : decode cX3_findOrder 170 = .ok (.aload_n 0, 1) := by decide +kernel
theorem dX3_findOrder_171 : decode cX3_findOrder 171 = .ok (.dup, 1) := by decide +kernel
theorem dX3_findOrder_172 : decode cX3_findOrder 172 = .ok (.getfield 19, 3) := by decide +kernel
theorem dX3_findOrder_175 : decode cX3_findOrder 175 = .ok (.iconst 1, 1) := by decide +kernel
theorem dX3_findOrder_176 : decode cX3_findOrder 176 = .ok (.iadd, 1) := by decide +kernel
theorem dX3_findOrder_177 : decode cX3_findOrder 177 = .ok (.putfield 19, 3) := by decide +kernel
theorem dX3_findOrder_180 : decode cX3_findOrder 180 = .ok (.aload_n 0, 1) := by decide +kernel
theorem dX3_findOrder_181 : decode cX3_findOrder 181 = .ok (.aload_n 0, 1) := by decide +kernel
theorem dX3_findOrder_182 : decode cX3_findOrder 182 = .ok (.invokevirtual 63, 3) := by decide +kernel
theorem dX3_findOrder_185 : decode cX3_findOrder 185 = .ok (.putfield 60, 3) := by decide +kernel
theorem dX3_findOrder_188 : decode cX3_findOrder 188 = .ok (.aload_n 0, 1) := by decide +kernel
theorem dX3_findOrder_189 : decode cX3_findOrder 189 = .ok (.getfield 60, 3) := by decide +kernel
theorem dX3_findOrder_192 : decode cX3_findOrder 192 = .ok (.iconst (-1), 1) := by decide +kernel
theorem dX3_findOrder_193 : decode cX3_findOrder 193 = .ok (.if_icmp .eq 7, 3) := by decide +kernel
theorem dX3_findOrder_196 : decode cX3_findOrder 196 = .ok (.iconst 1, 1) := by decide +kernel
theorem dX3_findOrder_197 : decode cX3_findOrder 197 = .ok (.goto 4, 3) := by decide +kernel
theorem dX3_findOrder_200 : decode cX3_findOrder 200 = .ok (.iconst 0, 1) := by decide +kernel
theorem dX3_findOrder_201 : decode cX3_findOrder 201 = .ok (.ireturn, 1) := by decide +kernel
theorem dX3_findOrder_202 : decode cX3_findOrder 202 = .ok (.iconst 0, 1) := by decide +kernel
theorem dX3_findOrder_203 : decode cX3_findOrder 203 = .ok (.ireturn, 1) := by decide +kernel
theorem dX3_findRollNumbers_0 : decode cX3_findRollNumbers 0 = .ok (.aload_n 0, 1) := by decide +kernel
theorem dX3_findRollNumbers_1 : decode cX3_findRollNumbers 1 = .ok (.aload_n 0, 1) := by decide +kernel
theorem dX3_findRollNumbers_2 : decode cX3_findRollNumbers 2 = .ok (.invokevirtual 57, 3) := by decide +kernel
theorem dX3_findRollNumbers_5 : decode cX3_findRollNumbers 5 = .ok (.putfield 60, 3) := by decide +kernel
theorem dX3_findRollNumbers_8 : decode cX3_findRollNumbers 8 = .ok (.aload_n 0, 1) := by decide +kernel
theorem dX3_findRollNumbers_9 : decode cX3_findRollNumbers 9 = .ok (.getfield 60, 3) := by decide +kernel
theorem dX3_findRollNumbers_12 : decode cX3_findRollNumbers 12 = .ok (.iconst (-1), 1) := by decide +kernel
theorem dX3_findRollNumbers_13 : decode cX3_findRollNumbers 13 = .ok (.if_icmp .eq 12, 3) := by decide +kernel
theorem dX3_findRollNumbers_16 : decode cX3_findRollNumbers 16 = .ok (.aload_n 0, 1) := by decide +kernel
theorem dX3_findRollNumbers_17 : decode cX3_findRollNumbers 17 = .ok (.bipush 58, 2) := by decide +kernel
theorem dX3_findRollNumbers_19 : decode cX3_findRollNumbers 19 = .ok (.invokevirtual 37, 3) := by decide +kernel
theorem dX3_findRollNumbers_22 : decode cX3_findRollNumbers 22 = .ok (.ifCond .ne 5, 3) := by decide +kernel
theorem dX3_findRollNumbers_25 : decode cX3_findRollNumbers 25 = .ok (.iconst 0, 1) := by decide +kernel
theorem dX3_findRollNumbers_26 : decode cX3_findRollNumbers 26 = .ok (.ireturn, 1) := by decide +kernel
theorem dX3_findRollNumbers_27 : decode cX3_findRollNumbers 27 = .ok (.aload_n 0, 1) := by decide +kernel
theorem dX3_findRollNumbers_28 : decode cX3_findRollNumbers 28 = .ok (.aload_n 0, 1) := by decide +kernel
theorem dX3_findRollNumbers_29 : decode cX3_findRollNumbers 29 = .ok (.invokevirtual 57, 3) := by decide +kernel
theorem dX3_findRollNumbers_32 : decode cX3_findRollNumbers 32 = .ok (.putfield 66, 3) := by decide +kernel
theorem dX3_findRollNumbers_35 : decode cX3_findRollNumbers 35 = .ok (.aload_n 0, 1) := by decide +kernel
theorem dX3_findRollNumbers_36 : decode cX3_findRollNumbers 36 = .ok (.getfield 66, 3) := by decide +kernel
theorem dX3_findRollNumbers_39 : decode cX3_findRollNumbers 39 = .ok (.iconst (-1), 1) := by decide +kernel
theorem dX3_findRollNumbers_40 : decode cX3_findRollNumbers 40 = .ok (.if_icmp .eq 12, 3) := by decide +kernel
theorem dX3_findRollNumbers_43 : decode cX3_findRollNumbers 43 = .ok (.aload_n 0, 1) := by decide +kernel
theorem dX3_findRollNumbers_44 : decode cX3_findRollNumbers 44 = .ok (.bipush 43, 2) := by decide +kernel
theorem dX3_findRollNumbers_46 : decode cX3_findRollNumbers 46 = .ok (.invokevirtual 37, 3) := by decide +kernel
theorem dX3_findRollNumbers_49 : decode cX3_findRollNumbers 49 = .ok (.ifCond .ne 5, 3) := by decide +kernel
theorem dX3_findRollNumbers_52 : decode cX3_findRollNumbers 52 = .ok (.iconst 0, 1) := by decide +kernel
theorem dX3_findRollNumbers_53 : decode cX3_findRollNumbers 53 = .ok (.ireturn, 1) := by decide +kernel
theorem dX3_findRollNumbers_54 : decode cX3_findRollNumbers 54 = .ok (.aload_n 0, 1) := by decide +kernel
theorem dX3_findRollNumbers_55 : decode cX3_findRollNumbers 55 = .ok (.aload_n 0, 1) := by decide +kernel
theorem dX3_findRollNumbers_56 : decode cX3_findRollNumbers 56 = .ok (.invokevirtual 57, 3) := by decide +kernel
theorem dX3_findRollNumbers_59 : decode cX3_findRollNumbers 59 = .ok (.putfield 69, 3) := by decide +kernel
theorem dX3_findRollNumbers_62 : decode cX3_findRollNumbers 62 = .ok (.aload_n 0, 1) := by decide +kernel
theorem dX3_findRollNumbers_63 : decode cX3_findRollNumbers 63 = .ok (.getfield 69, 3) := by decide +kernel
theorem dX3_findRollNumbers_66 : decode cX3_findRollNumbers 66 = .ok (.iconst (-1), 1) := by decide +kernel
theorem dX3_findRollNumbers_67 : decode cX3_findRollNumbers 67 = .ok (.if_icmp .eq 7, 3) := by decide +kernel
theorem dX3_findRollNumbers_70 : decode cX3_findRollNumbers 70 = .ok (.iconst 1, 1) := by decide +kernel
theorem dX3_findRollNumbers_71 : decode cX3_findRollNumbers 71 = .ok (.goto 4, 3) := by decide +kernel
theorem dX3_findRollNumbers_74 : decode cX3_findRollNumbers 74 = .ok (.iconst 0, 1) := by decide +kernel
theorem dX3_findRollNumbers_75 : decode cX3_findRollNumbers 75 = .ok (.ireturn, 1) := by decide +kernel
theorem dX3_findBowlNumbers_0 : decode cX3_findBowlNumbers 0 = .ok (.aload_n 0, 1) := by decide +kernel
theorem dX3_findBowlNumbers_1 : decode cX3_findBowlNumbers 1 = .ok (.aload_n 0, 1) := by decide +kernel
theorem dX3_findBowlNumbers_2 : decode cX3_findBowlNumbers 2 = .ok (.invokevirtual 63, 3) := by decide +kernel
theorem dX3_findBowlNumbers_5 : decode cX3_findBowlNumbers 5 = .ok (.putfield 60, 3) := by decide +kernel
theorem dX3_findBowlNumbers_8 : decode cX3_findBowlNumbers 8 = .ok (.aload_n 0, 1) := by decide +kernel
theorem dX3_findBowlNumbers_9 : decode cX3_findBowlNumbers 9 = .ok (.getfield 60, 3) := by decide +kernel
theorem dX3_findBowlNumbers_12 : decode cX3_findBowlNumbers 12 = .ok (.iconst (-1), 1) := by decide +kernel
theorem dX3_findBowlNumbers_13 : decode cX3_findBowlNumbers 13 = .ok (.if_icmp .eq 12, 3) := by decide +kernel
theorem dX3_findBowlNumbers_16 : decode cX3_findBowlNumbers 16 = .ok (.aload_n 0, 1) := by decide +kernel
theorem dX3_findBowlNumbers_17 : decode cX3_findBowlNumbers 17 = .ok (.bipush 42, 2) := by decide +kernel
theorem dX3_findBowlNumbers_19 : decode cX3_findBowlNumbers 19 = .ok (.invokevirtual 37, 3) := by decide +kernel
theorem dX3_findBowlNumbers_22 : decode cX3_findBowlNumbers 22 = .ok (.ifCond .ne 5, 3) := by decide +kernel
theorem dX3_findBowlNumbers_25 : decode cX3_findBowlNumbers 25 = .ok (.iconst 0, 1) := by decide +kernel
theorem dX3_findBowlNumbers_26 : decode cX3_findBowlNumbers 26 = .ok (.ireturn, 1) := by decide +kernel
theorem dX3_findBowlNumbers_27 : decode cX3_findBowlNumbers 27 = .ok (.aload_n 0, 1) := by decide +kernel
theorem dX3_findBowlNumbers_28 : decode cX3_findBowlNumbers 28 = .ok (.aload_n 0, 1) := by decide +kernel
theorem dX3_findBowlNumbers_29 : decode cX3_findBowlNumbers 29 = .ok (.invokevirtual 63, 3) := by decide +kernel
theorem dX3_findBowlNumbers_32 : decode cX3_findBowlNumbers 32 = .ok (.putfield 66, 3) := by decide +kernel
theorem dX3_findBowlNumbers_35 : decode cX3_findBowlNumbers 35 = .ok (.aload_n 0, 1) := by decide +kernel
theorem dX3_findBowlNumbers_36 : decode cX3_findBowlNumbers 36 = .ok (.getfield 66, 3) := by decide +kernel
theorem dX3_findBowlNumbers_39 : decode cX3_findBowlNumbers 39 = .ok (.iconst (-1), 1) := by decide +kernel
theorem dX3_findBowlNumbers_40 : decode cX3_findBowlNumbers 40 = .ok (.if_icmp .eq 7, 3) := by decide +kernel
theorem dX3_findBowlNumbers_43 : decode cX3_findBowlNumbers 43 = .ok (.iconst 1, 1) := by decide +kernel
theorem dX3_findBowlNumbers_44 : decode cX3_findBowlNumbers 44 = .ok (.goto 4, 3) := by decide +kernel
theorem dX3_findBowlNumbers_47 : decode cX3_findBowlNumbers 47 = .ok (.iconst 0, 1) := by decide +kernel
theorem dX3_findBowlNumbers_48 : decode cX3_findBowlNumbers 48 = .ok (.ireturn, 1) := by decide +kernel
theorem dX3_findNumber_0 : decode cX3_findNumber 0 = .ok (.aload_n 0, 1) := by decide +kernel
theorem dX3_findNumber_1 : decode cX3_findNumber 1 = .ok (.invokevirtual 57, 3) := by decide +kernel
theorem dX3_findNumber_4 : decode cX3_findNumber 4 = .ok (.istore_n 1, 1) := by decide +kernel
theorem dX3_findNumber_5 : decode cX3_findNumber 5 = .ok (.iload_n 1, 1) := by decide +kernel
theorem dX3_findNumber_6 : decode cX3_findNumber 6 = .ok (.iconst (-1), 1) := by decide +kernel
theorem dX3_findNumber_7 : decode cX3_findNumber 7 = .ok (.if_icmp .ne 5, 3) := by decide +kernel
theorem dX3_findNumber_10 : decode cX3_findNumber 10 = .ok (.iconst (-1), 1) := by decide +kernel
theorem dX3_findNumber_11 : decode cX3_findNumber 11 = .ok (.ireturn, 1) := by decide +kernel
theorem dX3_findNumber_12 : decode cX3_findNumber 12 = .ok (.aload_n 0, 1) := by decide +kernel
theorem dX3_findNumber_13 : decode cX3_findNumber 13 = .ok (.invokevirtual 57, 3) := by decide +kernel
theorem dX3_findNumber_16 : decode cX3_findNumber 16 = .ok (.istore_n 2, 1) := by decide +kernel
theorem dX3_findNumber_17 : decode cX3_findNumber 17 = .ok (.iload_n 2, 1) := by decide +kernel
theorem dX3_findNumber_18 : decode cX3_findNumber 18 = .ok (.iconst (-1), 1) := by decide +kernel
theorem dX3_findNumber_19 : decode cX3_findNumber 19 = .ok (.if_icmp .ne 7, 3) := by decide +kernel
theorem dX3_findNumber_22 : decode cX3_findNumber 22 = .ok (.iload_n 1, 1) := by decide +kernel
theorem dX3_findNumber_23 : decode cX3_findNumber 23 = .ok (.goto 9, 3) := by decide +kernel
theorem dX3_findNumber_26 : decode cX3_findNumber 26 = .ok (.iload_n 1, 1) := by decide +kernel
theorem dX3_findNumber_27 : decode cX3_findNumber 27 = .ok (.bipush 10, 2) := by decide +kernel
theorem dX3_findNumber_29 : decode cX3_findNumber 29 = .ok (.imul, 1) := by decide +kernel
theorem dX3_findNumber_30 : decode cX3_findNumber 30 = .ok (.iload_n 2, 1) := by decide +kernel
theorem dX3_findNumber_31 : decode cX3_findNumber 31 = .ok (.iadd, 1) := by decide +kernel
theorem dX3_findNumber_32 : decode cX3_findNumber 32 = .ok (.ireturn, 1) := by decide +kernel
theorem dX3_findDigit_0 : decode cX3_findDigit 0 = .ok (.aload_n 0, 1) := by decide +kernel
theorem dX3_findDigit_1 : decode cX3_findDigit 1 = .ok (.invokevirtual 44, 3) := by decide +kernel
theorem dX3_findDigit_4 : decode cX3_findDigit 4 = .ok (.istore_n 1, 1) := by decide +kernel
theorem dX3_findDigit_5 : decode cX3_findDigit 5 = .ok (.iload_n 1, 1) := by decide +kernel
theorem dX3_findDigit_6 : decode cX3_findDigit 6 = .ok (.bipush 48, 2) := by decide +kernel
theorem dX3_findDigit_8 : decode cX3_findDigit 8 = .ok (.if_icmp .lt 9, 3) := by decide +kernel
theorem dX3_findDigit_11 : decode cX3_findDigit 11 = .ok (.iload_n 1, 1) := by decide +kernel
theorem dX3_findDigit_12 : decode cX3_findDigit 12 = .ok (.bipush 57, 2) := by decide +kernel
theorem dX3_findDigit_14 : decode cX3_findDigit 14 = .ok (.if_icmp .le 5, 3) := by decide +kernel
theorem dX3_findDigit_17 : decode cX3_findDigit 17 = .ok (.iconst (-1), 1) := by decide +kernel
theorem dX3_findDigit_18 : decode cX3_findDigit 18 = .ok (.ireturn, 1) := by decide +kernel
theorem dX3_findDigit_19 : decode cX3_findDigit 19 = .ok (.aload_n 0, 1) := by decide +kernel
theorem dX3_findDigit_20 : decode cX3_findDigit 20 = .ok (.dup, 1) := by decide +kernel
theorem dX3_findDigit_21 : decode cX3_findDigit 21 = .ok (.getfield 19, 3) := by decide +kernel
theorem dX3_findDigit_24 : decode cX3_findDigit 24 = .ok (.iconst 1, 1) := by decide +kernel
theorem dX3_findDigit_25 : decode cX3_findDigit 25 = .ok (.iadd, 1) := by decide +kernel
theorem dX3_findDigit_26 : decode cX3_findDigit 26 = .ok (.putfield 19, 3) := by decide +kernel
theorem dX3_findDigit_29 : decode cX3_findDigit 29 = .ok (.iload_n 1, 1) := by decide +kernel
theorem dX3_findDigit_30 : decode cX3_findDigit 30 = .ok (.bipush 48, 2) := by decide +kernel
theorem dX3_findDigit_32 : decode cX3_findDigit 32 = .ok (.isub, 1) := by decide +kernel
theorem dX3_findDigit_33 : decode cX3_findDigit 33 = .ok (.ireturn, 1) := by decide +kernel
theorem dX3_skip_0 : decode cX3_skip 0 = .ok (.aload_n 0, 1) := by decide +kernel
theorem dX3_skip_1 : decode cX3_skip 1 = .ok (.invokevirtual 44, 3) := by decide +kernel
theorem dX3_skip_4 : decode cX3_skip 4 = .ok (.iload_n 1, 1) := by decide +kernel
theorem dX3_skip_5 : decode cX3_skip 5 = .ok (.if_icmp .eq 5, 3) := by decide +kernel
theorem dX3_skip_8 : decode cX3_skip 8 = .ok (.iconst 0, 1) := by decide +kernel
theorem dX3_skip_9 : decode cX3_skip 9 = .ok (.ireturn, 1) := by decide +kernel
theorem dX3_skip_10 : decode cX3_skip 10 = .ok (.aload_n 0, 1) := by decide +kernel
theorem dX3_skip_11 : decode cX3_skip 11 = .ok (.dup, 1) := by decide +kernel
theorem dX3_skip_12 : decode cX3_skip 12 = .ok (.getfield 19, 3) := by decide +kernel
theorem dX3_skip_15 : decode cX3_skip 15 = .ok (.iconst 1, 1) := by decide +kernel
theorem dX3_skip_16 : decode cX3_skip 16 = .ok (.iadd, 1) := by decide +kernel
theorem dX3_skip_17 : decode cX3_skip 17 = .ok (.putfield 19, 3) := by decide +kernel
theorem dX3_skip_20 : decode cX3_skip 20 = .ok (.iconst 1, 1) := by decide +kernel
theorem dX3_skip_21 : decode cX3_skip 21 = .ok (.ireturn, 1) := by decide +kernel
theorem dX3_signAhead_0 : decode cX3_signAhead 0 = .ok (.aload_n 0, 1) := by decide +kernel
theorem dX3_signAhead_1 : decode cX3_signAhead 1 = .ok (.getfield 19, 3) := by decide +kernel
theorem dX3_signAhead_4 : decode cX3_signAhead 4 = .ok (.aload_n 0, 1) := by decide +kernel
theorem dX3_signAhead_5 : decode cX3_signAhead 5 = .ok (.getfield 41, 3) := by decide +kernel
theorem dX3_signAhead_8 : decode cX3_signAhead 8 = .ok (.if_icmp .ge 15, 3) := by decide +kernel
theorem dX3_signAhead_11 : decode cX3_signAhead 11 = .ok (.aload_n 0, 1) := by decide +kernel
theorem dX3_signAhead_12 : decode cX3_signAhead 12 = .ok (.getfield 9, 3) := by decide +kernel
theorem dX3_signAhead_15 : decode cX3_signAhead 15 = .ok (.aload_n 0, 1) := by decide +kernel
theorem dX3_signAhead_16 : decode cX3_signAhead 16 = .ok (.getfield 19, 3) := by decide +kernel
theorem dX3_signAhead_19 : decode cX3_signAhead 19 = .ok (.caload, 1) := by decide +kernel
theorem dX3_signAhead_20 : decode cX3_signAhead 20 = .ok (.goto 4, 3) := by decide +kernel
theorem dX3_signAhead_23 : decode cX3_signAhead 23 = .ok (.iconst (-1), 1) := by decide +kernel
theorem dX3_signAhead_24 : decode cX3_signAhead 24 = .ok (.ireturn, 1) := by decide +kernel
theorem dX3_verdictOn_0 : decode cX3_verdictOn 0 = .ok (.aload_n 0, 1) := by decide +kernel
theorem dX3_verdictOn_1 : decode cX3_verdictOn 1 = .ok (.getfield 48, 3) := by decide +kernel
theorem dX3_verdictOn_4 : decode cX3_verdictOn 4 = .ok (.lookupswitch 111 #[(98, 69), (99, 82), (101, 102), (114, 52), (117, 92)], 52) := by decide +kernel
theorem dX3_verdictOn_56 : decode cX3_verdictOn 56 = .ok (.aload_n 1, 1) := by decide +kernel
theorem dX3_verdictOn_57 : decode cX3_verdictOn 57 = .ok (.aload_n 0, 1) := by decide +kernel
theorem dX3_verdictOn_58 : decode cX3_verdictOn 58 = .ok (.getfield 60, 3) := by decide +kernel
theorem dX3_verdictOn_61 : decode cX3_verdictOn 61 = .ok (.aload_n 0, 1) := by decide +kernel
theorem dX3_verdictOn_62 : decode cX3_verdictOn 62 = .ok (.getfield 66, 3) := by decide +kernel
theorem dX3_verdictOn_65 : decode cX3_verdictOn 65 = .ok (.aload_n 0, 1) := by decide +kernel
theorem dX3_verdictOn_66 : decode cX3_verdictOn 66 = .ok (.getfield 69, 3) := by decide +kernel
theorem dX3_verdictOn_69 : decode cX3_verdictOn 69 = .ok (.invokevirtual 72, 3) := by decide +kernel
theorem dX3_verdictOn_72 : decode cX3_verdictOn 72 = .ok (.ireturn, 1) := by decide +kernel
theorem dX3_verdictOn_73 : decode cX3_verdictOn 73 = .ok (.aload_n 1, 1) := by decide +kernel
theorem dX3_verdictOn_74 : decode cX3_verdictOn 74 = .ok (.aload_n 0, 1) := by decide +kernel
theorem dX3_verdictOn_75 : decode cX3_verdictOn 75 = .ok (.getfield 60, 3) := by decide +kernel
theorem dX3_verdictOn_78 : decode cX3_verdictOn 78 = .ok (.aload_n 0, 1) := by decide +kernel
theorem dX3_verdictOn_79 : decode cX3_verdictOn 79 = .ok (.getfield 66, 3) := by decide +kernel
theorem dX3_verdictOn_82 : decode cX3_verdictOn 82 = .ok (.invokevirtual 78, 3) := by decide +kernel
theorem dX3_verdictOn_85 : decode cX3_verdictOn 85 = .ok (.ireturn, 1) := by decide +kernel
theorem dX3_verdictOn_86 : decode cX3_verdictOn 86 = .ok (.aload_n 1, 1) := by decide +kernel
theorem dX3_verdictOn_87 : decode cX3_verdictOn 87 = .ok (.aload_n 0, 1) := by decide +kernel
theorem dX3_verdictOn_88 : decode cX3_verdictOn 88 = .ok (.getfield 60, 3) := by decide +kernel
theorem dX3_verdictOn_91 : decode cX3_verdictOn 91 = .ok (.iconst 1, 1) := by decide +kernel
theorem dX3_verdictOn_92 : decode cX3_verdictOn 92 = .ok (.invokevirtual 82, 3) := by decide +kernel
theorem dX3_verdictOn_95 : decode cX3_verdictOn 95 = .ok (.ireturn, 1) := by decide +kernel
theorem dX3_verdictOn_96 : decode cX3_verdictOn 96 = .ok (.aload_n 1, 1) := by decide +kernel
theorem dX3_verdictOn_97 : decode cX3_verdictOn 97 = .ok (.aload_n 0, 1) := by decide +kernel
theorem dX3_verdictOn_98 : decode cX3_verdictOn 98 = .ok (.getfield 60, 3) := by decide +kernel
theorem dX3_verdictOn_101 : decode cX3_verdictOn 101 = .ok (.iconst 0, 1) := by decide +kernel
theorem dX3_verdictOn_102 : decode cX3_verdictOn 102 = .ok (.invokevirtual 82, 3) := by decide +kernel
theorem dX3_verdictOn_105 : decode cX3_verdictOn 105 = .ok (.ireturn, 1) := by decide +kernel
theorem dX3_verdictOn_106 : decode cX3_verdictOn 106 = .ok (.aload_n 1, 1) := by decide +kernel
theorem dX3_verdictOn_107 : decode cX3_verdictOn 107 = .ok (.aload_n 0, 1) := by decide +kernel
theorem dX3_verdictOn_108 : decode cX3_verdictOn 108 = .ok (.getfield 60, 3) := by decide +kernel
theorem dX3_verdictOn_111 : decode cX3_verdictOn 111 = .ok (.invokevirtual 86, 3) := by decide +kernel
theorem dX3_verdictOn_114 : decode cX3_verdictOn 114 = .ok (.ireturn, 1) := by decide +kernel
theorem dX3_verdictOn_115 : decode cX3_verdictOn 115 = .ok (.aload_n 0, 1) := by decide +kernel
theorem dX3_verdictOn_116 : decode cX3_verdictOn 116 = .ok (.getfield 60, 3) := by decide +kernel
theorem dX3_verdictOn_119 : decode cX3_verdictOn 119 = .ok (.iconst 1, 1) := by decide +kernel
theorem dX3_verdictOn_120 : decode cX3_verdictOn 120 = .ok (.bipush 72, 2) := by decide +kernel
theorem dX3_verdictOn_122 : decode cX3_verdictOn 122 = .ok (.invokestatic 90, 3) := by decide +kernel
theorem dX3_verdictOn_125 : decode cX3_verdictOn 125 = .ok (.ireturn, 1) := by decide +kernel
theorem dX3_carryOut_0 : decode cX3_carryOut 0 = .ok (.aload_n 0, 1) := by decide +kernel
theorem dX3_carryOut_1 : decode cX3_carryOut 1 = .ok (.getfield 48, 3) := by decide +kernel
theorem dX3_carryOut_4 : decode cX3_carryOut 4 = .ok (.lookupswitch 135 #[(98, 71), (99, 87), (101, 119), (114, 52), (117, 103)], 52) := by decide +kernel
theorem dX3_carryOut_56 : decode cX3_carryOut 56 = .ok (.aload_n 1, 1) := by decide +kernel
theorem dX3_carryOut_57 : decode cX3_carryOut 57 = .ok (.aload_n 0, 1) := by decide +kernel
theorem dX3_carryOut_58 : decode cX3_carryOut 58 = .ok (.getfield 60, 3) := by decide +kernel
theorem dX3_carryOut_61 : decode cX3_carryOut 61 = .ok (.aload_n 0, 1) := by decide +kernel
theorem dX3_carryOut_62 : decode cX3_carryOut 62 = .ok (.getfield 66, 3) := by decide +kernel
theorem dX3_carryOut_65 : decode cX3_carryOut 65 = .ok (.aload_n 0, 1) := by decide +kernel
theorem dX3_carryOut_66 : decode cX3_carryOut 66 = .ok (.getfield 69, 3) := by decide +kernel
theorem dX3_carryOut_69 : decode cX3_carryOut 69 = .ok (.invokevirtual 93, 3) := by decide +kernel
theorem dX3_carryOut_72 : decode cX3_carryOut 72 = .ok (.goto 76, 3) := by decide +kernel
theorem dX3_carryOut_75 : decode cX3_carryOut 75 = .ok (.aload_n 1, 1) := by decide +kernel
theorem dX3_carryOut_76 : decode cX3_carryOut 76 = .ok (.aload_n 0, 1) := by decide +kernel
theorem dX3_carryOut_77 : decode cX3_carryOut 77 = .ok (.getfield 60, 3) := by decide +kernel
theorem dX3_carryOut_80 : decode cX3_carryOut 80 = .ok (.aload_n 0, 1) := by decide +kernel
theorem dX3_carryOut_81 : decode cX3_carryOut 81 = .ok (.getfield 66, 3) := by decide +kernel
theorem dX3_carryOut_84 : decode cX3_carryOut 84 = .ok (.invokevirtual 97, 3) := by decide +kernel
theorem dX3_carryOut_87 : decode cX3_carryOut 87 = .ok (.pop, 1) := by decide +kernel
theorem dX3_carryOut_88 : decode cX3_carryOut 88 = .ok (.goto 60, 3) := by decide +kernel
theorem dX3_carryOut_91 : decode cX3_carryOut 91 = .ok (.aload_n 1, 1) := by decide +kernel
theorem dX3_carryOut_92 : decode cX3_carryOut 92 = .ok (.getfield 100, 3) := by decide +kernel
theorem dX3_carryOut_95 : decode cX3_carryOut 95 = .ok (.aload_n 0, 1) := by decide +kernel
theorem dX3_carryOut_96 : decode cX3_carryOut 96 = .ok (.getfield 60, 3) := by decide +kernel
theorem dX3_carryOut_99 : decode cX3_carryOut 99 = .ok (.aaload, 1) := by decide +kernel
theorem dX3_carryOut_100 : decode cX3_carryOut 100 = .ok (.iconst 1, 1) := by decide +kernel
theorem dX3_carryOut_101 : decode cX3_carryOut 101 = .ok (.putfield 104, 3) := by decide +kernel
theorem dX3_carryOut_104 : decode cX3_carryOut 104 = .ok (.goto 44, 3) := by decide +kernel
theorem dX3_carryOut_107 : decode cX3_carryOut 107 = .ok (.aload_n 1, 1) := by decide +kernel
theorem dX3_carryOut_108 : decode cX3_carryOut 108 = .ok (.getfield 100, 3) := by decide +kernel
theorem dX3_carryOut_111 : decode cX3_carryOut 111 = .ok (.aload_n 0, 1) := by decide +kernel
theorem dX3_carryOut_112 : decode cX3_carryOut 112 = .ok (.getfield 60, 3) := by decide +kernel
theorem dX3_carryOut_115 : decode cX3_carryOut 115 = .ok (.aaload, 1) := by decide +kernel
theorem dX3_carryOut_116 : decode cX3_carryOut 116 = .ok (.iconst 0, 1) := by decide +kernel
theorem dX3_carryOut_117 : decode cX3_carryOut 117 = .ok (.putfield 104, 3) := by decide +kernel
theorem dX3_carryOut_120 : decode cX3_carryOut 120 = .ok (.goto 28, 3) := by decide +kernel
theorem dX3_carryOut_123 : decode cX3_carryOut 123 = .ok (.aload_n 1, 1) := by decide +kernel
theorem dX3_carryOut_124 : decode cX3_carryOut 124 = .ok (.getfield 110, 3) := by decide +kernel
theorem dX3_carryOut_127 : decode cX3_carryOut 127 = .ok (.aload_n 0, 1) := by decide +kernel
theorem dX3_carryOut_128 : decode cX3_carryOut 128 = .ok (.getfield 60, 3) := by decide +kernel
theorem dX3_carryOut_131 : decode cX3_carryOut 131 = .ok (.aaload, 1) := by decide +kernel
theorem dX3_carryOut_132 : decode cX3_carryOut 132 = .ok (.iconst 1, 1) := by decide +kernel
theorem dX3_carryOut_133 : decode cX3_carryOut 133 = .ok (.putfield 114, 3) := by decide +kernel
theorem dX3_carryOut_136 : decode cX3_carryOut 136 = .ok (.goto 12, 3) := by decide +kernel
theorem dX3_carryOut_139 : decode cX3_carryOut 139 = .ok (.aload_n 1, 1) := by decide +kernel
theorem dX3_carryOut_140 : decode cX3_carryOut 140 = .ok (.aload_n 0, 1) := by decide +kernel
theorem dX3_carryOut_141 : decode cX3_carryOut 141 = .ok (.getfield 60, 3) := by decide +kernel
theorem dX3_carryOut_144 : decode cX3_carryOut 144 = .ok (.invokevirtual 119, 3) := by decide +kernel
theorem dX3_carryOut_147 : decode cX3_carryOut 147 = .ok (.pop, 1) := by decide +kernel
theorem dX3_carryOut_148 : decode cX3_carryOut 148 = .ok (.return_, 1) := by decide +kernel
theorem dX4_init_0 : decode cX4_init 0 = .ok (.aload_n 0, 1) := by decide +kernel
theorem dX4_init_1 : decode cX4_init 1 = .ok (.invokespecial 3, 3) := by decide +kernel
theorem dX4_init_4 : decode cX4_init 4 = .ok (.aload_n 0, 1) := by decide +kernel
theorem dX4_init_5 : decode cX4_init 5 = .ok (.bipush 8, 2) := by decide +kernel
theorem dX4_init_7 : decode cX4_init 7 = .ok (.anewarray 9, 3) := by decide +kernel
theorem dX4_init_10 : decode cX4_init 10 = .ok (.putfield 11, 3) := by decide +kernel
theorem dX4_init_13 : decode cX4_init 13 = .ok (.iconst 0, 1) := by decide +kernel
theorem dX4_init_14 : decode cX4_init 14 = .ok (.istore_n 1, 1) := by decide +kernel
theorem dX4_init_15 : decode cX4_init 15 = .ok (.iload_n 1, 1) := by decide +kernel
theorem dX4_init_16 : decode cX4_init 16 = .ok (.bipush 8, 2) := by decide +kernel
theorem dX4_init_18 : decode cX4_init 18 = .ok (.if_icmp .ge 22, 3) := by decide +kernel
theorem dX4_init_21 : decode cX4_init 21 = .ok (.aload_n 0, 1) := by decide +kernel
theorem dX4_init_22 : decode cX4_init 22 = .ok (.getfield 11, 3) := by decide +kernel
theorem dX4_init_25 : decode cX4_init 25 = .ok (.iload_n 1, 1) := by decide +kernel
theorem dX4_init_26 : decode cX4_init 26 = .ok (.new 9, 3) := by decide +kernel
theorem dX4_init_29 : decode cX4_init 29 = .ok (.dup, 1) := by decide +kernel
theorem dX4_init_30 : decode cX4_init 30 = .ok (.invokespecial 17, 3) := by decide +kernel
theorem dX4_init_33 : decode cX4_init 33 = .ok (.aastore, 1) := by decide +kernel
theorem dX4_init_34 : decode cX4_init 34 = .ok (.iinc 1 1, 3) := by decide +kernel
theorem dX4_init_37 : decode cX4_init 37 = .ok (.goto (-22), 3) := by decide +kernel
theorem dX4_init_40 : decode cX4_init 40 = .ok (.return_, 1) := by decide +kernel
theorem dX4_keep_0 : decode cX4_keep 0 = .ok (.aload_n 0, 1) := by decide +kernel
theorem dX4_keep_1 : decode cX4_keep 1 = .ok (.getfield 11, 3) := by decide +kernel
theorem dX4_keep_4 : decode cX4_keep 4 = .ok (.aload_n 0, 1) := by decide +kernel
theorem dX4_keep_5 : decode cX4_keep 5 = .ok (.getfield 18, 3) := by decide +kernel
theorem dX4_keep_8 : decode cX4_keep 8 = .ok (.aaload, 1) := by decide +kernel
theorem dX4_keep_9 : decode cX4_keep 9 = .ok (.aload_n 1, 1) := by decide +kernel
theorem dX4_keep_10 : decode cX4_keep 10 = .ok (.invokevirtual 22, 3) := by decide +kernel
theorem dX4_keep_13 : decode cX4_keep 13 = .ok (.aload_n 0, 1) := by decide +kernel
theorem dX4_keep_14 : decode cX4_keep 14 = .ok (.aload_n 0, 1) := by decide +kernel
theorem dX4_keep_15 : decode cX4_keep 15 = .ok (.getfield 18, 3) := by decide +kernel
theorem dX4_keep_18 : decode cX4_keep 18 = .ok (.iconst 1, 1) := by decide +kernel
theorem dX4_keep_19 : decode cX4_keep 19 = .ok (.iadd, 1) := by decide +kernel
theorem dX4_keep_20 : decode cX4_keep 20 = .ok (.bipush 8, 2) := by decide +kernel
theorem dX4_keep_22 : decode cX4_keep 22 = .ok (.if_icmp .ge 12, 3) := by decide +kernel
theorem dX4_keep_25 : decode cX4_keep 25 = .ok (.aload_n 0, 1) := by decide +kernel
theorem dX4_keep_26 : decode cX4_keep 26 = .ok (.getfield 18, 3) := by decide +kernel
theorem dX4_keep_29 : decode cX4_keep 29 = .ok (.iconst 1, 1) := by decide +kernel
theorem dX4_keep_30 : decode cX4_keep 30 = .ok (.iadd, 1) := by decide +kernel
theorem dX4_keep_31 : decode cX4_keep 31 = .ok (.goto 4, 3) := by decide +kernel
theorem dX4_keep_34 : decode cX4_keep 34 = .ok (.iconst 0, 1) := by decide +kernel
theorem dX4_keep_35 : decode cX4_keep 35 = .ok (.putfield 18, 3) := by decide +kernel
theorem dX4_keep_38 : decode cX4_keep 38 = .ok (.aload_n 0, 1) := by decide +kernel
theorem dX4_keep_39 : decode cX4_keep 39 = .ok (.bipush 8, 2) := by decide +kernel
theorem dX4_keep_41 : decode cX4_keep 41 = .ok (.aload_n 0, 1) := by decide +kernel
theorem dX4_keep_42 : decode cX4_keep 42 = .ok (.getfield 26, 3) := by decide +kernel
theorem dX4_keep_45 : decode cX4_keep 45 = .ok (.iconst 1, 1) := by decide +kernel
theorem dX4_keep_46 : decode cX4_keep 46 = .ok (.iadd, 1) := by decide +kernel
theorem dX4_keep_47 : decode cX4_keep 47 = .ok (.invokestatic 29, 3) := by decide +kernel
theorem dX4_keep_50 : decode cX4_keep 50 = .ok (.putfield 26, 3) := by decide +kernel
theorem dX4_keep_53 : decode cX4_keep 53 = .ok (.return_, 1) := by decide +kernel
theorem dX4_giveBack_0 : decode cX4_giveBack 0 = .ok (.aload_n 0, 1) := by decide +kernel
theorem dX4_giveBack_1 : decode cX4_giveBack 1 = .ok (.aload_n 0, 1) := by decide +kernel
theorem dX4_giveBack_2 : decode cX4_giveBack 2 = .ok (.getfield 18, 3) := by decide +kernel
theorem dX4_giveBack_5 : decode cX4_giveBack 5 = .ok (.ifCond .le 12, 3) := by decide +kernel
theorem dX4_giveBack_8 : decode cX4_giveBack 8 = .ok (.aload_n 0, 1) := by decide +kernel
theorem dX4_giveBack_9 : decode cX4_giveBack 9 = .ok (.getfield 18, 3) := by decide +kernel
theorem dX4_giveBack_12 : decode cX4_giveBack 12 = .ok (.iconst 1, 1) := by decide +kernel
theorem dX4_giveBack_13 : decode cX4_giveBack 13 = .ok (.isub, 1) := by decide +kernel
theorem dX4_giveBack_14 : decode cX4_giveBack 14 = .ok (.goto 5, 3) := by decide +kernel
theorem dX4_giveBack_17 : decode cX4_giveBack 17 = .ok (.bipush 7, 2) := by decide +kernel
theorem dX4_giveBack_19 : decode cX4_giveBack 19 = .ok (.putfield 18, 3) := by decide +kernel
theorem dX4_giveBack_22 : decode cX4_giveBack 22 = .ok (.aload_n 1, 1) := by decide +kernel
theorem dX4_giveBack_23 : decode cX4_giveBack 23 = .ok (.aload_n 0, 1) := by decide +kernel
theorem dX4_giveBack_24 : decode cX4_giveBack 24 = .ok (.getfield 11, 3) := by decide +kernel
theorem dX4_giveBack_27 : decode cX4_giveBack 27 = .ok (.aload_n 0, 1) := by decide +kernel
theorem dX4_giveBack_28 : decode cX4_giveBack 28 = .ok (.getfield 18, 3) := by decide +kernel
theorem dX4_giveBack_31 : decode cX4_giveBack 31 = .ok (.aaload, 1) := by decide +kernel
theorem dX4_giveBack_32 : decode cX4_giveBack 32 = .ok (.invokevirtual 22, 3) := by decide +kernel
theorem dX4_giveBack_35 : decode cX4_giveBack 35 = .ok (.aload_n 0, 1) := by decide +kernel
theorem dX4_giveBack_36 : decode cX4_giveBack 36 = .ok (.dup, 1) := by decide +kernel
theorem dX4_giveBack_37 : decode cX4_giveBack 37 = .ok (.getfield 26, 3) := by decide +kernel
theorem dX4_giveBack_40 : decode cX4_giveBack 40 = .ok (.iconst 1, 1) := by decide +kernel
theorem dX4_giveBack_41 : decode cX4_giveBack 41 = .ok (.isub, 1) := by decide +kernel
theorem dX4_giveBack_42 : decode cX4_giveBack 42 = .ok (.putfield 26, 3) := by decide +kernel
theorem dX4_giveBack_45 : decode cX4_giveBack 45 = .ok (.return_, 1) := by decide +kernel
theorem dX5_init_0 : decode cX5_init 0 = .ok (.aload_n 0, 1) := by decide +kernel
theorem dX5_init_1 : decode cX5_init 1 = .ok (.invokespecial 3, 3) := by decide +kernel
theorem dX5_init_4 : decode cX5_init 4 = .ok (.aload_n 0, 1) := by decide +kernel
theorem dX5_init_5 : decode cX5_init 5 = .ok (.bipush 20, 2) := by decide +kernel
theorem dX5_init_7 : decode cX5_init 7 = .ok (.putfield 9, 3) := by decide +kernel
theorem dX5_init_10 : decode cX5_init 10 = .ok (.aload_n 0, 1) := by decide +kernel
theorem dX5_init_11 : decode cX5_init 11 = .ok (.bipush 10, 2) := by decide +kernel
theorem dX5_init_13 : decode cX5_init 13 = .ok (.putfield 15, 3) := by decide +kernel
theorem dX5_init_16 : decode cX5_init 16 = .ok (.return_, 1) := by decide +kernel
theorem dX5_become_0 : decode cX5_become 0 = .ok (.aload_n 0, 1) := by decide +kernel
theorem dX5_become_1 : decode cX5_become 1 = .ok (.aload_n 1, 1) := by decide +kernel
theorem dX5_become_2 : decode cX5_become 2 = .ok (.getfield 9, 3) := by decide +kernel
theorem dX5_become_5 : decode cX5_become 5 = .ok (.putfield 9, 3) := by decide +kernel
theorem dX5_become_8 : decode cX5_become 8 = .ok (.aload_n 0, 1) := by decide +kernel
theorem dX5_become_9 : decode cX5_become 9 = .ok (.aload_n 1, 1) := by decide +kernel
theorem dX5_become_10 : decode cX5_become 10 = .ok (.getfield 15, 3) := by decide +kernel
theorem dX5_become_13 : decode cX5_become 13 = .ok (.putfield 15, 3) := by decide +kernel
theorem dX5_become_16 : decode cX5_become 16 = .ok (.aload_n 0, 1) := by decide +kernel
theorem dX5_become_17 : decode cX5_become 17 = .ok (.aload_n 1, 1) := by decide +kernel
theorem dX5_become_18 : decode cX5_become 18 = .ok (.getfield 18, 3) := by decide +kernel
theorem dX5_become_21 : decode cX5_become 21 = .ok (.putfield 18, 3) := by decide +kernel
theorem dX5_become_24 : decode cX5_become 24 = .ok (.aload_n 0, 1) := by decide +kernel
theorem dX5_become_25 : decode cX5_become 25 = .ok (.aload_n 1, 1) := by decide +kernel
theorem dX5_become_26 : decode cX5_become 26 = .ok (.getfield 21, 3) := by decide +kernel
theorem dX5_become_29 : decode cX5_become 29 = .ok (.putfield 21, 3) := by decide +kernel
theorem dX5_become_32 : decode cX5_become 32 = .ok (.aload_n 0, 1) := by decide +kernel
theorem dX5_become_33 : decode cX5_become 33 = .ok (.aload_n 1, 1) := by decide +kernel
theorem dX5_become_34 : decode cX5_become 34 = .ok (.getfield 25, 3) := by decide +kernel
theorem dX5_become_37 : decode cX5_become 37 = .ok (.putfield 25, 3) := by decide +kernel
theorem dX5_become_40 : decode cX5_become 40 = .ok (.return_, 1) := by decide +kernel
theorem dX5_letWeatherAct_0 : decode cX5_letWeatherAct 0 = .ok (.aload_n 0, 1) := by decide +kernel
theorem dX5_letWeatherAct_1 : decode cX5_letWeatherAct 1 = .ok (.aload_n 0, 1) := by decide +kernel
theorem dX5_letWeatherAct_2 : decode cX5_letWeatherAct 2 = .ok (.getfield 9, 3) := by decide +kernel
theorem dX5_letWeatherAct_5 : decode cX5_letWeatherAct 5 = .ok (.iconst 4, 1) := by decide +kernel
theorem dX5_letWeatherAct_6 : decode cX5_letWeatherAct 6 = .ok (.iload_n 1, 1) := by decide +kernel
theorem dX5_letWeatherAct_7 : decode cX5_letWeatherAct 7 = .ok (.imul, 1) := by decide +kernel
theorem dX5_letWeatherAct_8 : decode cX5_letWeatherAct 8 = .ok (.bipush 99, 2) := by decide +kernel
theorem dX5_letWeatherAct_10 : decode cX5_letWeatherAct 10 = .ok (.invokestatic 28, 3) := by decide +kernel
theorem dX5_letWeatherAct_13 : decode cX5_letWeatherAct 13 = .ok (.putfield 9, 3) := by decide +kernel
theorem dX5_letWeatherAct_16 : decode cX5_letWeatherAct 16 = .ok (.aload_n 0, 1) := by decide +kernel
theorem dX5_letWeatherAct_17 : decode cX5_letWeatherAct 17 = .ok (.aload_n 0, 1) := by decide +kernel
theorem dX5_letWeatherAct_18 : decode cX5_letWeatherAct 18 = .ok (.getfield 9, 3) := by decide +kernel
theorem dX5_letWeatherAct_21 : decode cX5_letWeatherAct 21 = .ok (.iload_n 2, 1) := by decide +kernel
theorem dX5_letWeatherAct_22 : decode cX5_letWeatherAct 22 = .ok (.iconst 2, 1) := by decide +kernel
theorem dX5_letWeatherAct_23 : decode cX5_letWeatherAct 23 = .ok (.idiv, 1) := by decide +kernel
theorem dX5_letWeatherAct_24 : decode cX5_letWeatherAct 24 = .ok (.invokestatic 32, 3) := by decide +kernel
theorem dX5_letWeatherAct_27 : decode cX5_letWeatherAct 27 = .ok (.putfield 9, 3) := by decide +kernel
theorem dX5_letWeatherAct_30 : decode cX5_letWeatherAct 30 = .ok (.return_, 1) := by decide +kernel
theorem dX6_init_0 : decode cX6_init 0 = .ok (.aload_n 0, 1) := by decide +kernel
theorem dX6_init_1 : decode cX6_init 1 = .ok (.invokespecial 1, 3) := by decide +kernel
theorem dX6_init_4 : decode cX6_init 4 = .ok (.aload_n 0, 1) := by decide +kernel
theorem dX6_init_5 : decode cX6_init 5 = .ok (.new 7, 3) := by decide +kernel
theorem dX6_init_8 : decode cX6_init 8 = .ok (.dup, 1) := by decide +kernel
theorem dX6_init_9 : decode cX6_init 9 = .ok (.invokespecial 9, 3) := by decide +kernel
theorem dX6_init_12 : decode cX6_init 12 = .ok (.putfield 10, 3) := by decide +kernel
theorem dX6_init_15 : decode cX6_init 15 = .ok (.aload_n 0, 1) := by decide +kernel
theorem dX6_init_16 : decode cX6_init 16 = .ok (.new 7, 3) := by decide +kernel
theorem dX6_init_19 : decode cX6_init 19 = .ok (.dup, 1) := by decide +kernel
theorem dX6_init_20 : decode cX6_init 20 = .ok (.invokespecial 9, 3) := by decide +kernel
theorem dX6_init_23 : decode cX6_init 23 = .ok (.putfield 16, 3) := by decide +kernel
theorem dX6_init_26 : decode cX6_init 26 = .ok (.aload_n 0, 1) := by decide +kernel
theorem dX6_init_27 : decode cX6_init 27 = .ok (.new 7, 3) := by decide +kernel
theorem dX6_init_30 : decode cX6_init 30 = .ok (.dup, 1) := by decide +kernel
theorem dX6_init_31 : decode cX6_init 31 = .ok (.invokespecial 9, 3) := by decide +kernel
theorem dX6_init_34 : decode cX6_init 34 = .ok (.putfield 19, 3) := by decide +kernel
theorem dX6_init_37 : decode cX6_init 37 = .ok (.aload_n 0, 1) := by decide +kernel
theorem dX6_init_38 : decode cX6_init 38 = .ok (.new 22, 3) := by decide +kernel
theorem dX6_init_41 : decode cX6_init 41 = .ok (.dup, 1) := by decide +kernel
theorem dX6_init_42 : decode cX6_init 42 = .ok (.invokespecial 24, 3) := by decide +kernel
theorem dX6_init_45 : decode cX6_init 45 = .ok (.putfield 25, 3) := by decide +kernel
theorem dX6_init_48 : decode cX6_init 48 = .ok (.aload_n 0, 1) := by decide +kernel
theorem dX6_init_49 : decode cX6_init 49 = .ok (.new 29, 3) := by decide +kernel
theorem dX6_init_52 : decode cX6_init 52 = .ok (.dup, 1) := by decide +kernel
theorem dX6_init_53 : decode cX6_init 53 = .ok (.invokespecial 31, 3) := by decide +kernel
theorem dX6_init_56 : decode cX6_init 56 = .ok (.putfield 32, 3) := by decide +kernel
theorem dX6_init_59 : decode cX6_init 59 = .ok (.aload_n 0, 1) := by decide +kernel
theorem dX6_init_60 : decode cX6_init 60 = .ok (.iconst (-1), 1) := by decide +kernel
theorem dX6_init_61 : decode cX6_init 61 = .ok (.putfield 36, 3) := by decide +kernel
theorem dX6_init_64 : decode cX6_init 64 = .ok (.aload_n 0, 1) := by decide +kernel
theorem dX6_init_65 : decode cX6_init 65 = .ok (.iconst (-1), 1) := by decide +kernel
theorem dX6_init_66 : decode cX6_init 66 = .ok (.putfield 40, 3) := by decide +kernel
theorem dX6_init_69 : decode cX6_init 69 = .ok (.return_, 1) := by decide +kernel
theorem dX6_rain_0 : decode cX6_rain 0 = .ok (.aload_n 0, 1) := by decide +kernel
theorem dX6_rain_1 : decode cX6_rain 1 = .ok (.iload_n 1, 1) := by decide +kernel
theorem dX6_rain_2 : decode cX6_rain 2 = .ok (.iload_n 2, 1) := by decide +kernel
theorem dX6_rain_3 : decode cX6_rain 3 = .ok (.invokestatic 43, 3) := by decide +kernel
theorem dX6_rain_6 : decode cX6_rain 6 = .ok (.invokevirtual 47, 3) := by decide +kernel
theorem dX6_rain_9 : decode cX6_rain 9 = .ok (.aload_n 0, 1) := by decide +kernel
theorem dX6_rain_10 : decode cX6_rain 10 = .ok (.getfield 10, 3) := by decide +kernel
theorem dX6_rain_13 : decode cX6_rain 13 = .ok (.getfield 51, 3) := by decide +kernel
theorem dX6_rain_16 : decode cX6_rain 16 = .ok (.iload_n 1, 1) := by decide +kernel
theorem dX6_rain_17 : decode cX6_rain 17 = .ok (.iload_n 2, 1) := by decide +kernel
theorem dX6_rain_18 : decode cX6_rain 18 = .ok (.invokestatic 55, 3) := by decide +kernel
theorem dX6_rain_21 : decode cX6_rain 21 = .ok (.ireturn, 1) := by decide +kernel
theorem dX6_light_0 : decode cX6_light 0 = .ok (.aload_n 0, 1) := by decide +kernel
theorem dX6_light_1 : decode cX6_light 1 = .ok (.iload_n 1, 1) := by decide +kernel
theorem dX6_light_2 : decode cX6_light 2 = .ok (.iload_n 2, 1) := by decide +kernel
theorem dX6_light_3 : decode cX6_light 3 = .ok (.invokestatic 43, 3) := by decide +kernel
theorem dX6_light_6 : decode cX6_light 6 = .ok (.invokevirtual 47, 3) := by decide +kernel
theorem dX6_light_9 : decode cX6_light 9 = .ok (.aload_n 0, 1) := by decide +kernel
theorem dX6_light_10 : decode cX6_light 10 = .ok (.getfield 10, 3) := by decide +kernel
theorem dX6_light_13 : decode cX6_light 13 = .ok (.getfield 59, 3) := by decide +kernel
theorem dX6_light_16 : decode cX6_light 16 = .ok (.iload_n 1, 1) := by decide +kernel
theorem dX6_light_17 : decode cX6_light 17 = .ok (.iload_n 2, 1) := by decide +kernel
theorem dX6_light_18 : decode cX6_light 18 = .ok (.invokestatic 55, 3) := by decide +kernel
theorem dX6_light_21 : decode cX6_light 21 = .ok (.ireturn, 1) := by decide +kernel
theorem dX6_bell_0 : decode cX6_bell 0 = .ok (.aload_n 0, 1) := by decide +kernel
theorem dX6_bell_1 : decode cX6_bell 1 = .ok (.iload_n 1, 1) := by decide +kernel
theorem dX6_bell_2 : decode cX6_bell 2 = .ok (.invokestatic 62, 3) := by decide +kernel
theorem dX6_bell_5 : decode cX6_bell 5 = .ok (.invokevirtual 47, 3) := by decide +kernel
theorem dX6_bell_8 : decode cX6_bell 8 = .ok (.aload_n 0, 1) := by decide +kernel
theorem dX6_bell_9 : decode cX6_bell 9 = .ok (.getfield 10, 3) := by decide +kernel
theorem dX6_bell_12 : decode cX6_bell 12 = .ok (.getfield 66, 3) := by decide +kernel
theorem dX6_bell_15 : decode cX6_bell 15 = .ok (.istore_n 2, 1) := by decide +kernel
theorem dX6_bell_16 : decode cX6_bell 16 = .ok (.aload_n 0, 1) := by decide +kernel
theorem dX6_bell_17 : decode cX6_bell 17 = .ok (.getfield 10, 3) := by decide +kernel
theorem dX6_bell_20 : decode cX6_bell 20 = .ok (.iload_n 1, 1) := by decide +kernel
theorem dX6_bell_21 : decode cX6_bell 21 = .ok (.putfield 66, 3) := by decide +kernel
theorem dX6_bell_24 : decode cX6_bell 24 = .ok (.iload_n 2, 1) := by decide +kernel
theorem dX6_bell_25 : decode cX6_bell 25 = .ok (.ireturn, 1) := by decide +kernel
theorem dX6_weather_0 : decode cX6_weather 0 = .ok (.aload_n 0, 1) := by decide +kernel
theorem dX6_weather_1 : decode cX6_weather 1 = .ok (.iload_n 1, 1) := by decide +kernel
theorem dX6_weather_2 : decode cX6_weather 2 = .ok (.invokestatic 62, 3) := by decide +kernel
theorem dX6_weather_5 : decode cX6_weather 5 = .ok (.invokevirtual 69, 3) := by decide +kernel
theorem dX6_weather_8 : decode cX6_weather 8 = .ok (.iload_n 2, 1) := by decide +kernel
theorem dX6_weather_9 : decode cX6_weather 9 = .ok (.ifCond .eq 15, 3) := by decide +kernel
theorem dX6_weather_12 : decode cX6_weather 12 = .ok (.aload_n 0, 1) := by decide +kernel
theorem dX6_weather_13 : decode cX6_weather 13 = .ok (.getfield 10, 3) := by decide +kernel
theorem dX6_weather_16 : decode cX6_weather 16 = .ok (.getfield 59, 3) := by decide +kernel
theorem dX6_weather_19 : decode cX6_weather 19 = .ok (.iload_n 1, 1) := by decide +kernel
theorem dX6_weather_20 : decode cX6_weather 20 = .ok (.iaload, 1) := by decide +kernel
theorem dX6_weather_21 : decode cX6_weather 21 = .ok (.goto 12, 3) := by decide +kernel
theorem dX6_weather_24 : decode cX6_weather 24 = .ok (.aload_n 0, 1) := by decide +kernel
theorem dX6_weather_25 : decode cX6_weather 25 = .ok (.getfield 10, 3) := by decide +kernel
theorem dX6_weather_28 : decode cX6_weather 28 = .ok (.getfield 51, 3) := by decide +kernel
theorem dX6_weather_31 : decode cX6_weather 31 = .ok (.iload_n 1, 1) := by decide +kernel
theorem dX6_weather_32 : decode cX6_weather 32 = .ok (.iaload, 1) := by decide +kernel
theorem dX6_weather_33 : decode cX6_weather 33 = .ok (.ireturn, 1) := by decide +kernel
theorem dX6_pitch_0 : decode cX6_pitch 0 = .ok (.aload_n 0, 1) := by decide +kernel
theorem dX6_pitch_1 : decode cX6_pitch 1 = .ok (.aload_n 0, 1) := by decide +kernel
theorem dX6_pitch_2 : decode cX6_pitch 2 = .ok (.getfield 10, 3) := by decide +kernel
theorem dX6_pitch_5 : decode cX6_pitch 5 = .ok (.getfield 72, 3) := by decide +kernel
theorem dX6_pitch_8 : decode cX6_pitch 8 = .ok (.iconst 4, 1) := by decide +kernel
theorem dX6_pitch_9 : decode cX6_pitch 9 = .ok (.invokestatic 75, 3) := by decide +kernel
theorem dX6_pitch_12 : decode cX6_pitch 12 = .ok (.invokevirtual 47, 3) := by decide +kernel
theorem dX6_pitch_15 : decode cX6_pitch 15 = .ok (.aload_n 0, 1) := by decide +kernel
theorem dX6_pitch_16 : decode cX6_pitch 16 = .ok (.getfield 10, 3) := by decide +kernel
theorem dX6_pitch_19 : decode cX6_pitch 19 = .ok (.dup, 1) := by decide +kernel
theorem dX6_pitch_20 : decode cX6_pitch 20 = .ok (.getfield 72, 3) := by decide +kernel
theorem dX6_pitch_23 : decode cX6_pitch 23 = .ok (.dup_x1, 1) := by decide +kernel
theorem dX6_pitch_24 : decode cX6_pitch 24 = .ok (.iconst 1, 1) := by decide +kernel
theorem dX6_pitch_25 : decode cX6_pitch 25 = .ok (.iadd, 1) := by decide +kernel
theorem dX6_pitch_26 : decode cX6_pitch 26 = .ok (.putfield 72, 3) := by decide +kernel
theorem dX6_pitch_29 : decode cX6_pitch 29 = .ok (.ireturn, 1) := by decide +kernel
theorem dX6_cover_0 : decode cX6_cover 0 = .ok (.aload_n 0, 1) := by decide +kernel
theorem dX6_cover_1 : decode cX6_cover 1 = .ok (.aload_n 0, 1) := by decide +kernel
theorem dX6_cover_2 : decode cX6_cover 2 = .ok (.getfield 10, 3) := by decide +kernel
theorem dX6_cover_5 : decode cX6_cover 5 = .ok (.iload_n 1, 1) := by decide +kernel
theorem dX6_cover_6 : decode cX6_cover 6 = .ok (.iload_n 2, 1) := by decide +kernel
theorem dX6_cover_7 : decode cX6_cover 7 = .ok (.invokevirtual 78, 3) := by decide +kernel
theorem dX6_cover_10 : decode cX6_cover 10 = .ok (.invokevirtual 47, 3) := by decide +kernel
theorem dX6_cover_13 : decode cX6_cover 13 = .ok (.aload_n 0, 1) := by decide +kernel
theorem dX6_cover_14 : decode cX6_cover 14 = .ok (.getfield 10, 3) := by decide +kernel
theorem dX6_cover_17 : decode cX6_cover 17 = .ok (.getfield 82, 3) := by decide +kernel
theorem dX6_cover_20 : decode cX6_cover 20 = .ok (.iload_n 1, 1) := by decide +kernel
theorem dX6_cover_21 : decode cX6_cover 21 = .ok (.aaload, 1) := by decide +kernel
theorem dX6_cover_22 : decode cX6_cover 22 = .ok (.iload_n 2, 1) := by decide +kernel
theorem dX6_cover_23 : decode cX6_cover 23 = .ok (.putfield 86, 3) := by decide +kernel
theorem dX6_cover_26 : decode cX6_cover 26 = .ok (.aload_n 0, 1) := by decide +kernel
theorem dX6_cover_27 : decode cX6_cover 27 = .ok (.getfield 10, 3) := by decide +kernel
theorem dX6_cover_30 : decode cX6_cover 30 = .ok (.getfield 82, 3) := by decide +kernel
theorem dX6_cover_33 : decode cX6_cover 33 = .ok (.iload_n 1, 1) := by decide +kernel
theorem dX6_cover_34 : decode cX6_cover 34 = .ok (.aaload, 1) := by decide +kernel
theorem dX6_cover_35 : decode cX6_cover 35 = .ok (.getfield 92, 3) := by decide +kernel
theorem dX6_cover_38 : decode cX6_cover 38 = .ok (.ireturn, 1) := by decide +kernel
theorem dX6_pitchOf_0 : decode cX6_pitchOf 0 = .ok (.aload_n 0, 1) := by decide +kernel
theorem dX6_pitchOf_1 : decode cX6_pitchOf 1 = .ok (.aload_n 0, 1) := by decide +kernel
theorem dX6_pitchOf_2 : decode cX6_pitchOf 2 = .ok (.getfield 10, 3) := by decide +kernel
theorem dX6_pitchOf_5 : decode cX6_pitchOf 5 = .ok (.iload_n 1, 1) := by decide +kernel
theorem dX6_pitchOf_6 : decode cX6_pitchOf 6 = .ok (.invokevirtual 95, 3) := by decide +kernel
theorem dX6_pitchOf_9 : decode cX6_pitchOf 9 = .ok (.invokevirtual 69, 3) := by decide +kernel
theorem dX6_pitchOf_12 : decode cX6_pitchOf 12 = .ok (.aload_n 0, 1) := by decide +kernel
theorem dX6_pitchOf_13 : decode cX6_pitchOf 13 = .ok (.getfield 10, 3) := by decide +kernel
theorem dX6_pitchOf_16 : decode cX6_pitchOf 16 = .ok (.getfield 82, 3) := by decide +kernel
theorem dX6_pitchOf_19 : decode cX6_pitchOf 19 = .ok (.iload_n 1, 1) := by decide +kernel
theorem dX6_pitchOf_20 : decode cX6_pitchOf 20 = .ok (.aaload, 1) := by decide +kernel
theorem dX6_pitchOf_21 : decode cX6_pitchOf 21 = .ok (.astore_n 3, 1) := by decide +kernel
theorem dX6_pitchOf_22 : decode cX6_pitchOf 22 = .ok (.iload_n 2, 1) := by decide +kernel
theorem dX6_pitchOf_23 : decode cX6_pitchOf 23 = .ok (.tableswitch 92 0 6 #[41, 46, 51, 56, 69, 78, 87], 41) := by decide +kernel
theorem dX6_pitchOf_64 : decode cX6_pitchOf 64 = .ok (.aload_n 3, 1) := by decide +kernel
theorem dX6_pitchOf_65 : decode cX6_pitchOf 65 = .ok (.getfield 92, 3) := by decide +kernel
theorem dX6_pitchOf_68 : decode cX6_pitchOf 68 = .ok (.ireturn, 1) := by decide +kernel
theorem dX6_pitchOf_69 : decode cX6_pitchOf 69 = .ok (.aload_n 3, 1) := by decide +kernel
theorem dX6_pitchOf_70 : decode cX6_pitchOf 70 = .ok (.getfield 98, 3) := by decide +kernel
theorem dX6_pitchOf_73 : decode cX6_pitchOf 73 = .ok (.ireturn, 1) := by decide +kernel
theorem dX6_pitchOf_74 : decode cX6_pitchOf 74 = .ok (.aload_n 3, 1) := by decide +kernel
theorem dX6_pitchOf_75 : decode cX6_pitchOf 75 = .ok (.getfield 101, 3) := by decide +kernel
theorem dX6_pitchOf_78 : decode cX6_pitchOf 78 = .ok (.ireturn, 1) := by decide +kernel
theorem dX6_pitchOf_79 : decode cX6_pitchOf 79 = .ok (.aload_n 3, 1) := by decide +kernel
theorem dX6_pitchOf_80 : decode cX6_pitchOf 80 = .ok (.getfield 86, 3) := by decide +kernel
theorem dX6_pitchOf_83 : decode cX6_pitchOf 83 = .ok (.ifCond .eq 7, 3) := by decide +kernel
theorem dX6_pitchOf_86 : decode cX6_pitchOf 86 = .ok (.iconst 1, 1) := by decide +kernel
theorem dX6_pitchOf_87 : decode cX6_pitchOf 87 = .ok (.goto 4, 3) := by decide +kernel
theorem dX6_pitchOf_90 : decode cX6_pitchOf 90 = .ok (.iconst 0, 1) := by decide +kernel
theorem dX6_pitchOf_91 : decode cX6_pitchOf 91 = .ok (.ireturn, 1) := by decide +kernel
theorem dX6_pitchOf_92 : decode cX6_pitchOf 92 = .ok (.aload_n 0, 1) := by decide +kernel
theorem dX6_pitchOf_93 : decode cX6_pitchOf 93 = .ok (.getfield 10, 3) := by decide +kernel
theorem dX6_pitchOf_96 : decode cX6_pitchOf 96 = .ok (.iload_n 1, 1) := by decide +kernel
theorem dX6_pitchOf_97 : decode cX6_pitchOf 97 = .ok (.invokevirtual 104, 3) := by decide +kernel
theorem dX6_pitchOf_100 : decode cX6_pitchOf 100 = .ok (.ireturn, 1) := by decide +kernel
theorem dX6_pitchOf_101 : decode cX6_pitchOf 101 = .ok (.aload_n 0, 1) := by decide +kernel
theorem dX6_pitchOf_102 : decode cX6_pitchOf 102 = .ok (.getfield 10, 3) := by decide +kernel
theorem dX6_pitchOf_105 : decode cX6_pitchOf 105 = .ok (.iload_n 1, 1) := by decide +kernel
theorem dX6_pitchOf_106 : decode cX6_pitchOf 106 = .ok (.invokevirtual 107, 3) := by decide +kernel
theorem dX6_pitchOf_109 : decode cX6_pitchOf 109 = .ok (.ireturn, 1) := by decide +kernel
theorem dX6_pitchOf_110 : decode cX6_pitchOf 110 = .ok (.aload_n 3, 1) := by decide +kernel
theorem dX6_pitchOf_111 : decode cX6_pitchOf 111 = .ok (.getfield 110, 3) := by decide +kernel
theorem dX6_pitchOf_114 : decode cX6_pitchOf 114 = .ok (.ireturn, 1) := by decide +kernel
theorem dX6_pitchOf_115 : decode cX6_pitchOf 115 = .ok (.new 113, 3) := by decide +kernel
theorem dX6_pitchOf_118 : decode cX6_pitchOf 118 = .ok (.dup, 1) := by decide +kernel
theorem dX6_pitchOf_119 : decode cX6_pitchOf 119 = .ok (.ldc 115, 2) := by decide +kernel
theorem dX6_pitchOf_121 : decode cX6_pitchOf 121 = .ok (.invokespecial 117, 3) := by decide +kernel
theorem dX6_pitchOf_124 : decode cX6_pitchOf 124 = .ok (.athrow, 1) := by decide +kernel
theorem dX6_sign_0 : decode cX6_sign 0 = .ok (.aload_n 0, 1) := by decide +kernel
theorem dX6_sign_1 : decode cX6_sign 1 = .ok (.aload_n 0, 1) := by decide +kernel
theorem dX6_sign_2 : decode cX6_sign 2 = .ok (.getfield 10, 3) := by decide +kernel
theorem dX6_sign_5 : decode cX6_sign 5 = .ok (.iload_n 1, 1) := by decide +kernel
theorem dX6_sign_6 : decode cX6_sign 6 = .ok (.invokevirtual 95, 3) := by decide +kernel
theorem dX6_sign_9 : decode cX6_sign 9 = .ok (.invokevirtual 69, 3) := by decide +kernel
theorem dX6_sign_12 : decode cX6_sign 12 = .ok (.aload_n 0, 1) := by decide +kernel
theorem dX6_sign_13 : decode cX6_sign 13 = .ok (.getfield 10, 3) := by decide +kernel
theorem dX6_sign_16 : decode cX6_sign 16 = .ok (.getfield 82, 3) := by decide +kernel
theorem dX6_sign_19 : decode cX6_sign 19 = .ok (.iload_n 1, 1) := by decide +kernel
theorem dX6_sign_20 : decode cX6_sign 20 = .ok (.aaload, 1) := by decide +kernel
theorem dX6_sign_21 : decode cX6_sign 21 = .ok (.getfield 86, 3) := by decide +kernel
theorem dX6_sign_24 : decode cX6_sign 24 = .ok (.ifCond .eq 6, 3) := by decide +kernel
theorem dX6_sign_27 : decode cX6_sign 27 = .ok (.bipush 99, 2) := by decide +kernel
theorem dX6_sign_29 : decode cX6_sign 29 = .ok (.ireturn, 1) := by decide +kernel
theorem dX6_sign_30 : decode cX6_sign 30 = .ok (.aload_n 0, 1) := by decide +kernel
theorem dX6_sign_31 : decode cX6_sign 31 = .ok (.getfield 10, 3) := by decide +kernel
theorem dX6_sign_34 : decode cX6_sign 34 = .ok (.iload_n 1, 1) := by decide +kernel
theorem dX6_sign_35 : decode cX6_sign 35 = .ok (.invokevirtual 104, 3) := by decide +kernel
theorem dX6_sign_38 : decode cX6_sign 38 = .ok (.iconst (-1), 1) := by decide +kernel
theorem dX6_sign_39 : decode cX6_sign 39 = .ok (.if_icmp .eq 6, 3) := by decide +kernel
theorem dX6_sign_42 : decode cX6_sign 42 = .ok (.bipush 104, 2) := by decide +kernel
theorem dX6_sign_44 : decode cX6_sign 44 = .ok (.ireturn, 1) := by decide +kernel
theorem dX6_sign_45 : decode cX6_sign 45 = .ok (.aload_n 0, 1) := by decide +kernel
theorem dX6_sign_46 : decode cX6_sign 46 = .ok (.getfield 10, 3) := by decide +kernel
theorem dX6_sign_49 : decode cX6_sign 49 = .ok (.iload_n 1, 1) := by decide +kernel
theorem dX6_sign_50 : decode cX6_sign 50 = .ok (.invokevirtual 107, 3) := by decide +kernel
theorem dX6_sign_53 : decode cX6_sign 53 = .ok (.iconst (-1), 1) := by decide +kernel
theorem dX6_sign_54 : decode cX6_sign 54 = .ok (.if_icmp .eq 6, 3) := by decide +kernel
theorem dX6_sign_57 : decode cX6_sign 57 = .ok (.bipush 105, 2) := by decide +kernel
theorem dX6_sign_59 : decode cX6_sign 59 = .ok (.ireturn, 1) := by decide +kernel
theorem dX6_sign_60 : decode cX6_sign 60 = .ok (.aload_n 0, 1) := by decide +kernel
theorem dX6_sign_61 : decode cX6_sign 61 = .ok (.getfield 10, 3) := by decide +kernel
theorem dX6_sign_64 : decode cX6_sign 64 = .ok (.getfield 82, 3) := by decide +kernel
theorem dX6_sign_67 : decode cX6_sign 67 = .ok (.iload_n 1, 1) := by decide +kernel
theorem dX6_sign_68 : decode cX6_sign 68 = .ok (.aaload, 1) := by decide +kernel
theorem dX6_sign_69 : decode cX6_sign 69 = .ok (.getfield 92, 3) := by decide +kernel
theorem dX6_sign_72 : decode cX6_sign 72 = .ok (.bipush 60, 2) := by decide +kernel
theorem dX6_sign_74 : decode cX6_sign 74 = .ok (.if_icmp .le 8, 3) := by decide +kernel
theorem dX6_sign_77 : decode cX6_sign 77 = .ok (.bipush 119, 2) := by decide +kernel
theorem dX6_sign_79 : decode cX6_sign 79 = .ok (.goto 5, 3) := by decide +kernel
theorem dX6_sign_82 : decode cX6_sign 82 = .ok (.bipush 100, 2) := by decide +kernel
theorem dX6_sign_84 : decode cX6_sign 84 = .ok (.ireturn, 1) := by decide +kernel
theorem dX6_horse_0 : decode cX6_horse 0 = .ok (.aload_n 0, 1) := by decide +kernel
theorem dX6_horse_1 : decode cX6_horse 1 = .ok (.iload_n 1, 1) := by decide +kernel
theorem dX6_horse_2 : decode cX6_horse 2 = .ok (.iconst 1, 1) := by decide +kernel
theorem dX6_horse_3 : decode cX6_horse 3 = .ok (.bipush 9, 2) := by decide +kernel
theorem dX6_horse_5 : decode cX6_horse 5 = .ok (.invokestatic 120, 3) := by decide +kernel
theorem dX6_horse_8 : decode cX6_horse 8 = .ok (.invokevirtual 69, 3) := by decide +kernel
theorem dX6_horse_11 : decode cX6_horse 11 = .ok (.aload_n 0, 1) := by decide +kernel
theorem dX6_horse_12 : decode cX6_horse 12 = .ok (.aload_n 0, 1) := by decide +kernel
theorem dX6_horse_13 : decode cX6_horse 13 = .ok (.getfield 10, 3) := by decide +kernel
theorem dX6_horse_16 : decode cX6_horse 16 = .ok (.getfield 124, 3) := by decide +kernel
theorem dX6_horse_19 : decode cX6_horse 19 = .ok (.iconst 5, 1) := by decide +kernel
theorem dX6_horse_20 : decode cX6_horse 20 = .ok (.invokestatic 75, 3) := by decide +kernel
theorem dX6_horse_23 : decode cX6_horse 23 = .ok (.invokevirtual 47, 3) := by decide +kernel
theorem dX6_horse_26 : decode cX6_horse 26 = .ok (.aload_n 0, 1) := by decide +kernel
theorem dX6_horse_27 : decode cX6_horse 27 = .ok (.getfield 10, 3) := by decide +kernel
theorem dX6_horse_30 : decode cX6_horse 30 = .ok (.getfield 127, 3) := by decide +kernel
theorem dX6_horse_33 : decode cX6_horse 33 = .ok (.aload_n 0, 1) := by decide +kernel
theorem dX6_horse_34 : decode cX6_horse 34 = .ok (.getfield 10, 3) := by decide +kernel
theorem dX6_horse_37 : decode cX6_horse 37 = .ok (.getfield 124, 3) := by decide +kernel
theorem dX6_horse_40 : decode cX6_horse 40 = .ok (.aaload, 1) := by decide +kernel
theorem dX6_horse_41 : decode cX6_horse 41 = .ok (.iload_n 1, 1) := by decide +kernel
theorem dX6_horse_42 : decode cX6_horse 42 = .ok (.putfield 131, 3) := by decide +kernel
theorem dX6_horse_45 : decode cX6_horse 45 = .ok (.aload_n 0, 1) := by decide +kernel
theorem dX6_horse_46 : decode cX6_horse 46 = .ok (.getfield 10, 3) := by decide +kernel
theorem dX6_horse_49 : decode cX6_horse 49 = .ok (.getfield 127, 3) := by decide +kernel
theorem dX6_horse_52 : decode cX6_horse 52 = .ok (.aload_n 0, 1) := by decide +kernel
theorem dX6_horse_53 : decode cX6_horse 53 = .ok (.getfield 10, 3) := by decide +kernel
theorem dX6_horse_56 : decode cX6_horse 56 = .ok (.getfield 124, 3) := by decide +kernel
theorem dX6_horse_59 : decode cX6_horse 59 = .ok (.aaload, 1) := by decide +kernel
theorem dX6_horse_60 : decode cX6_horse 60 = .ok (.iload_n 2, 1) := by decide +kernel
theorem dX6_horse_61 : decode cX6_horse 61 = .ok (.putfield 136, 3) := by decide +kernel
theorem dX6_horse_64 : decode cX6_horse 64 = .ok (.aload_n 0, 1) := by decide +kernel
theorem dX6_horse_65 : decode cX6_horse 65 = .ok (.getfield 10, 3) := by decide +kernel
theorem dX6_horse_68 : decode cX6_horse 68 = .ok (.dup, 1) := by decide +kernel
theorem dX6_horse_69 : decode cX6_horse 69 = .ok (.getfield 124, 3) := by decide +kernel
theorem dX6_horse_72 : decode cX6_horse 72 = .ok (.dup_x1, 1) := by decide +kernel
theorem dX6_horse_73 : decode cX6_horse 73 = .ok (.iconst 1, 1) := by decide +kernel
theorem dX6_horse_74 : decode cX6_horse 74 = .ok (.iadd, 1) := by decide +kernel
theorem dX6_horse_75 : decode cX6_horse 75 = .ok (.putfield 124, 3) := by decide +kernel
theorem dX6_horse_78 : decode cX6_horse 78 = .ok (.ireturn, 1) := by decide +kernel
theorem dX6_boots_0 : decode cX6_boots 0 = .ok (.aload_n 0, 1) := by decide +kernel
theorem dX6_boots_1 : decode cX6_boots 1 = .ok (.aload_n 0, 1) := by decide +kernel
theorem dX6_boots_2 : decode cX6_boots 2 = .ok (.getfield 10, 3) := by decide +kernel
theorem dX6_boots_5 : decode cX6_boots 5 = .ok (.iload_n 1, 1) := by decide +kernel
theorem dX6_boots_6 : decode cX6_boots 6 = .ok (.invokevirtual 139, 3) := by decide +kernel
theorem dX6_boots_9 : decode cX6_boots 9 = .ok (.invokevirtual 47, 3) := by decide +kernel
theorem dX6_boots_12 : decode cX6_boots 12 = .ok (.aload_n 0, 1) := by decide +kernel
theorem dX6_boots_13 : decode cX6_boots 13 = .ok (.getfield 10, 3) := by decide +kernel
theorem dX6_boots_16 : decode cX6_boots 16 = .ok (.getfield 127, 3) := by decide +kernel
theorem dX6_boots_19 : decode cX6_boots 19 = .ok (.iload_n 1, 1) := by decide +kernel
theorem dX6_boots_20 : decode cX6_boots 20 = .ok (.aaload, 1) := by decide +kernel
theorem dX6_boots_21 : decode cX6_boots 21 = .ok (.iload_n 2, 1) := by decide +kernel
theorem dX6_boots_22 : decode cX6_boots 22 = .ok (.putfield 136, 3) := by decide +kernel
theorem dX6_boots_25 : decode cX6_boots 25 = .ok (.aload_n 0, 1) := by decide +kernel
theorem dX6_boots_26 : decode cX6_boots 26 = .ok (.getfield 10, 3) := by decide +kernel
theorem dX6_boots_29 : decode cX6_boots 29 = .ok (.invokevirtual 142, 3) := by decide +kernel
theorem dX6_boots_32 : decode cX6_boots 32 = .ok (.ireturn, 1) := by decide +kernel
theorem dX6_horseOf_0 : decode cX6_horseOf 0 = .ok (.aload_n 0, 1) := by decide +kernel
theorem dX6_horseOf_1 : decode cX6_horseOf 1 = .ok (.aload_n 0, 1) := by decide +kernel
theorem dX6_horseOf_2 : decode cX6_horseOf 2 = .ok (.getfield 10, 3) := by decide +kernel
theorem dX6_horseOf_5 : decode cX6_horseOf 5 = .ok (.iload_n 1, 1) := by decide +kernel
theorem dX6_horseOf_6 : decode cX6_horseOf 6 = .ok (.invokevirtual 146, 3) := by decide +kernel
theorem dX6_horseOf_9 : decode cX6_horseOf 9 = .ok (.invokevirtual 69, 3) := by decide +kernel
theorem dX6_horseOf_12 : decode cX6_horseOf 12 = .ok (.aload_n 0, 1) := by decide +kernel
theorem dX6_horseOf_13 : decode cX6_horseOf 13 = .ok (.getfield 10, 3) := by decide +kernel
theorem dX6_horseOf_16 : decode cX6_horseOf 16 = .ok (.getfield 127, 3) := by decide +kernel
theorem dX6_horseOf_19 : decode cX6_horseOf 19 = .ok (.iload_n 1, 1) := by decide +kernel
theorem dX6_horseOf_20 : decode cX6_horseOf 20 = .ok (.aaload, 1) := by decide +kernel
theorem dX6_horseOf_21 : decode cX6_horseOf 21 = .ok (.astore_n 3, 1) := by decide +kernel
theorem dX6_horseOf_22 : decode cX6_horseOf 22 = .ok (.iload_n 2, 1) := by decide +kernel
theorem dX6_horseOf_23 : decode cX6_horseOf 23 = .ok (.tableswitch 86 0 5 #[37, 42, 55, 60, 65, 81], 37) := by decide +kernel
theorem dX6_horseOf_60 : decode cX6_horseOf 60 = .ok (.aload_n 3, 1) := by decide +kernel
theorem dX6_horseOf_61 : decode cX6_horseOf 61 = .ok (.getfield 131, 3) := by decide +kernel
theorem dX6_horseOf_64 : decode cX6_horseOf 64 = .ok (.ireturn, 1) := by decide +kernel
theorem dX6_horseOf_65 : decode cX6_horseOf 65 = .ok (.aload_n 3, 1) := by decide +kernel
theorem dX6_horseOf_66 : decode cX6_horseOf 66 = .ok (.getfield 136, 3) := by decide +kernel
theorem dX6_horseOf_69 : decode cX6_horseOf 69 = .ok (.ifCond .eq 7, 3) := by decide +kernel
theorem dX6_horseOf_72 : decode cX6_horseOf 72 = .ok (.iconst 1, 1) := by decide +kernel
theorem dX6_horseOf_73 : decode cX6_horseOf 73 = .ok (.goto 4, 3) := by decide +kernel
theorem dX6_horseOf_76 : decode cX6_horseOf 76 = .ok (.iconst 0, 1) := by decide +kernel
theorem dX6_horseOf_77 : decode cX6_horseOf 77 = .ok (.ireturn, 1) := by decide +kernel
theorem dX6_horseOf_78 : decode cX6_horseOf 78 = .ok (.aload_n 3, 1) := by decide +kernel
theorem dX6_horseOf_79 : decode cX6_horseOf 79 = .ok (.getfield 149, 3) := by decide +kernel
theorem dX6_horseOf_82 : decode cX6_horseOf 82 = .ok (.ireturn, 1) := by decide +kernel
theorem dX6_horseOf_83 : decode cX6_horseOf 83 = .ok (.aload_n 3, 1) := by decide +kernel
theorem dX6_horseOf_84 : decode cX6_horseOf 84 = .ok (.getfield 152, 3) := by decide +kernel
theorem dX6_horseOf_87 : decode cX6_horseOf 87 = .ok (.ireturn, 1) := by decide +kernel
theorem dX6_horseOf_88 : decode cX6_horseOf 88 = .ok (.aload_n 3, 1) := by decide +kernel
theorem dX6_horseOf_89 : decode cX6_horseOf 89 = .ok (.invokevirtual 155, 3) := by decide +kernel
theorem dX6_horseOf_92 : decode cX6_horseOf 92 = .ok (.ifCond .eq 10, 3) := by decide +kernel
theorem dX6_horseOf_95 : decode cX6_horseOf 95 = .ok (.aload_n 3, 1) := by decide +kernel
theorem dX6_horseOf_96 : decode cX6_horseOf 96 = .ok (.getfield 159, 3) := by decide +kernel
theorem dX6_horseOf_99 : decode cX6_horseOf 99 = .ok (.goto 4, 3) := by decide +kernel
theorem dX6_horseOf_102 : decode cX6_horseOf 102 = .ok (.iconst (-1), 1) := by decide +kernel
theorem dX6_horseOf_103 : decode cX6_horseOf 103 = .ok (.ireturn, 1) := by decide +kernel
theorem dX6_horseOf_104 : decode cX6_horseOf 104 = .ok (.aload_n 3, 1) := by decide +kernel
theorem dX6_horseOf_105 : decode cX6_horseOf 105 = .ok (.getfield 162, 3) := by decide +kernel
theorem dX6_horseOf_108 : decode cX6_horseOf 108 = .ok (.ireturn, 1) := by decide +kernel
theorem dX6_horseOf_109 : decode cX6_horseOf 109 = .ok (.new 113, 3) := by decide +kernel
theorem dX6_horseOf_112 : decode cX6_horseOf 112 = .ok (.dup, 1) := by decide +kernel
theorem dX6_horseOf_113 : decode cX6_horseOf 113 = .ok (.ldc 165, 2) := by decide +kernel
theorem dX6_horseOf_115 : decode cX6_horseOf 115 = .ok (.invokespecial 117, 3) := by decide +kernel
theorem dX6_horseOf_118 : decode cX6_horseOf 118 = .ok (.athrow, 1) := by decide +kernel
theorem dX6_roll_0 : decode cX6_roll 0 = .ok (.aload_n 0, 1) := by decide +kernel
theorem dX6_roll_1 : decode cX6_roll 1 = .ok (.aload_n 0, 1) := by decide +kernel
theorem dX6_roll_2 : decode cX6_roll 2 = .ok (.getfield 10, 3) := by decide +kernel
theorem dX6_roll_5 : decode cX6_roll 5 = .ok (.iload_n 1, 1) := by decide +kernel
theorem dX6_roll_6 : decode cX6_roll 6 = .ok (.iload_n 2, 1) := by decide +kernel
theorem dX6_roll_7 : decode cX6_roll 7 = .ok (.iload_n 3, 1) := by decide +kernel
theorem dX6_roll_8 : decode cX6_roll 8 = .ok (.invokevirtual 167, 3) := by decide +kernel
theorem dX6_roll_11 : decode cX6_roll 11 = .ok (.invokevirtual 47, 3) := by decide +kernel
theorem dX6_roll_14 : decode cX6_roll 14 = .ok (.aload_n 0, 1) := by decide +kernel
theorem dX6_roll_15 : decode cX6_roll 15 = .ok (.getfield 10, 3) := by decide +kernel
theorem dX6_roll_18 : decode cX6_roll 18 = .ok (.iload_n 1, 1) := by decide +kernel
theorem dX6_roll_19 : decode cX6_roll 19 = .ok (.iload_n 2, 1) := by decide +kernel
theorem dX6_roll_20 : decode cX6_roll 20 = .ok (.iload_n 3, 1) := by decide +kernel
theorem dX6_roll_21 : decode cX6_roll 21 = .ok (.invokevirtual 170, 3) := by decide +kernel
theorem dX6_roll_24 : decode cX6_roll 24 = .ok (.aload_n 0, 1) := by decide +kernel
theorem dX6_roll_25 : decode cX6_roll 25 = .ok (.getfield 10, 3) := by decide +kernel
theorem dX6_roll_28 : decode cX6_roll 28 = .ok (.getfield 82, 3) := by decide +kernel
theorem dX6_roll_31 : decode cX6_roll 31 = .ok (.iload_n 2, 1) := by decide +kernel
theorem dX6_roll_32 : decode cX6_roll 32 = .ok (.aaload, 1) := by decide +kernel
theorem dX6_roll_33 : decode cX6_roll 33 = .ok (.getfield 98, 3) := by decide +kernel
theorem dX6_roll_36 : decode cX6_roll 36 = .ok (.iload_n 3, 1) := by decide +kernel
theorem dX6_roll_37 : decode cX6_roll 37 = .ok (.aload_n 0, 1) := by decide +kernel
theorem dX6_roll_38 : decode cX6_roll 38 = .ok (.getfield 10, 3) := by decide +kernel
theorem dX6_roll_41 : decode cX6_roll 41 = .ok (.getfield 127, 3) := by decide +kernel
theorem dX6_roll_44 : decode cX6_roll 44 = .ok (.iload_n 1, 1) := by decide +kernel
theorem dX6_roll_45 : decode cX6_roll 45 = .ok (.aaload, 1) := by decide +kernel
theorem dX6_roll_46 : decode cX6_roll 46 = .ok (.getfield 131, 3) := by decide +kernel
theorem dX6_roll_49 : decode cX6_roll 49 = .ok (.imul, 1) := by decide +kernel
theorem dX6_roll_50 : decode cX6_roll 50 = .ok (.iadd, 1) := by decide +kernel
theorem dX6_roll_51 : decode cX6_roll 51 = .ok (.istore 4, 2) := by decide +kernel
theorem dX6_roll_53 : decode cX6_roll 53 = .ok (.bipush 99, 2) := by decide +kernel
theorem dX6_roll_55 : decode cX6_roll 55 = .ok (.iload 4, 2) := by decide +kernel
theorem dX6_roll_57 : decode cX6_roll 57 = .ok (.invokestatic 174, 3) := by decide +kernel
theorem dX6_roll_60 : decode cX6_roll 60 = .ok (.ireturn, 1) := by decide +kernel
theorem dX6_bestHorse_0 : decode cX6_bestHorse 0 = .ok (.aload_n 0, 1) := by decide +kernel
theorem dX6_bestHorse_1 : decode cX6_bestHorse 1 = .ok (.aload_n 0, 1) := by decide +kernel
theorem dX6_bestHorse_2 : decode cX6_bestHorse 2 = .ok (.getfield 10, 3) := by decide +kernel
theorem dX6_bestHorse_5 : decode cX6_bestHorse 5 = .ok (.iload_n 1, 1) := by decide +kernel
theorem dX6_bestHorse_6 : decode cX6_bestHorse 6 = .ok (.invokevirtual 95, 3) := by decide +kernel
theorem dX6_bestHorse_9 : decode cX6_bestHorse 9 = .ok (.invokevirtual 69, 3) := by decide +kernel
theorem dX6_bestHorse_12 : decode cX6_bestHorse 12 = .ok (.aload_n 0, 1) := by decide +kernel
theorem dX6_bestHorse_13 : decode cX6_bestHorse 13 = .ok (.getfield 10, 3) := by decide +kernel
theorem dX6_bestHorse_16 : decode cX6_bestHorse 16 = .ok (.iload_n 1, 1) := by decide +kernel
theorem dX6_bestHorse_17 : decode cX6_bestHorse 17 = .ok (.invokevirtual 179, 3) := by decide +kernel
theorem dX6_bestHorse_20 : decode cX6_bestHorse 20 = .ok (.istore_n 2, 1) := by decide +kernel
theorem dX6_bestHorse_21 : decode cX6_bestHorse 21 = .ok (.iload_n 2, 1) := by decide +kernel
theorem dX6_bestHorse_22 : decode cX6_bestHorse 22 = .ok (.iconst (-1), 1) := by decide +kernel
theorem dX6_bestHorse_23 : decode cX6_bestHorse 23 = .ok (.if_icmp .ne 13, 3) := by decide +kernel
theorem dX6_bestHorse_26 : decode cX6_bestHorse 26 = .ok (.new 182, 3) := by decide +kernel
theorem dX6_bestHorse_29 : decode cX6_bestHorse 29 = .ok (.dup, 1) := by decide +kernel
theorem dX6_bestHorse_30 : decode cX6_bestHorse 30 = .ok (.ldc 184, 2) := by decide +kernel
theorem dX6_bestHorse_32 : decode cX6_bestHorse 32 = .ok (.invokespecial 186, 3) := by decide +kernel
theorem dX6_bestHorse_35 : decode cX6_bestHorse 35 = .ok (.athrow, 1) := by decide +kernel
theorem dX6_bestHorse_36 : decode cX6_bestHorse 36 = .ok (.iload_n 2, 1) := by decide +kernel
theorem dX6_bestHorse_37 : decode cX6_bestHorse 37 = .ok (.ireturn, 1) := by decide +kernel
theorem dX6_umpire_0 : decode cX6_umpire 0 = .ok (.aload_n 0, 1) := by decide +kernel
theorem dX6_umpire_1 : decode cX6_umpire 1 = .ok (.iload_n 1, 1) := by decide +kernel
theorem dX6_umpire_2 : decode cX6_umpire 2 = .ok (.iconst 1, 1) := by decide +kernel
theorem dX6_umpire_3 : decode cX6_umpire 3 = .ok (.bipush 9, 2) := by decide +kernel
theorem dX6_umpire_5 : decode cX6_umpire 5 = .ok (.invokestatic 120, 3) := by decide +kernel
theorem dX6_umpire_8 : decode cX6_umpire 8 = .ok (.invokevirtual 69, 3) := by decide +kernel
theorem dX6_umpire_11 : decode cX6_umpire 11 = .ok (.aload_n 0, 1) := by decide +kernel
theorem dX6_umpire_12 : decode cX6_umpire 12 = .ok (.aload_n 0, 1) := by decide +kernel
theorem dX6_umpire_13 : decode cX6_umpire 13 = .ok (.getfield 10, 3) := by decide +kernel
theorem dX6_umpire_16 : decode cX6_umpire 16 = .ok (.getfield 187, 3) := by decide +kernel
theorem dX6_umpire_19 : decode cX6_umpire 19 = .ok (.iconst 3, 1) := by decide +kernel
theorem dX6_umpire_20 : decode cX6_umpire 20 = .ok (.invokestatic 75, 3) := by decide +kernel
theorem dX6_umpire_23 : decode cX6_umpire 23 = .ok (.invokevirtual 47, 3) := by decide +kernel
theorem dX6_umpire_26 : decode cX6_umpire 26 = .ok (.aload_n 0, 1) := by decide +kernel
theorem dX6_umpire_27 : decode cX6_umpire 27 = .ok (.getfield 10, 3) := by decide +kernel
theorem dX6_umpire_30 : decode cX6_umpire 30 = .ok (.getfield 190, 3) := by decide +kernel
theorem dX6_umpire_33 : decode cX6_umpire 33 = .ok (.aload_n 0, 1) := by decide +kernel
theorem dX6_umpire_34 : decode cX6_umpire 34 = .ok (.getfield 10, 3) := by decide +kernel
theorem dX6_umpire_37 : decode cX6_umpire 37 = .ok (.getfield 187, 3) := by decide +kernel
theorem dX6_umpire_40 : decode cX6_umpire 40 = .ok (.iload_n 1, 1) := by decide +kernel
theorem dX6_umpire_41 : decode cX6_umpire 41 = .ok (.iastore, 1) := by decide +kernel
theorem dX6_umpire_42 : decode cX6_umpire 42 = .ok (.aload_n 0, 1) := by decide +kernel
theorem dX6_umpire_43 : decode cX6_umpire 43 = .ok (.getfield 10, 3) := by decide +kernel
theorem dX6_umpire_46 : decode cX6_umpire 46 = .ok (.dup, 1) := by decide +kernel
theorem dX6_umpire_47 : decode cX6_umpire 47 = .ok (.getfield 187, 3) := by decide +kernel
theorem dX6_umpire_50 : decode cX6_umpire 50 = .ok (.dup_x1, 1) := by decide +kernel
theorem dX6_umpire_51 : decode cX6_umpire 51 = .ok (.iconst 1, 1) := by decide +kernel
theorem dX6_umpire_52 : decode cX6_umpire 52 = .ok (.iadd, 1) := by decide +kernel
theorem dX6_umpire_53 : decode cX6_umpire 53 = .ok (.putfield 187, 3) := by decide +kernel
theorem dX6_umpire_56 : decode cX6_umpire 56 = .ok (.ireturn, 1) := by decide +kernel
theorem dX6_call_0 : decode cX6_call 0 = .ok (.aload_n 0, 1) := by decide +kernel
theorem dX6_call_1 : decode cX6_call 1 = .ok (.aload_n 0, 1) := by decide +kernel
theorem dX6_call_2 : decode cX6_call 2 = .ok (.getfield 10, 3) := by decide +kernel
theorem dX6_call_5 : decode cX6_call 5 = .ok (.iload_n 1, 1) := by decide +kernel
theorem dX6_call_6 : decode cX6_call 6 = .ok (.iload_n 2, 1) := by decide +kernel
theorem dX6_call_7 : decode cX6_call 7 = .ok (.invokevirtual 193, 3) := by decide +kernel
theorem dX6_call_10 : decode cX6_call 10 = .ok (.invokevirtual 69, 3) := by decide +kernel
theorem dX6_call_13 : decode cX6_call 13 = .ok (.aload_n 0, 1) := by decide +kernel
theorem dX6_call_14 : decode cX6_call 14 = .ok (.getfield 10, 3) := by decide +kernel
theorem dX6_call_17 : decode cX6_call 17 = .ok (.iload_n 1, 1) := by decide +kernel
theorem dX6_call_18 : decode cX6_call 18 = .ok (.iload_n 2, 1) := by decide +kernel
theorem dX6_call_19 : decode cX6_call 19 = .ok (.invokevirtual 196, 3) := by decide +kernel
theorem dX6_call_22 : decode cX6_call 22 = .ok (.ireturn, 1) := by decide +kernel
theorem dX6_fitIn_0 : decode cX6_fitIn 0 = .ok (.aload_n 0, 1) := by decide +kernel
theorem dX6_fitIn_1 : decode cX6_fitIn 1 = .ok (.aload_n 0, 1) := by decide +kernel
theorem dX6_fitIn_2 : decode cX6_fitIn 2 = .ok (.getfield 10, 3) := by decide +kernel
theorem dX6_fitIn_5 : decode cX6_fitIn 5 = .ok (.iload_n 1, 1) := by decide +kernel
theorem dX6_fitIn_6 : decode cX6_fitIn 6 = .ok (.iload_n 2, 1) := by decide +kernel
theorem dX6_fitIn_7 : decode cX6_fitIn 7 = .ok (.invokevirtual 193, 3) := by decide +kernel
theorem dX6_fitIn_10 : decode cX6_fitIn 10 = .ok (.invokevirtual 69, 3) := by decide +kernel
theorem dX6_fitIn_13 : decode cX6_fitIn 13 = .ok (.aload_n 0, 1) := by decide +kernel
theorem dX6_fitIn_14 : decode cX6_fitIn 14 = .ok (.getfield 16, 3) := by decide +kernel
theorem dX6_fitIn_17 : decode cX6_fitIn 17 = .ok (.aload_n 0, 1) := by decide +kernel
theorem dX6_fitIn_18 : decode cX6_fitIn 18 = .ok (.getfield 10, 3) := by decide +kernel
theorem dX6_fitIn_21 : decode cX6_fitIn 21 = .ok (.invokevirtual 199, 3) := by decide +kernel
theorem dX6_fitIn_24 : decode cX6_fitIn 24 = .ok (.iconst 0, 1) := by decide +kernel
theorem dX6_fitIn_25 : decode cX6_fitIn 25 = .ok (.istore_n 3, 1) := by decide +kernel
theorem dX6_fitIn_26 : decode cX6_fitIn 26 = .ok (.iload_n 3, 1) := by decide +kernel
theorem dX6_fitIn_27 : decode cX6_fitIn 27 = .ok (.bipush 48, 2) := by decide +kernel
theorem dX6_fitIn_29 : decode cX6_fitIn 29 = .ok (.if_icmp .gt 31, 3) := by decide +kernel
theorem dX6_fitIn_32 : decode cX6_fitIn 32 = .ok (.aload_n 0, 1) := by decide +kernel
theorem dX6_fitIn_33 : decode cX6_fitIn 33 = .ok (.getfield 16, 3) := by decide +kernel
theorem dX6_fitIn_36 : decode cX6_fitIn 36 = .ok (.iload_n 1, 1) := by decide +kernel
theorem dX6_fitIn_37 : decode cX6_fitIn 37 = .ok (.iload_n 2, 1) := by decide +kernel
theorem dX6_fitIn_38 : decode cX6_fitIn 38 = .ok (.invokevirtual 196, 3) := by decide +kernel
theorem dX6_fitIn_41 : decode cX6_fitIn 41 = .ok (.ifCond .ne 5, 3) := by decide +kernel
theorem dX6_fitIn_44 : decode cX6_fitIn 44 = .ok (.iload_n 3, 1) := by decide +kernel
theorem dX6_fitIn_45 : decode cX6_fitIn 45 = .ok (.ireturn, 1) := by decide +kernel
theorem dX6_fitIn_46 : decode cX6_fitIn 46 = .ok (.aload_n 0, 1) := by decide +kernel
theorem dX6_fitIn_47 : decode cX6_fitIn 47 = .ok (.getfield 16, 3) := by decide +kernel
theorem dX6_fitIn_50 : decode cX6_fitIn 50 = .ok (.invokevirtual 203, 3) := by decide +kernel
theorem dX6_fitIn_53 : decode cX6_fitIn 53 = .ok (.pop, 1) := by decide +kernel
theorem dX6_fitIn_54 : decode cX6_fitIn 54 = .ok (.iinc 3 1, 3) := by decide +kernel
theorem dX6_fitIn_57 : decode cX6_fitIn 57 = .ok (.goto (-31), 3) := by decide +kernel
theorem dX6_fitIn_60 : decode cX6_fitIn 60 = .ok (.new 182, 3) := by decide +kernel
theorem dX6_fitIn_63 : decode cX6_fitIn 63 = .ok (.dup, 1) := by decide +kernel
theorem dX6_fitIn_64 : decode cX6_fitIn 64 = .ok (.ldc 206, 2) := by decide +kernel
theorem dX6_fitIn_66 : decode cX6_fitIn 66 = .ok (.invokespecial 186, 3) := by decide +kernel
theorem dX6_fitIn_69 : decode cX6_fitIn 69 = .ok (.athrow, 1) := by decide +kernel
theorem dX6_bestPitch_0 : decode cX6_bestPitch 0 = .ok (.aload_n 0, 1) := by decide +kernel
theorem dX6_bestPitch_1 : decode cX6_bestPitch 1 = .ok (.aload_n 0, 1) := by decide +kernel
theorem dX6_bestPitch_2 : decode cX6_bestPitch 2 = .ok (.getfield 10, 3) := by decide +kernel
theorem dX6_bestPitch_5 : decode cX6_bestPitch 5 = .ok (.iload_n 1, 1) := by decide +kernel
theorem dX6_bestPitch_6 : decode cX6_bestPitch 6 = .ok (.invokevirtual 208, 3) := by decide +kernel
theorem dX6_bestPitch_9 : decode cX6_bestPitch 9 = .ok (.invokevirtual 69, 3) := by decide +kernel
theorem dX6_bestPitch_12 : decode cX6_bestPitch 12 = .ok (.aload_n 0, 1) := by decide +kernel
theorem dX6_bestPitch_13 : decode cX6_bestPitch 13 = .ok (.getfield 10, 3) := by decide +kernel
theorem dX6_bestPitch_16 : decode cX6_bestPitch 16 = .ok (.iload_n 1, 1) := by decide +kernel
theorem dX6_bestPitch_17 : decode cX6_bestPitch 17 = .ok (.invokevirtual 211, 3) := by decide +kernel
theorem dX6_bestPitch_20 : decode cX6_bestPitch 20 = .ok (.istore_n 2, 1) := by decide +kernel
theorem dX6_bestPitch_21 : decode cX6_bestPitch 21 = .ok (.iload_n 2, 1) := by decide +kernel
theorem dX6_bestPitch_22 : decode cX6_bestPitch 22 = .ok (.iconst (-1), 1) := by decide +kernel
theorem dX6_bestPitch_23 : decode cX6_bestPitch 23 = .ok (.if_icmp .ne 13, 3) := by decide +kernel
theorem dX6_bestPitch_26 : decode cX6_bestPitch 26 = .ok (.new 182, 3) := by decide +kernel
theorem dX6_bestPitch_29 : decode cX6_bestPitch 29 = .ok (.dup, 1) := by decide +kernel
theorem dX6_bestPitch_30 : decode cX6_bestPitch 30 = .ok (.ldc 214, 2) := by decide +kernel
theorem dX6_bestPitch_32 : decode cX6_bestPitch 32 = .ok (.invokespecial 186, 3) := by decide +kernel
theorem dX6_bestPitch_35 : decode cX6_bestPitch 35 = .ok (.athrow, 1) := by decide +kernel
theorem dX6_bestPitch_36 : decode cX6_bestPitch 36 = .ok (.iload_n 2, 1) := by decide +kernel
theorem dX6_bestPitch_37 : decode cX6_bestPitch 37 = .ok (.ireturn, 1) := by decide +kernel
theorem dX6_innings_0 : decode cX6_innings 0 = .ok (.aload_n 0, 1) := by decide +kernel
theorem dX6_innings_1 : decode cX6_innings 1 = .ok (.aload_n 0, 1) := by decide +kernel
theorem dX6_innings_2 : decode cX6_innings 2 = .ok (.getfield 10, 3) := by decide +kernel
theorem dX6_innings_5 : decode cX6_innings 5 = .ok (.iload_n 1, 1) := by decide +kernel
theorem dX6_innings_6 : decode cX6_innings 6 = .ok (.iload_n 2, 1) := by decide +kernel
theorem dX6_innings_7 : decode cX6_innings 7 = .ok (.iload_n 3, 1) := by decide +kernel
theorem dX6_innings_8 : decode cX6_innings 8 = .ok (.invokevirtual 216, 3) := by decide +kernel
theorem dX6_innings_11 : decode cX6_innings 11 = .ok (.invokevirtual 47, 3) := by decide +kernel
theorem dX6_innings_14 : decode cX6_innings 14 = .ok (.aload_n 0, 1) := by decide +kernel
theorem dX6_innings_15 : decode cX6_innings 15 = .ok (.getfield 10, 3) := by decide +kernel
theorem dX6_innings_18 : decode cX6_innings 18 = .ok (.getfield 219, 3) := by decide +kernel
theorem dX6_innings_21 : decode cX6_innings 21 = .ok (.aload_n 0, 1) := by decide +kernel
theorem dX6_innings_22 : decode cX6_innings 22 = .ok (.getfield 10, 3) := by decide +kernel
theorem dX6_innings_25 : decode cX6_innings 25 = .ok (.getfield 223, 3) := by decide +kernel
theorem dX6_innings_28 : decode cX6_innings 28 = .ok (.aaload, 1) := by decide +kernel
theorem dX6_innings_29 : decode cX6_innings 29 = .ok (.astore 4, 2) := by decide +kernel
theorem dX6_innings_31 : decode cX6_innings 31 = .ok (.aload 4, 2) := by decide +kernel
theorem dX6_innings_33 : decode cX6_innings 33 = .ok (.iload_n 1, 1) := by decide +kernel
theorem dX6_innings_34 : decode cX6_innings 34 = .ok (.putfield 226, 3) := by decide +kernel
theorem dX6_innings_37 : decode cX6_innings 37 = .ok (.aload 4, 2) := by decide +kernel
theorem dX6_innings_39 : decode cX6_innings 39 = .ok (.iload_n 2, 1) := by decide +kernel
theorem dX6_innings_40 : decode cX6_innings 40 = .ok (.putfield 229, 3) := by decide +kernel
theorem dX6_innings_43 : decode cX6_innings 43 = .ok (.aload 4, 2) := by decide +kernel
theorem dX6_innings_45 : decode cX6_innings 45 = .ok (.iload_n 3, 1) := by decide +kernel
theorem dX6_innings_46 : decode cX6_innings 46 = .ok (.putfield 232, 3) := by decide +kernel
theorem dX6_innings_49 : decode cX6_innings 49 = .ok (.aload_n 0, 1) := by decide +kernel
theorem dX6_innings_50 : decode cX6_innings 50 = .ok (.getfield 10, 3) := by decide +kernel
theorem dX6_innings_53 : decode cX6_innings 53 = .ok (.dup, 1) := by decide +kernel
theorem dX6_innings_54 : decode cX6_innings 54 = .ok (.getfield 223, 3) := by decide +kernel
theorem dX6_innings_57 : decode cX6_innings 57 = .ok (.dup_x1, 1) := by decide +kernel
theorem dX6_innings_58 : decode cX6_innings 58 = .ok (.iconst 1, 1) := by decide +kernel
theorem dX6_innings_59 : decode cX6_innings 59 = .ok (.iadd, 1) := by decide +kernel
theorem dX6_innings_60 : decode cX6_innings 60 = .ok (.putfield 223, 3) := by decide +kernel
theorem dX6_innings_63 : decode cX6_innings 63 = .ok (.ireturn, 1) := by decide +kernel
theorem dX6_bowl_0 : decode cX6_bowl 0 = .ok (.aload_n 0, 1) := by decide +kernel
theorem dX6_bowl_1 : decode cX6_bowl 1 = .ok (.aload_n 0, 1) := by decide +kernel
theorem dX6_bowl_2 : decode cX6_bowl 2 = .ok (.getfield 10, 3) := by decide +kernel
theorem dX6_bowl_5 : decode cX6_bowl 5 = .ok (.iload_n 1, 1) := by decide +kernel
theorem dX6_bowl_6 : decode cX6_bowl 6 = .ok (.iload_n 2, 1) := by decide +kernel
theorem dX6_bowl_7 : decode cX6_bowl 7 = .ok (.invokevirtual 235, 3) := by decide +kernel
theorem dX6_bowl_10 : decode cX6_bowl 10 = .ok (.invokevirtual 47, 3) := by decide +kernel
theorem dX6_bowl_13 : decode cX6_bowl 13 = .ok (.aload_n 0, 1) := by decide +kernel
theorem dX6_bowl_14 : decode cX6_bowl 14 = .ok (.getfield 10, 3) := by decide +kernel
theorem dX6_bowl_17 : decode cX6_bowl 17 = .ok (.iload_n 1, 1) := by decide +kernel
theorem dX6_bowl_18 : decode cX6_bowl 18 = .ok (.iload_n 2, 1) := by decide +kernel
theorem dX6_bowl_19 : decode cX6_bowl 19 = .ok (.invokevirtual 238, 3) := by decide +kernel
theorem dX6_bowl_22 : decode cX6_bowl 22 = .ok (.ireturn, 1) := by decide +kernel
theorem dX6_would_0 : decode cX6_would 0 = .ok (.aload_n 0, 1) := by decide +kernel
theorem dX6_would_1 : decode cX6_would 1 = .ok (.aload_n 0, 1) := by decide +kernel
theorem dX6_would_2 : decode cX6_would 2 = .ok (.getfield 10, 3) := by decide +kernel
theorem dX6_would_5 : decode cX6_would 5 = .ok (.iload_n 1, 1) := by decide +kernel
theorem dX6_would_6 : decode cX6_would 6 = .ok (.iload_n 2, 1) := by decide +kernel
theorem dX6_would_7 : decode cX6_would 7 = .ok (.invokevirtual 241, 3) := by decide +kernel
theorem dX6_would_10 : decode cX6_would 10 = .ok (.invokevirtual 69, 3) := by decide +kernel
theorem dX6_would_13 : decode cX6_would 13 = .ok (.aload_n 0, 1) := by decide +kernel
theorem dX6_would_14 : decode cX6_would 14 = .ok (.getfield 16, 3) := by decide +kernel
theorem dX6_would_17 : decode cX6_would 17 = .ok (.aload_n 0, 1) := by decide +kernel
theorem dX6_would_18 : decode cX6_would 18 = .ok (.getfield 10, 3) := by decide +kernel
theorem dX6_would_21 : decode cX6_would 21 = .ok (.invokevirtual 199, 3) := by decide +kernel
theorem dX6_would_24 : decode cX6_would 24 = .ok (.aload_n 0, 1) := by decide +kernel
theorem dX6_would_25 : decode cX6_would 25 = .ok (.getfield 16, 3) := by decide +kernel
theorem dX6_would_28 : decode cX6_would 28 = .ok (.iload_n 1, 1) := by decide +kernel
theorem dX6_would_29 : decode cX6_would 29 = .ok (.iload_n 2, 1) := by decide +kernel
theorem dX6_would_30 : decode cX6_would 30 = .ok (.invokevirtual 238, 3) := by decide +kernel
theorem dX6_would_33 : decode cX6_would 33 = .ok (.ireturn, 1) := by decide +kernel
theorem dX6_end_0 : decode cX6_end 0 = .ok (.aload_n 0, 1) := by decide +kernel
theorem dX6_end_1 : decode cX6_end 1 = .ok (.aload_n 0, 1) := by decide +kernel
theorem dX6_end_2 : decode cX6_end 2 = .ok (.getfield 10, 3) := by decide +kernel
theorem dX6_end_5 : decode cX6_end 5 = .ok (.iload_n 1, 1) := by decide +kernel
theorem dX6_end_6 : decode cX6_end 6 = .ok (.invokevirtual 244, 3) := by decide +kernel
theorem dX6_end_9 : decode cX6_end 9 = .ok (.invokevirtual 47, 3) := by decide +kernel
theorem dX6_end_12 : decode cX6_end 12 = .ok (.aload_n 0, 1) := by decide +kernel
theorem dX6_end_13 : decode cX6_end 13 = .ok (.getfield 10, 3) := by decide +kernel
theorem dX6_end_16 : decode cX6_end 16 = .ok (.getfield 219, 3) := by decide +kernel
theorem dX6_end_19 : decode cX6_end 19 = .ok (.iload_n 1, 1) := by decide +kernel
theorem dX6_end_20 : decode cX6_end 20 = .ok (.aaload, 1) := by decide +kernel
theorem dX6_end_21 : decode cX6_end 21 = .ok (.iconst 1, 1) := by decide +kernel
theorem dX6_end_22 : decode cX6_end 22 = .ok (.putfield 247, 3) := by decide +kernel
theorem dX6_end_25 : decode cX6_end 25 = .ok (.aload_n 0, 1) := by decide +kernel
theorem dX6_end_26 : decode cX6_end 26 = .ok (.getfield 10, 3) := by decide +kernel
theorem dX6_end_29 : decode cX6_end 29 = .ok (.getfield 219, 3) := by decide +kernel
theorem dX6_end_32 : decode cX6_end 32 = .ok (.iload_n 1, 1) := by decide +kernel
theorem dX6_end_33 : decode cX6_end 33 = .ok (.aaload, 1) := by decide +kernel
theorem dX6_end_34 : decode cX6_end 34 = .ok (.getfield 250, 3) := by decide +kernel
theorem dX6_end_37 : decode cX6_end 37 = .ok (.ireturn, 1) := by decide +kernel
theorem dX6_inningsOf_0 : decode cX6_inningsOf 0 = .ok (.aload_n 0, 1) := by decide +kernel
theorem dX6_inningsOf_1 : decode cX6_inningsOf 1 = .ok (.aload_n 0, 1) := by decide +kernel
theorem dX6_inningsOf_2 : decode cX6_inningsOf 2 = .ok (.getfield 10, 3) := by decide +kernel
theorem dX6_inningsOf_5 : decode cX6_inningsOf 5 = .ok (.iload_n 1, 1) := by decide +kernel
theorem dX6_inningsOf_6 : decode cX6_inningsOf 6 = .ok (.invokevirtual 253, 3) := by decide +kernel
theorem dX6_inningsOf_9 : decode cX6_inningsOf 9 = .ok (.invokevirtual 69, 3) := by decide +kernel
theorem dX6_inningsOf_12 : decode cX6_inningsOf 12 = .ok (.aload_n 0, 1) := by decide +kernel
theorem dX6_inningsOf_13 : decode cX6_inningsOf 13 = .ok (.getfield 10, 3) := by decide +kernel
theorem dX6_inningsOf_16 : decode cX6_inningsOf 16 = .ok (.getfield 219, 3) := by decide +kernel
theorem dX6_inningsOf_19 : decode cX6_inningsOf 19 = .ok (.iload_n 1, 1) := by decide +kernel
theorem dX6_inningsOf_20 : decode cX6_inningsOf 20 = .ok (.aaload, 1) := by decide +kernel
theorem dX6_inningsOf_21 : decode cX6_inningsOf 21 = .ok (.astore_n 3, 1) := by decide +kernel
theorem dX6_inningsOf_22 : decode cX6_inningsOf 22 = .ok (.iload_n 2, 1) := by decide +kernel
theorem dX6_inningsOf_23 : decode cX6_inningsOf 23 = .ok (.tableswitch 84 0 6 #[41, 46, 51, 56, 61, 66, 71], 41) := by decide +kernel
theorem dX6_inningsOf_64 : decode cX6_inningsOf 64 = .ok (.aload_n 3, 1) := by decide +kernel
theorem dX6_inningsOf_65 : decode cX6_inningsOf 65 = .ok (.getfield 226, 3) := by decide +kernel
theorem dX6_inningsOf_68 : decode cX6_inningsOf 68 = .ok (.ireturn, 1) := by decide +kernel
theorem dX6_inningsOf_69 : decode cX6_inningsOf 69 = .ok (.aload_n 3, 1) := by decide +kernel
theorem dX6_inningsOf_70 : decode cX6_inningsOf 70 = .ok (.getfield 229, 3) := by decide +kernel
theorem dX6_inningsOf_73 : decode cX6_inningsOf 73 = .ok (.ireturn, 1) := by decide +kernel
theorem dX6_inningsOf_74 : decode cX6_inningsOf 74 = .ok (.aload_n 3, 1) := by decide +kernel
theorem dX6_inningsOf_75 : decode cX6_inningsOf 75 = .ok (.getfield 232, 3) := by decide +kernel
theorem dX6_inningsOf_78 : decode cX6_inningsOf 78 = .ok (.ireturn, 1) := by decide +kernel
theorem dX6_inningsOf_79 : decode cX6_inningsOf 79 = .ok (.aload_n 3, 1) := by decide +kernel
theorem dX6_inningsOf_80 : decode cX6_inningsOf 80 = .ok (.getfield 256, 3) := by decide +kernel
theorem dX6_inningsOf_83 : decode cX6_inningsOf 83 = .ok (.ireturn, 1) := by decide +kernel
theorem dX6_inningsOf_84 : decode cX6_inningsOf 84 = .ok (.aload_n 3, 1) := by decide +kernel
theorem dX6_inningsOf_85 : decode cX6_inningsOf 85 = .ok (.getfield 250, 3) := by decide +kernel
theorem dX6_inningsOf_88 : decode cX6_inningsOf 88 = .ok (.ireturn, 1) := by decide +kernel
theorem dX6_inningsOf_89 : decode cX6_inningsOf 89 = .ok (.aload_n 3, 1) := by decide +kernel
theorem dX6_inningsOf_90 : decode cX6_inningsOf 90 = .ok (.getfield 259, 3) := by decide +kernel
theorem dX6_inningsOf_93 : decode cX6_inningsOf 93 = .ok (.ireturn, 1) := by decide +kernel
theorem dX6_inningsOf_94 : decode cX6_inningsOf 94 = .ok (.aload_n 3, 1) := by decide +kernel
theorem dX6_inningsOf_95 : decode cX6_inningsOf 95 = .ok (.invokevirtual 262, 3) := by decide +kernel
theorem dX6_inningsOf_98 : decode cX6_inningsOf 98 = .ok (.ifCond .eq 7, 3) := by decide +kernel
theorem dX6_inningsOf_101 : decode cX6_inningsOf 101 = .ok (.iconst 1, 1) := by decide +kernel
theorem dX6_inningsOf_102 : decode cX6_inningsOf 102 = .ok (.goto 4, 3) := by decide +kernel
theorem dX6_inningsOf_105 : decode cX6_inningsOf 105 = .ok (.iconst 0, 1) := by decide +kernel
theorem dX6_inningsOf_106 : decode cX6_inningsOf 106 = .ok (.ireturn, 1) := by decide +kernel
theorem dX6_inningsOf_107 : decode cX6_inningsOf 107 = .ok (.new 113, 3) := by decide +kernel
theorem dX6_inningsOf_110 : decode cX6_inningsOf 110 = .ok (.dup, 1) := by decide +kernel
theorem dX6_inningsOf_111 : decode cX6_inningsOf 111 = .ok (.ldc 115, 2) := by decide +kernel
theorem dX6_inningsOf_113 : decode cX6_inningsOf 113 = .ok (.invokespecial 117, 3) := by decide +kernel
theorem dX6_inningsOf_116 : decode cX6_inningsOf 116 = .ok (.athrow, 1) := by decide +kernel
theorem dX6_balls_0 : decode cX6_balls 0 = .ok (.aload_n 0, 1) := by decide +kernel
theorem dX6_balls_1 : decode cX6_balls 1 = .ok (.aload_n 0, 1) := by decide +kernel
theorem dX6_balls_2 : decode cX6_balls 2 = .ok (.getfield 10, 3) := by decide +kernel
theorem dX6_balls_5 : decode cX6_balls 5 = .ok (.iload_n 1, 1) := by decide +kernel
theorem dX6_balls_6 : decode cX6_balls 6 = .ok (.invokevirtual 253, 3) := by decide +kernel
theorem dX6_balls_9 : decode cX6_balls 9 = .ok (.invokevirtual 69, 3) := by decide +kernel
theorem dX6_balls_12 : decode cX6_balls 12 = .ok (.aload_n 0, 1) := by decide +kernel
theorem dX6_balls_13 : decode cX6_balls 13 = .ok (.iload_n 2, 1) := by decide +kernel
theorem dX6_balls_14 : decode cX6_balls 14 = .ok (.iconst 0, 1) := by decide +kernel
theorem dX6_balls_15 : decode cX6_balls 15 = .ok (.bipush 6, 2) := by decide +kernel
theorem dX6_balls_17 : decode cX6_balls 17 = .ok (.invokestatic 120, 3) := by decide +kernel
theorem dX6_balls_20 : decode cX6_balls 20 = .ok (.invokevirtual 69, 3) := by decide +kernel
theorem dX6_balls_23 : decode cX6_balls 23 = .ok (.aload_n 0, 1) := by decide +kernel
theorem dX6_balls_24 : decode cX6_balls 24 = .ok (.getfield 10, 3) := by decide +kernel
theorem dX6_balls_27 : decode cX6_balls 27 = .ok (.getfield 219, 3) := by decide +kernel
theorem dX6_balls_30 : decode cX6_balls 30 = .ok (.iload_n 1, 1) := by decide +kernel
theorem dX6_balls_31 : decode cX6_balls 31 = .ok (.aaload, 1) := by decide +kernel
theorem dX6_balls_32 : decode cX6_balls 32 = .ok (.getfield 265, 3) := by decide +kernel
theorem dX6_balls_35 : decode cX6_balls 35 = .ok (.iload_n 2, 1) := by decide +kernel
theorem dX6_balls_36 : decode cX6_balls 36 = .ok (.iaload, 1) := by decide +kernel
theorem dX6_balls_37 : decode cX6_balls 37 = .ok (.ireturn, 1) := by decide +kernel
theorem dX6_runsAgain_0 : decode cX6_runsAgain 0 = .ok (.aload_n 0, 1) := by decide +kernel
theorem dX6_runsAgain_1 : decode cX6_runsAgain 1 = .ok (.aload_n 0, 1) := by decide +kernel
theorem dX6_runsAgain_2 : decode cX6_runsAgain 2 = .ok (.getfield 10, 3) := by decide +kernel
theorem dX6_runsAgain_5 : decode cX6_runsAgain 5 = .ok (.iload_n 1, 1) := by decide +kernel
theorem dX6_runsAgain_6 : decode cX6_runsAgain 6 = .ok (.invokevirtual 253, 3) := by decide +kernel
theorem dX6_runsAgain_9 : decode cX6_runsAgain 9 = .ok (.invokevirtual 69, 3) := by decide +kernel
theorem dX6_runsAgain_12 : decode cX6_runsAgain 12 = .ok (.aload_n 0, 1) := by decide +kernel
theorem dX6_runsAgain_13 : decode cX6_runsAgain 13 = .ok (.getfield 10, 3) := by decide +kernel
theorem dX6_runsAgain_16 : decode cX6_runsAgain 16 = .ok (.getfield 219, 3) := by decide +kernel
theorem dX6_runsAgain_19 : decode cX6_runsAgain 19 = .ok (.iload_n 1, 1) := by decide +kernel
theorem dX6_runsAgain_20 : decode cX6_runsAgain 20 = .ok (.aaload, 1) := by decide +kernel
theorem dX6_runsAgain_21 : decode cX6_runsAgain 21 = .ok (.invokevirtual 268, 3) := by decide +kernel
theorem dX6_runsAgain_24 : decode cX6_runsAgain 24 = .ok (.ireturn, 1) := by decide +kernel
theorem dX6_ranked_0 : decode cX6_ranked 0 = .ok (.aload_n 0, 1) := by decide +kernel
theorem dX6_ranked_1 : decode cX6_ranked 1 = .ok (.getfield 10, 3) := by decide +kernel
theorem dX6_ranked_4 : decode cX6_ranked 4 = .ok (.iload_n 1, 1) := by decide +kernel
theorem dX6_ranked_5 : decode cX6_ranked 5 = .ok (.invokevirtual 271, 3) := by decide +kernel
theorem dX6_ranked_8 : decode cX6_ranked 8 = .ok (.istore_n 2, 1) := by decide +kernel
theorem dX6_ranked_9 : decode cX6_ranked 9 = .ok (.iload_n 2, 1) := by decide +kernel
theorem dX6_ranked_10 : decode cX6_ranked 10 = .ok (.iconst (-1), 1) := by decide +kernel
theorem dX6_ranked_11 : decode cX6_ranked 11 = .ok (.if_icmp .ne 14, 3) := by decide +kernel
theorem dX6_ranked_14 : decode cX6_ranked 14 = .ok (.new 182, 3) := by decide +kernel
theorem dX6_ranked_17 : decode cX6_ranked 17 = .ok (.dup, 1) := by decide +kernel
theorem dX6_ranked_18 : decode cX6_ranked 18 = .ok (.ldc_w 274, 3) := by decide +kernel
theorem dX6_ranked_21 : decode cX6_ranked 21 = .ok (.invokespecial 186, 3) := by decide +kernel
theorem dX6_ranked_24 : decode cX6_ranked 24 = .ok (.athrow, 1) := by decide +kernel
theorem dX6_ranked_25 : decode cX6_ranked 25 = .ok (.iload_n 2, 1) := by decide +kernel
theorem dX6_ranked_26 : decode cX6_ranked 26 = .ok (.ireturn, 1) := by decide +kernel
theorem dX6_pass_0 : decode cX6_pass 0 = .ok (.aload_n 0, 1) := by decide +kernel
theorem dX6_pass_1 : decode cX6_pass 1 = .ok (.iload_n 1, 1) := by decide +kernel
theorem dX6_pass_2 : decode cX6_pass 2 = .ok (.iconst 1, 1) := by decide +kernel
theorem dX6_pass_3 : decode cX6_pass 3 = .ok (.bipush 72, 2) := by decide +kernel
theorem dX6_pass_5 : decode cX6_pass 5 = .ok (.invokestatic 120, 3) := by decide +kernel
theorem dX6_pass_8 : decode cX6_pass 8 = .ok (.invokevirtual 47, 3) := by decide +kernel
theorem dX6_pass_11 : decode cX6_pass 11 = .ok (.aload_n 0, 1) := by decide +kernel
theorem dX6_pass_12 : decode cX6_pass 12 = .ok (.getfield 10, 3) := by decide +kernel
theorem dX6_pass_15 : decode cX6_pass 15 = .ok (.iload_n 1, 1) := by decide +kernel
theorem dX6_pass_16 : decode cX6_pass 16 = .ok (.invokevirtual 276, 3) := by decide +kernel
theorem dX6_pass_19 : decode cX6_pass 19 = .ok (.ireturn, 1) := by decide +kernel
theorem dX6_append_0 : decode cX6_append 0 = .ok (.aload_n 0, 1) := by decide +kernel
theorem dX6_append_1 : decode cX6_append 1 = .ok (.getfield 32, 3) := by decide +kernel
theorem dX6_append_4 : decode cX6_append 4 = .ok (.getfield 279, 3) := by decide +kernel
theorem dX6_append_7 : decode cX6_append 7 = .ok (.bipush 60, 2) := by decide +kernel
theorem dX6_append_9 : decode cX6_append 9 = .ok (.if_icmp .lt 14, 3) := by decide +kernel
theorem dX6_append_12 : decode cX6_append 12 = .ok (.new 282, 3) := by decide +kernel
theorem dX6_append_15 : decode cX6_append 15 = .ok (.dup, 1) := by decide +kernel
theorem dX6_append_16 : decode cX6_append 16 = .ok (.ldc_w 284, 3) := by decide +kernel
theorem dX6_append_19 : decode cX6_append 19 = .ok (.invokespecial 286, 3) := by decide +kernel
theorem dX6_append_22 : decode cX6_append 22 = .ok (.athrow, 1) := by decide +kernel
theorem dX6_append_23 : decode cX6_append 23 = .ok (.aload_n 0, 1) := by decide +kernel
theorem dX6_append_24 : decode cX6_append 24 = .ok (.getfield 32, 3) := by decide +kernel
theorem dX6_append_27 : decode cX6_append 27 = .ok (.getfield 287, 3) := by decide +kernel
theorem dX6_append_30 : decode cX6_append 30 = .ok (.aload_n 0, 1) := by decide +kernel
theorem dX6_append_31 : decode cX6_append 31 = .ok (.getfield 32, 3) := by decide +kernel
theorem dX6_append_34 : decode cX6_append 34 = .ok (.getfield 279, 3) := by decide +kernel
theorem dX6_append_37 : decode cX6_append 37 = .ok (.iload_n 1, 1) := by decide +kernel
theorem dX6_append_38 : decode cX6_append 38 = .ok (.castore, 1) := by decide +kernel
theorem dX6_append_39 : decode cX6_append 39 = .ok (.aload_n 0, 1) := by decide +kernel
theorem dX6_append_40 : decode cX6_append 40 = .ok (.getfield 32, 3) := by decide +kernel
theorem dX6_append_43 : decode cX6_append 43 = .ok (.dup, 1) := by decide +kernel
theorem dX6_append_44 : decode cX6_append 44 = .ok (.getfield 279, 3) := by decide +kernel
theorem dX6_append_47 : decode cX6_append 47 = .ok (.iconst 1, 1) := by decide +kernel
theorem dX6_append_48 : decode cX6_append 48 = .ok (.iadd, 1) := by decide +kernel
theorem dX6_append_49 : decode cX6_append 49 = .ok (.putfield 279, 3) := by decide +kernel
theorem dX6_append_52 : decode cX6_append 52 = .ok (.aload_n 0, 1) := by decide +kernel
theorem dX6_append_53 : decode cX6_append 53 = .ok (.getfield 32, 3) := by decide +kernel
theorem dX6_append_56 : decode cX6_append 56 = .ok (.getfield 279, 3) := by decide +kernel
theorem dX6_append_59 : decode cX6_append 59 = .ok (.ireturn, 1) := by decide +kernel
theorem dX6_read_0 : decode cX6_read 0 = .ok (.aload_n 0, 1) := by decide +kernel
theorem dX6_read_1 : decode cX6_read 1 = .ok (.getfield 16, 3) := by decide +kernel
theorem dX6_read_4 : decode cX6_read 4 = .ok (.aload_n 0, 1) := by decide +kernel
theorem dX6_read_5 : decode cX6_read 5 = .ok (.getfield 10, 3) := by decide +kernel
theorem dX6_read_8 : decode cX6_read 8 = .ok (.invokevirtual 199, 3) := by decide +kernel
theorem dX6_read_11 : decode cX6_read 11 = .ok (.aload_n 0, 1) := by decide +kernel
theorem dX6_read_12 : decode cX6_read 12 = .ok (.getfield 32, 3) := by decide +kernel
theorem dX6_read_15 : decode cX6_read 15 = .ok (.aload_n 0, 1) := by decide +kernel
theorem dX6_read_16 : decode cX6_read 16 = .ok (.getfield 16, 3) := by decide +kernel
theorem dX6_read_19 : decode cX6_read 19 = .ok (.invokevirtual 291, 3) := by decide +kernel
theorem dX6_read_22 : decode cX6_read 22 = .ok (.istore_n 1, 1) := by decide +kernel
theorem dX6_read_23 : decode cX6_read 23 = .ok (.aload_n 0, 1) := by decide +kernel
theorem dX6_read_24 : decode cX6_read 24 = .ok (.getfield 32, 3) := by decide +kernel
theorem dX6_read_27 : decode cX6_read 27 = .ok (.iconst 0, 1) := by decide +kernel
theorem dX6_read_28 : decode cX6_read 28 = .ok (.putfield 279, 3) := by decide +kernel
theorem dX6_read_31 : decode cX6_read 31 = .ok (.aload_n 0, 1) := by decide +kernel
theorem dX6_read_32 : decode cX6_read 32 = .ok (.iload_n 1, 1) := by decide +kernel
theorem dX6_read_33 : decode cX6_read 33 = .ok (.iconst (-1), 1) := by decide +kernel
theorem dX6_read_34 : decode cX6_read 34 = .ok (.if_icmp .ne 8, 3) := by decide +kernel
theorem dX6_read_37 : decode cX6_read 37 = .ok (.bipush (-2), 2) := by decide +kernel
theorem dX6_read_39 : decode cX6_read 39 = .ok (.goto 4, 3) := by decide +kernel
theorem dX6_read_42 : decode cX6_read 42 = .ok (.iload_n 1, 1) := by decide +kernel
theorem dX6_read_43 : decode cX6_read 43 = .ok (.invokevirtual 47, 3) := by decide +kernel
theorem dX6_read_46 : decode cX6_read 46 = .ok (.aload_n 0, 1) := by decide +kernel
theorem dX6_read_47 : decode cX6_read 47 = .ok (.getfield 10, 3) := by decide +kernel
theorem dX6_read_50 : decode cX6_read 50 = .ok (.aload_n 0, 1) := by decide +kernel
theorem dX6_read_51 : decode cX6_read 51 = .ok (.getfield 16, 3) := by decide +kernel
theorem dX6_read_54 : decode cX6_read 54 = .ok (.invokevirtual 199, 3) := by decide +kernel
theorem dX6_read_57 : decode cX6_read 57 = .ok (.aload_n 0, 1) := by decide +kernel
theorem dX6_read_58 : decode cX6_read 58 = .ok (.getfield 32, 3) := by decide +kernel
theorem dX6_read_61 : decode cX6_read 61 = .ok (.getfield 295, 3) := by decide +kernel
theorem dX6_read_64 : decode cX6_read 64 = .ok (.ireturn, 1) := by decide +kernel
theorem dX6_errorPosition_0 : decode cX6_errorPosition 0 = .ok (.aload_n 0, 1) := by decide +kernel
theorem dX6_errorPosition_1 : decode cX6_errorPosition 1 = .ok (.getfield 32, 3) := by decide +kernel
theorem dX6_errorPosition_4 : decode cX6_errorPosition 4 = .ok (.getfield 298, 3) := by decide +kernel
theorem dX6_errorPosition_7 : decode cX6_errorPosition 7 = .ok (.ireturn, 1) := by decide +kernel
theorem dX6_refusal_0 : decode cX6_refusal 0 = .ok (.aload_n 0, 1) := by decide +kernel
theorem dX6_refusal_1 : decode cX6_refusal 1 = .ok (.getfield 36, 3) := by decide +kernel
theorem dX6_refusal_4 : decode cX6_refusal 4 = .ok (.iconst (-1), 1) := by decide +kernel
theorem dX6_refusal_5 : decode cX6_refusal 5 = .ok (.if_icmp .ne 14, 3) := by decide +kernel
theorem dX6_refusal_8 : decode cX6_refusal 8 = .ok (.new 182, 3) := by decide +kernel
theorem dX6_refusal_11 : decode cX6_refusal 11 = .ok (.dup, 1) := by decide +kernel
theorem dX6_refusal_12 : decode cX6_refusal 12 = .ok (.ldc_w 301, 3) := by decide +kernel
theorem dX6_refusal_15 : decode cX6_refusal 15 = .ok (.invokespecial 186, 3) := by decide +kernel
theorem dX6_refusal_18 : decode cX6_refusal 18 = .ok (.athrow, 1) := by decide +kernel
theorem dX6_refusal_19 : decode cX6_refusal 19 = .ok (.iload_n 1, 1) := by decide +kernel
theorem dX6_refusal_20 : decode cX6_refusal 20 = .ok (.ifCond .eq 10, 3) := by decide +kernel
theorem dX6_refusal_23 : decode cX6_refusal 23 = .ok (.aload_n 0, 1) := by decide +kernel
theorem dX6_refusal_24 : decode cX6_refusal 24 = .ok (.getfield 40, 3) := by decide +kernel
theorem dX6_refusal_27 : decode cX6_refusal 27 = .ok (.goto 7, 3) := by decide +kernel
theorem dX6_refusal_30 : decode cX6_refusal 30 = .ok (.aload_n 0, 1) := by decide +kernel
theorem dX6_refusal_31 : decode cX6_refusal 31 = .ok (.getfield 36, 3) := by decide +kernel
theorem dX6_refusal_34 : decode cX6_refusal 34 = .ok (.ireturn, 1) := by decide +kernel
theorem dX6_account_0 : decode cX6_account 0 = .ok (.iload_n 1, 1) := by decide +kernel
theorem dX6_account_1 : decode cX6_account 1 = .ok (.tableswitch 219 0 16 #[83, 91, 99, 107, 115, 123, 131, 139, 147, 155, 163, 171, 179, 187, 195, 203, 211], 83) := by decide +kernel
theorem dX6_account_84 : decode cX6_account 84 = .ok (.aload_n 0, 1) := by decide +kernel
theorem dX6_account_85 : decode cX6_account 85 = .ok (.getfield 10, 3) := by decide +kernel
theorem dX6_account_88 : decode cX6_account 88 = .ok (.getfield 303, 3) := by decide +kernel
theorem dX6_account_91 : decode cX6_account 91 = .ok (.ireturn, 1) := by decide +kernel
theorem dX6_account_92 : decode cX6_account 92 = .ok (.aload_n 0, 1) := by decide +kernel
theorem dX6_account_93 : decode cX6_account 93 = .ok (.getfield 10, 3) := by decide +kernel
theorem dX6_account_96 : decode cX6_account 96 = .ok (.getfield 66, 3) := by decide +kernel
theorem dX6_account_99 : decode cX6_account 99 = .ok (.ireturn, 1) := by decide +kernel
theorem dX6_account_100 : decode cX6_account 100 = .ok (.aload_n 0, 1) := by decide +kernel
theorem dX6_account_101 : decode cX6_account 101 = .ok (.getfield 10, 3) := by decide +kernel
theorem dX6_account_104 : decode cX6_account 104 = .ok (.getfield 72, 3) := by decide +kernel
theorem dX6_account_107 : decode cX6_account 107 = .ok (.ireturn, 1) := by decide +kernel
theorem dX6_account_108 : decode cX6_account 108 = .ok (.aload_n 0, 1) := by decide +kernel
theorem dX6_account_109 : decode cX6_account 109 = .ok (.getfield 10, 3) := by decide +kernel
theorem dX6_account_112 : decode cX6_account 112 = .ok (.invokevirtual 306, 3) := by decide +kernel
theorem dX6_account_115 : decode cX6_account 115 = .ok (.ireturn, 1) := by decide +kernel
theorem dX6_account_116 : decode cX6_account 116 = .ok (.aload_n 0, 1) := by decide +kernel
theorem dX6_account_117 : decode cX6_account 117 = .ok (.getfield 10, 3) := by decide +kernel
theorem dX6_account_120 : decode cX6_account 120 = .ok (.getfield 124, 3) := by decide +kernel
theorem dX6_account_123 : decode cX6_account 123 = .ok (.ireturn, 1) := by decide +kernel
theorem dX6_account_124 : decode cX6_account 124 = .ok (.aload_n 0, 1) := by decide +kernel
theorem dX6_account_125 : decode cX6_account 125 = .ok (.getfield 10, 3) := by decide +kernel
theorem dX6_account_128 : decode cX6_account 128 = .ok (.invokevirtual 309, 3) := by decide +kernel
theorem dX6_account_131 : decode cX6_account 131 = .ok (.ireturn, 1) := by decide +kernel
theorem dX6_account_132 : decode cX6_account 132 = .ok (.aload_n 0, 1) := by decide +kernel
theorem dX6_account_133 : decode cX6_account 133 = .ok (.getfield 10, 3) := by decide +kernel
theorem dX6_account_136 : decode cX6_account 136 = .ok (.invokevirtual 142, 3) := by decide +kernel
theorem dX6_account_139 : decode cX6_account 139 = .ok (.ireturn, 1) := by decide +kernel
theorem dX6_account_140 : decode cX6_account 140 = .ok (.aload_n 0, 1) := by decide +kernel
theorem dX6_account_141 : decode cX6_account 141 = .ok (.getfield 10, 3) := by decide +kernel
theorem dX6_account_144 : decode cX6_account 144 = .ok (.getfield 187, 3) := by decide +kernel
theorem dX6_account_147 : decode cX6_account 147 = .ok (.ireturn, 1) := by decide +kernel
theorem dX6_account_148 : decode cX6_account 148 = .ok (.aload_n 0, 1) := by decide +kernel
theorem dX6_account_149 : decode cX6_account 149 = .ok (.getfield 10, 3) := by decide +kernel
theorem dX6_account_152 : decode cX6_account 152 = .ok (.getfield 223, 3) := by decide +kernel
theorem dX6_account_155 : decode cX6_account 155 = .ok (.ireturn, 1) := by decide +kernel
theorem dX6_account_156 : decode cX6_account 156 = .ok (.aload_n 0, 1) := by decide +kernel
theorem dX6_account_157 : decode cX6_account 157 = .ok (.getfield 10, 3) := by decide +kernel
theorem dX6_account_160 : decode cX6_account 160 = .ok (.invokevirtual 312, 3) := by decide +kernel
theorem dX6_account_163 : decode cX6_account 163 = .ok (.ireturn, 1) := by decide +kernel
theorem dX6_account_164 : decode cX6_account 164 = .ok (.aload_n 0, 1) := by decide +kernel
theorem dX6_account_165 : decode cX6_account 165 = .ok (.getfield 10, 3) := by decide +kernel
theorem dX6_account_168 : decode cX6_account 168 = .ok (.invokevirtual 315, 3) := by decide +kernel
theorem dX6_account_171 : decode cX6_account 171 = .ok (.ireturn, 1) := by decide +kernel
theorem dX6_account_172 : decode cX6_account 172 = .ok (.aload_n 0, 1) := by decide +kernel
theorem dX6_account_173 : decode cX6_account 173 = .ok (.getfield 10, 3) := by decide +kernel
theorem dX6_account_176 : decode cX6_account 176 = .ok (.invokevirtual 318, 3) := by decide +kernel
theorem dX6_account_179 : decode cX6_account 179 = .ok (.ireturn, 1) := by decide +kernel
theorem dX6_account_180 : decode cX6_account 180 = .ok (.aload_n 0, 1) := by decide +kernel
theorem dX6_account_181 : decode cX6_account 181 = .ok (.getfield 10, 3) := by decide +kernel
theorem dX6_account_184 : decode cX6_account 184 = .ok (.invokevirtual 321, 3) := by decide +kernel
theorem dX6_account_187 : decode cX6_account 187 = .ok (.ireturn, 1) := by decide +kernel
theorem dX6_account_188 : decode cX6_account 188 = .ok (.aload_n 0, 1) := by decide +kernel
theorem dX6_account_189 : decode cX6_account 189 = .ok (.getfield 10, 3) := by decide +kernel
theorem dX6_account_192 : decode cX6_account 192 = .ok (.invokevirtual 324, 3) := by decide +kernel
theorem dX6_account_195 : decode cX6_account 195 = .ok (.ireturn, 1) := by decide +kernel
theorem dX6_account_196 : decode cX6_account 196 = .ok (.aload_n 0, 1) := by decide +kernel
theorem dX6_account_197 : decode cX6_account 197 = .ok (.getfield 10, 3) := by decide +kernel
theorem dX6_account_200 : decode cX6_account 200 = .ok (.invokevirtual 327, 3) := by decide +kernel
theorem dX6_account_203 : decode cX6_account 203 = .ok (.ireturn, 1) := by decide +kernel
theorem dX6_account_204 : decode cX6_account 204 = .ok (.aload_n 0, 1) := by decide +kernel
theorem dX6_account_205 : decode cX6_account 205 = .ok (.getfield 32, 3) := by decide +kernel
theorem dX6_account_208 : decode cX6_account 208 = .ok (.getfield 279, 3) := by decide +kernel
theorem dX6_account_211 : decode cX6_account 211 = .ok (.ireturn, 1) := by decide +kernel
theorem dX6_account_212 : decode cX6_account 212 = .ok (.aload_n 0, 1) := by decide +kernel
theorem dX6_account_213 : decode cX6_account 213 = .ok (.getfield 25, 3) := by decide +kernel
theorem dX6_account_216 : decode cX6_account 216 = .ok (.getfield 330, 3) := by decide +kernel
theorem dX6_account_219 : decode cX6_account 219 = .ok (.ireturn, 1) := by decide +kernel
theorem dX6_account_220 : decode cX6_account 220 = .ok (.new 113, 3) := by decide +kernel
theorem dX6_account_223 : decode cX6_account 223 = .ok (.dup, 1) := by decide +kernel
theorem dX6_account_224 : decode cX6_account 224 = .ok (.ldc_w 331, 3) := by decide +kernel
theorem dX6_account_227 : decode cX6_account 227 = .ok (.invokespecial 117, 3) := by decide +kernel
theorem dX6_account_230 : decode cX6_account 230 = .ok (.athrow, 1) := by decide +kernel
theorem dX6_isWell_0 : decode cX6_isWell 0 = .ok (.aload_n 0, 1) := by decide +kernel
theorem dX6_isWell_1 : decode cX6_isWell 1 = .ok (.getfield 10, 3) := by decide +kernel
theorem dX6_isWell_4 : decode cX6_isWell 4 = .ok (.invokevirtual 333, 3) := by decide +kernel
theorem dX6_isWell_7 : decode cX6_isWell 7 = .ok (.ifCond .eq 17, 3) := by decide +kernel
theorem dX6_isWell_10 : decode cX6_isWell 10 = .ok (.aload_n 0, 1) := by decide +kernel
theorem dX6_isWell_11 : decode cX6_isWell 11 = .ok (.getfield 10, 3) := by decide +kernel
theorem dX6_isWell_14 : decode cX6_isWell 14 = .ok (.invokevirtual 336, 3) := by decide +kernel
theorem dX6_isWell_17 : decode cX6_isWell 17 = .ok (.ifCond .eq 7, 3) := by decide +kernel
theorem dX6_isWell_20 : decode cX6_isWell 20 = .ok (.iconst 1, 1) := by decide +kernel
theorem dX6_isWell_21 : decode cX6_isWell 21 = .ok (.goto 4, 3) := by decide +kernel
theorem dX6_isWell_24 : decode cX6_isWell 24 = .ok (.iconst 0, 1) := by decide +kernel
theorem dX6_isWell_25 : decode cX6_isWell 25 = .ok (.ireturn, 1) := by decide +kernel
theorem dX6_meanRuns_0 : decode cX6_meanRuns 0 = .ok (.aload_n 0, 1) := by decide +kernel
theorem dX6_meanRuns_1 : decode cX6_meanRuns 1 = .ok (.getfield 10, 3) := by decide +kernel
theorem dX6_meanRuns_4 : decode cX6_meanRuns 4 = .ok (.getfield 223, 3) := by decide +kernel
theorem dX6_meanRuns_7 : decode cX6_meanRuns 7 = .ok (.ifCond .ne 14, 3) := by decide +kernel
theorem dX6_meanRuns_10 : decode cX6_meanRuns 10 = .ok (.new 339, 3) := by decide +kernel
theorem dX6_meanRuns_13 : decode cX6_meanRuns 13 = .ok (.dup, 1) := by decide +kernel
theorem dX6_meanRuns_14 : decode cX6_meanRuns 14 = .ok (.ldc_w 341, 3) := by decide +kernel
theorem dX6_meanRuns_17 : decode cX6_meanRuns 17 = .ok (.invokespecial 343, 3) := by decide +kernel
theorem dX6_meanRuns_20 : decode cX6_meanRuns 20 = .ok (.athrow, 1) := by decide +kernel
theorem dX6_meanRuns_21 : decode cX6_meanRuns 21 = .ok (.aload_n 0, 1) := by decide +kernel
theorem dX6_meanRuns_22 : decode cX6_meanRuns 22 = .ok (.getfield 10, 3) := by decide +kernel
theorem dX6_meanRuns_25 : decode cX6_meanRuns 25 = .ok (.invokevirtual 318, 3) := by decide +kernel
theorem dX6_meanRuns_28 : decode cX6_meanRuns 28 = .ok (.i2d, 1) := by decide +kernel
theorem dX6_meanRuns_29 : decode cX6_meanRuns 29 = .ok (.aload_n 0, 1) := by decide +kernel
theorem dX6_meanRuns_30 : decode cX6_meanRuns 30 = .ok (.getfield 10, 3) := by decide +kernel
theorem dX6_meanRuns_33 : decode cX6_meanRuns 33 = .ok (.getfield 223, 3) := by decide +kernel
theorem dX6_meanRuns_36 : decode cX6_meanRuns 36 = .ok (.i2d, 1) := by decide +kernel
theorem dX6_meanRuns_37 : decode cX6_meanRuns 37 = .ok (.ddiv, 1) := by decide +kernel
theorem dX6_meanRuns_38 : decode cX6_meanRuns 38 = .ok (.dreturn, 1) := by decide +kernel
theorem dX6_wickets_0 : decode cX6_wickets 0 = .ok (.aload_n 0, 1) := by decide +kernel
theorem dX6_wickets_1 : decode cX6_wickets 1 = .ok (.getfield 10, 3) := by decide +kernel
theorem dX6_wickets_4 : decode cX6_wickets 4 = .ok (.invokevirtual 315, 3) := by decide +kernel
theorem dX6_wickets_7 : decode cX6_wickets 7 = .ok (.istore_n 1, 1) := by decide +kernel
theorem dX6_wickets_8 : decode cX6_wickets 8 = .ok (.iload_n 1, 1) := by decide +kernel
theorem dX6_wickets_9 : decode cX6_wickets 9 = .ok (.ifCond .ne 14, 3) := by decide +kernel
theorem dX6_wickets_12 : decode cX6_wickets 12 = .ok (.new 339, 3) := by decide +kernel
theorem dX6_wickets_15 : decode cX6_wickets 15 = .ok (.dup, 1) := by decide +kernel
theorem dX6_wickets_16 : decode cX6_wickets 16 = .ok (.ldc_w 344, 3) := by decide +kernel
theorem dX6_wickets_19 : decode cX6_wickets 19 = .ok (.invokespecial 343, 3) := by decide +kernel
theorem dX6_wickets_22 : decode cX6_wickets 22 = .ok (.athrow, 1) := by decide +kernel
theorem dX6_wickets_23 : decode cX6_wickets 23 = .ok (.aload_n 0, 1) := by decide +kernel
theorem dX6_wickets_24 : decode cX6_wickets 24 = .ok (.getfield 10, 3) := by decide +kernel
theorem dX6_wickets_27 : decode cX6_wickets 27 = .ok (.invokevirtual 321, 3) := by decide +kernel
theorem dX6_wickets_30 : decode cX6_wickets 30 = .ok (.i2f, 1) := by decide +kernel
theorem dX6_wickets_31 : decode cX6_wickets 31 = .ok (.iload_n 1, 1) := by decide +kernel
theorem dX6_wickets_32 : decode cX6_wickets 32 = .ok (.i2f, 1) := by decide +kernel
theorem dX6_wickets_33 : decode cX6_wickets 33 = .ok (.fdiv, 1) := by decide +kernel
theorem dX6_wickets_34 : decode cX6_wickets 34 = .ok (.freturn, 1) := by decide +kernel
theorem dX6_undo_0 : decode cX6_undo 0 = .ok (.aload_n 0, 1) := by decide +kernel
theorem dX6_undo_1 : decode cX6_undo 1 = .ok (.getfield 25, 3) := by decide +kernel
theorem dX6_undo_4 : decode cX6_undo 4 = .ok (.getfield 330, 3) := by decide +kernel
theorem dX6_undo_7 : decode cX6_undo 7 = .ok (.ifCond .ne 14, 3) := by decide +kernel
theorem dX6_undo_10 : decode cX6_undo 10 = .ok (.new 282, 3) := by decide +kernel
theorem dX6_undo_13 : decode cX6_undo 13 = .ok (.dup, 1) := by decide +kernel
theorem dX6_undo_14 : decode cX6_undo 14 = .ok (.ldc_w 346, 3) := by decide +kernel
theorem dX6_undo_17 : decode cX6_undo 17 = .ok (.invokespecial 286, 3) := by decide +kernel
theorem dX6_undo_20 : decode cX6_undo 20 = .ok (.athrow, 1) := by decide +kernel
theorem dX6_undo_21 : decode cX6_undo 21 = .ok (.aload_n 0, 1) := by decide +kernel
theorem dX6_undo_22 : decode cX6_undo 22 = .ok (.getfield 25, 3) := by decide +kernel
theorem dX6_undo_25 : decode cX6_undo 25 = .ok (.aload_n 0, 1) := by decide +kernel
theorem dX6_undo_26 : decode cX6_undo 26 = .ok (.getfield 10, 3) := by decide +kernel
theorem dX6_undo_29 : decode cX6_undo 29 = .ok (.invokevirtual 348, 3) := by decide +kernel
theorem dX6_undo_32 : decode cX6_undo 32 = .ok (.aload_n 0, 1) := by decide +kernel
theorem dX6_undo_33 : decode cX6_undo 33 = .ok (.getfield 25, 3) := by decide +kernel
theorem dX6_undo_36 : decode cX6_undo 36 = .ok (.getfield 330, 3) := by decide +kernel
theorem dX6_undo_39 : decode cX6_undo 39 = .ok (.ireturn, 1) := by decide +kernel
theorem dX6_save_0 : decode cX6_save 0 = .ok (.aload_n 0, 1) := by decide +kernel
theorem dX6_save_1 : decode cX6_save 1 = .ok (.getfield 19, 3) := by decide +kernel
theorem dX6_save_4 : decode cX6_save 4 = .ok (.aload_n 0, 1) := by decide +kernel
theorem dX6_save_5 : decode cX6_save 5 = .ok (.getfield 10, 3) := by decide +kernel
theorem dX6_save_8 : decode cX6_save 8 = .ok (.invokevirtual 199, 3) := by decide +kernel
theorem dX6_save_11 : decode cX6_save 11 = .ok (.aload_n 0, 1) := by decide +kernel
theorem dX6_save_12 : decode cX6_save 12 = .ok (.iconst 1, 1) := by decide +kernel
theorem dX6_save_13 : decode cX6_save 13 = .ok (.putfield 351, 3) := by decide +kernel
theorem dX6_save_16 : decode cX6_save 16 = .ok (.aload_n 0, 1) := by decide +kernel
theorem dX6_save_17 : decode cX6_save 17 = .ok (.getfield 10, 3) := by decide +kernel
theorem dX6_save_20 : decode cX6_save 20 = .ok (.getfield 303, 3) := by decide +kernel
theorem dX6_save_23 : decode cX6_save 23 = .ok (.ireturn, 1) := by decide +kernel
theorem dX6_restore_0 : decode cX6_restore 0 = .ok (.aload_n 0, 1) := by decide +kernel
theorem dX6_restore_1 : decode cX6_restore 1 = .ok (.getfield 351, 3) := by decide +kernel
theorem dX6_restore_4 : decode cX6_restore 4 = .ok (.ifCond .ne 14, 3) := by decide +kernel
theorem dX6_restore_7 : decode cX6_restore 7 = .ok (.new 282, 3) := by decide +kernel
theorem dX6_restore_10 : decode cX6_restore 10 = .ok (.dup, 1) := by decide +kernel
theorem dX6_restore_11 : decode cX6_restore 11 = .ok (.ldc_w 354, 3) := by decide +kernel
theorem dX6_restore_14 : decode cX6_restore 14 = .ok (.invokespecial 286, 3) := by decide +kernel
theorem dX6_restore_17 : decode cX6_restore 17 = .ok (.athrow, 1) := by decide +kernel
theorem dX6_restore_18 : decode cX6_restore 18 = .ok (.aload_n 0, 1) := by decide +kernel
theorem dX6_restore_19 : decode cX6_restore 19 = .ok (.getfield 10, 3) := by decide +kernel
theorem dX6_restore_22 : decode cX6_restore 22 = .ok (.aload_n 0, 1) := by decide +kernel
theorem dX6_restore_23 : decode cX6_restore 23 = .ok (.getfield 19, 3) := by decide +kernel
theorem dX6_restore_26 : decode cX6_restore 26 = .ok (.invokevirtual 199, 3) := by decide +kernel
theorem dX6_restore_29 : decode cX6_restore 29 = .ok (.aload_n 0, 1) := by decide +kernel
theorem dX6_restore_30 : decode cX6_restore 30 = .ok (.getfield 25, 3) := by decide +kernel
theorem dX6_restore_33 : decode cX6_restore 33 = .ok (.iconst 0, 1) := by decide +kernel
theorem dX6_restore_34 : decode cX6_restore 34 = .ok (.putfield 330, 3) := by decide +kernel
theorem dX6_restore_37 : decode cX6_restore 37 = .ok (.aload_n 0, 1) := by decide +kernel
theorem dX6_restore_38 : decode cX6_restore 38 = .ok (.getfield 10, 3) := by decide +kernel
theorem dX6_restore_41 : decode cX6_restore 41 = .ok (.getfield 303, 3) := by decide +kernel
theorem dX6_restore_44 : decode cX6_restore 44 = .ok (.ireturn, 1) := by decide +kernel
theorem dX6_settle_0 : decode cX6_settle 0 = .ok (.iload_n 1, 1) := by decide +kernel
theorem dX6_settle_1 : decode cX6_settle 1 = .ok (.iconst (-1), 1) := by decide +kernel
theorem dX6_settle_2 : decode cX6_settle 2 = .ok (.if_icmp .ne 14, 3) := by decide +kernel
theorem dX6_settle_5 : decode cX6_settle 5 = .ok (.new 356, 3) := by decide +kernel
theorem dX6_settle_8 : decode cX6_settle 8 = .ok (.dup, 1) := by decide +kernel
theorem dX6_settle_9 : decode cX6_settle 9 = .ok (.ldc_w 358, 3) := by decide +kernel
theorem dX6_settle_12 : decode cX6_settle 12 = .ok (.invokespecial 360, 3) := by decide +kernel
theorem dX6_settle_15 : decode cX6_settle 15 = .ok (.athrow, 1) := by decide +kernel
theorem dX6_settle_16 : decode cX6_settle 16 = .ok (.iload_n 1, 1) := by decide +kernel
theorem dX6_settle_17 : decode cX6_settle 17 = .ok (.bipush (-2), 2) := by decide +kernel
theorem dX6_settle_19 : decode cX6_settle 19 = .ok (.if_icmp .ne 14, 3) := by decide +kernel
theorem dX6_settle_22 : decode cX6_settle 22 = .ok (.new 113, 3) := by decide +kernel
theorem dX6_settle_25 : decode cX6_settle 25 = .ok (.dup, 1) := by decide +kernel
theorem dX6_settle_26 : decode cX6_settle 26 = .ok (.ldc_w 361, 3) := by decide +kernel
theorem dX6_settle_29 : decode cX6_settle 29 = .ok (.invokespecial 117, 3) := by decide +kernel
theorem dX6_settle_32 : decode cX6_settle 32 = .ok (.athrow, 1) := by decide +kernel
theorem dX6_settle_33 : decode cX6_settle 33 = .ok (.iload_n 1, 1) := by decide +kernel
theorem dX6_settle_34 : decode cX6_settle 34 = .ok (.ifCond .eq 32, 3) := by decide +kernel
theorem dX6_settle_37 : decode cX6_settle 37 = .ok (.aload_n 0, 1) := by decide +kernel
theorem dX6_settle_38 : decode cX6_settle 38 = .ok (.iload_n 1, 1) := by decide +kernel
theorem dX6_settle_39 : decode cX6_settle 39 = .ok (.sipush 1000, 3) := by decide +kernel
theorem dX6_settle_42 : decode cX6_settle 42 = .ok (.idiv, 1) := by decide +kernel
theorem dX6_settle_43 : decode cX6_settle 43 = .ok (.putfield 36, 3) := by decide +kernel
theorem dX6_settle_46 : decode cX6_settle 46 = .ok (.aload_n 0, 1) := by decide +kernel
theorem dX6_settle_47 : decode cX6_settle 47 = .ok (.iload_n 1, 1) := by decide +kernel
theorem dX6_settle_48 : decode cX6_settle 48 = .ok (.sipush 1000, 3) := by decide +kernel
theorem dX6_settle_51 : decode cX6_settle 51 = .ok (.irem, 1) := by decide +kernel
theorem dX6_settle_52 : decode cX6_settle 52 = .ok (.putfield 40, 3) := by decide +kernel
theorem dX6_settle_55 : decode cX6_settle 55 = .ok (.new 363, 3) := by decide +kernel
theorem dX6_settle_58 : decode cX6_settle 58 = .ok (.dup, 1) := by decide +kernel
theorem dX6_settle_59 : decode cX6_settle 59 = .ok (.ldc_w 365, 3) := by decide +kernel
theorem dX6_settle_62 : decode cX6_settle 62 = .ok (.invokespecial 367, 3) := by decide +kernel
theorem dX6_settle_65 : decode cX6_settle 65 = .ok (.athrow, 1) := by decide +kernel
theorem dX6_settle_66 : decode cX6_settle 66 = .ok (.return_, 1) := by decide +kernel
theorem dX6_admit_0 : decode cX6_admit 0 = .ok (.aload_n 0, 1) := by decide +kernel
theorem dX6_admit_1 : decode cX6_admit 1 = .ok (.iload_n 1, 1) := by decide +kernel
theorem dX6_admit_2 : decode cX6_admit 2 = .ok (.invokevirtual 69, 3) := by decide +kernel
theorem dX6_admit_5 : decode cX6_admit 5 = .ok (.aload_n 0, 1) := by decide +kernel
theorem dX6_admit_6 : decode cX6_admit 6 = .ok (.getfield 25, 3) := by decide +kernel
theorem dX6_admit_9 : decode cX6_admit 9 = .ok (.aload_n 0, 1) := by decide +kernel
theorem dX6_admit_10 : decode cX6_admit 10 = .ok (.getfield 10, 3) := by decide +kernel
theorem dX6_admit_13 : decode cX6_admit 13 = .ok (.invokevirtual 368, 3) := by decide +kernel
theorem dX6_admit_16 : decode cX6_admit 16 = .ok (.return_, 1) := by decide +kernel
theorem dX6_exchange_0 : decode cX6_exchange 0 = .ok (.aload_n 0, 1) := by decide +kernel
theorem dX6_exchange_1 : decode cX6_exchange 1 = .ok (.iload_n 1, 1) := by decide +kernel
theorem dX6_exchange_2 : decode cX6_exchange 2 = .ok (.iaload, 1) := by decide +kernel
theorem dX6_exchange_3 : decode cX6_exchange 3 = .ok (.istore_n 3, 1) := by decide +kernel
theorem dX6_exchange_4 : decode cX6_exchange 4 = .ok (.aload_n 0, 1) := by decide +kernel
theorem dX6_exchange_5 : decode cX6_exchange 5 = .ok (.iload_n 1, 1) := by decide +kernel
theorem dX6_exchange_6 : decode cX6_exchange 6 = .ok (.iload_n 2, 1) := by decide +kernel
theorem dX6_exchange_7 : decode cX6_exchange 7 = .ok (.iastore, 1) := by decide +kernel
theorem dX6_exchange_8 : decode cX6_exchange 8 = .ok (.iload_n 3, 1) := by decide +kernel
theorem dX6_exchange_9 : decode cX6_exchange 9 = .ok (.ireturn, 1) := by decide +kernel
theorem dX6_refused_0 : decode cX6_refused 0 = .ok (.iload_n 0, 1) := by decide +kernel
theorem dX6_refused_1 : decode cX6_refused 1 = .ok (.sipush 1000, 3) := by decide +kernel
theorem dX6_refused_4 : decode cX6_refused 4 = .ok (.imul, 1) := by decide +kernel
theorem dX6_refused_5 : decode cX6_refused 5 = .ok (.iload_n 1, 1) := by decide +kernel
theorem dX6_refused_6 : decode cX6_refused 6 = .ok (.iadd, 1) := by decide +kernel
theorem dX6_refused_7 : decode cX6_refused 7 = .ok (.ireturn, 1) := by decide +kernel
theorem dX6_rangeVerdict_0 : decode cX6_rangeVerdict 0 = .ok (.iload_n 0, 1) := by decide +kernel
theorem dX6_rangeVerdict_1 : decode cX6_rangeVerdict 1 = .ok (.iload_n 1, 1) := by decide +kernel
theorem dX6_rangeVerdict_2 : decode cX6_rangeVerdict 2 = .ok (.if_icmp .lt 12, 3) := by decide +kernel
theorem dX6_rangeVerdict_5 : decode cX6_rangeVerdict 5 = .ok (.iload_n 0, 1) := by decide +kernel
theorem dX6_rangeVerdict_6 : decode cX6_rangeVerdict 6 = .ok (.iload_n 2, 1) := by decide +kernel
theorem dX6_rangeVerdict_7 : decode cX6_rangeVerdict 7 = .ok (.if_icmp .gt 7, 3) := by decide +kernel
theorem dX6_rangeVerdict_10 : decode cX6_rangeVerdict 10 = .ok (.iconst 0, 1) := by decide +kernel
theorem dX6_rangeVerdict_11 : decode cX6_rangeVerdict 11 = .ok (.goto 5, 3) := by decide +kernel
theorem dX6_rangeVerdict_14 : decode cX6_rangeVerdict 14 = .ok (.bipush (-2), 2) := by decide +kernel
theorem dX6_rangeVerdict_16 : decode cX6_rangeVerdict 16 = .ok (.ireturn, 1) := by decide +kernel
theorem dX6_numberVerdict_0 : decode cX6_numberVerdict 0 = .ok (.iload_n 0, 1) := by decide +kernel
theorem dX6_numberVerdict_1 : decode cX6_numberVerdict 1 = .ok (.ifCond .lt 12, 3) := by decide +kernel
theorem dX6_numberVerdict_4 : decode cX6_numberVerdict 4 = .ok (.iload_n 0, 1) := by decide +kernel
theorem dX6_numberVerdict_5 : decode cX6_numberVerdict 5 = .ok (.iload_n 1, 1) := by decide +kernel
theorem dX6_numberVerdict_6 : decode cX6_numberVerdict 6 = .ok (.if_icmp .ge 7, 3) := by decide +kernel
theorem dX6_numberVerdict_9 : decode cX6_numberVerdict 9 = .ok (.iconst 0, 1) := by decide +kernel
theorem dX6_numberVerdict_10 : decode cX6_numberVerdict 10 = .ok (.goto 4, 3) := by decide +kernel
theorem dX6_numberVerdict_13 : decode cX6_numberVerdict 13 = .ok (.iconst (-1), 1) := by decide +kernel
theorem dX6_numberVerdict_14 : decode cX6_numberVerdict 14 = .ok (.ireturn, 1) := by decide +kernel
theorem dX6_hourVerdict_0 : decode cX6_hourVerdict 0 = .ok (.iload_n 0, 1) := by decide +kernel
theorem dX6_hourVerdict_1 : decode cX6_hourVerdict 1 = .ok (.bipush 24, 2) := by decide +kernel
theorem dX6_hourVerdict_3 : decode cX6_hourVerdict 3 = .ok (.invokestatic 371, 3) := by decide +kernel
theorem dX6_hourVerdict_6 : decode cX6_hourVerdict 6 = .ok (.ireturn, 1) := by decide +kernel
theorem dX6_weatherVerdict_0 : decode cX6_weatherVerdict 0 = .ok (.iload_n 0, 1) := by decide +kernel
theorem dX6_weatherVerdict_1 : decode cX6_weatherVerdict 1 = .ok (.invokestatic 62, 3) := by decide +kernel
theorem dX6_weatherVerdict_4 : decode cX6_weatherVerdict 4 = .ok (.istore_n 2, 1) := by decide +kernel
theorem dX6_weatherVerdict_5 : decode cX6_weatherVerdict 5 = .ok (.iload_n 2, 1) := by decide +kernel
theorem dX6_weatherVerdict_6 : decode cX6_weatherVerdict 6 = .ok (.ifCond .ne 13, 3) := by decide +kernel
theorem dX6_weatherVerdict_9 : decode cX6_weatherVerdict 9 = .ok (.iload_n 1, 1) := by decide +kernel
theorem dX6_weatherVerdict_10 : decode cX6_weatherVerdict 10 = .ok (.iconst 0, 1) := by decide +kernel
theorem dX6_weatherVerdict_11 : decode cX6_weatherVerdict 11 = .ok (.bipush 9, 2) := by decide +kernel
theorem dX6_weatherVerdict_13 : decode cX6_weatherVerdict 13 = .ok (.invokestatic 120, 3) := by decide +kernel
theorem dX6_weatherVerdict_16 : decode cX6_weatherVerdict 16 = .ok (.goto 4, 3) := by decide +kernel
theorem dX6_weatherVerdict_19 : decode cX6_weatherVerdict 19 = .ok (.iload_n 2, 1) := by decide +kernel
theorem dX6_weatherVerdict_20 : decode cX6_weatherVerdict 20 = .ok (.ireturn, 1) := by decide +kernel
theorem dX6_roomVerdict_0 : decode cX6_roomVerdict 0 = .ok (.iload_n 0, 1) := by decide +kernel
theorem dX6_roomVerdict_1 : decode cX6_roomVerdict 1 = .ok (.iload_n 1, 1) := by decide +kernel
theorem dX6_roomVerdict_2 : decode cX6_roomVerdict 2 = .ok (.if_icmp .ge 7, 3) := by decide +kernel
theorem dX6_roomVerdict_5 : decode cX6_roomVerdict 5 = .ok (.iconst 0, 1) := by decide +kernel
theorem dX6_roomVerdict_6 : decode cX6_roomVerdict 6 = .ok (.goto 8, 3) := by decide +kernel
theorem dX6_roomVerdict_9 : decode cX6_roomVerdict 9 = .ok (.iconst 1, 1) := by decide +kernel
theorem dX6_roomVerdict_10 : decode cX6_roomVerdict 10 = .ok (.iload_n 1, 1) := by decide +kernel
theorem dX6_roomVerdict_11 : decode cX6_roomVerdict 11 = .ok (.invokestatic 374, 3) := by decide +kernel
theorem dX6_roomVerdict_14 : decode cX6_roomVerdict 14 = .ok (.ireturn, 1) := by decide +kernel
theorem dX6_more_0 : decode cX6_more 0 = .ok (.iload_n 0, 1) := by decide +kernel
theorem dX6_more_1 : decode cX6_more 1 = .ok (.iload_n 1, 1) := by decide +kernel
theorem dX6_more_2 : decode cX6_more 2 = .ok (.iadd, 1) := by decide +kernel
theorem dX6_more_3 : decode cX6_more 3 = .ok (.iload_n 2, 1) := by decide +kernel
theorem dX6_more_4 : decode cX6_more 4 = .ok (.if_icmp .ge 9, 3) := by decide +kernel
theorem dX6_more_7 : decode cX6_more 7 = .ok (.iload_n 0, 1) := by decide +kernel
theorem dX6_more_8 : decode cX6_more 8 = .ok (.iload_n 1, 1) := by decide +kernel
theorem dX6_more_9 : decode cX6_more 9 = .ok (.iadd, 1) := by decide +kernel
theorem dX6_more_10 : decode cX6_more 10 = .ok (.goto 4, 3) := by decide +kernel
theorem dX6_more_13 : decode cX6_more 13 = .ok (.iload_n 2, 1) := by decide +kernel
theorem dX6_more_14 : decode cX6_more 14 = .ok (.ireturn, 1) := by decide +kernel
theorem dX6_less_0 : decode cX6_less 0 = .ok (.iload_n 0, 1) := by decide +kernel
theorem dX6_less_1 : decode cX6_less 1 = .ok (.iload_n 1, 1) := by decide +kernel
theorem dX6_less_2 : decode cX6_less 2 = .ok (.if_icmp .le 9, 3) := by decide +kernel
theorem dX6_less_5 : decode cX6_less 5 = .ok (.iload_n 0, 1) := by decide +kernel
theorem dX6_less_6 : decode cX6_less 6 = .ok (.iload_n 1, 1) := by decide +kernel
theorem dX6_less_7 : decode cX6_less 7 = .ok (.isub, 1) := by decide +kernel
theorem dX6_less_8 : decode cX6_less 8 = .ok (.goto 4, 3) := by decide +kernel
theorem dX6_less_11 : decode cX6_less 11 = .ok (.iconst 0, 1) := by decide +kernel
theorem dX6_less_12 : decode cX6_less 12 = .ok (.ireturn, 1) := by decide +kernel
