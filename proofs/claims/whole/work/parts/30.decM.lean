theorem dX4_init_0 : decode cX4_init 0 = .ok (.aload_n 0, 1) := by decide +kernel
theorem dX4_init_1 : decode cX4_init 1 = .ok (.invokespecial 1, 3) := by decide +kernel
theorem dX4_init_4 : decode cX4_init 4 = .ok (.aload_n 0, 1) := by decide +kernel
theorem dX4_init_5 : decode cX4_init 5 = .ok (.iconst 5, 1) := by decide +kernel
theorem dX4_init_6 : decode cX4_init 6 = .ok (.putfield 7, 3) := by decide +kernel
theorem dX4_init_9 : decode cX4_init 9 = .ok (.aload_n 0, 1) := by decide +kernel
theorem dX4_init_10 : decode cX4_init 10 = .ok (.bipush 10, 2) := by decide +kernel
theorem dX4_init_12 : decode cX4_init 12 = .ok (.newarray .int, 2) := by decide +kernel
theorem dX4_init_14 : decode cX4_init 14 = .ok (.putfield 13, 3) := by decide +kernel
theorem dX4_init_17 : decode cX4_init 17 = .ok (.aload_n 0, 1) := by decide +kernel
theorem dX4_init_18 : decode cX4_init 18 = .ok (.bipush 10, 2) := by decide +kernel
theorem dX4_init_20 : decode cX4_init 20 = .ok (.newarray .int, 2) := by decide +kernel
theorem dX4_init_22 : decode cX4_init 22 = .ok (.putfield 17, 3) := by decide +kernel
theorem dX4_init_25 : decode cX4_init 25 = .ok (.aload_n 0, 1) := by decide +kernel
theorem dX4_init_26 : decode cX4_init 26 = .ok (.bipush 10, 2) := by decide +kernel
theorem dX4_init_28 : decode cX4_init 28 = .ok (.newarray .int, 2) := by decide +kernel
theorem dX4_init_30 : decode cX4_init 30 = .ok (.putfield 20, 3) := by decide +kernel
theorem dX4_init_33 : decode cX4_init 33 = .ok (.aload_n 0, 1) := by decide +kernel
theorem dX4_init_34 : decode cX4_init 34 = .ok (.bipush 10, 2) := by decide +kernel
theorem dX4_init_36 : decode cX4_init 36 = .ok (.newarray .int, 2) := by decide +kernel
theorem dX4_init_38 : decode cX4_init 38 = .ok (.putfield 23, 3) := by decide +kernel
theorem dX4_init_41 : decode cX4_init 41 = .ok (.aload_n 0, 1) := by decide +kernel
theorem dX4_init_42 : decode cX4_init 42 = .ok (.bipush 10, 2) := by decide +kernel
theorem dX4_init_44 : decode cX4_init 44 = .ok (.newarray .int, 2) := by decide +kernel
theorem dX4_init_46 : decode cX4_init 46 = .ok (.putfield 26, 3) := by decide +kernel
theorem dX4_init_49 : decode cX4_init 49 = .ok (.aload_n 0, 1) := by decide +kernel
theorem dX4_init_50 : decode cX4_init 50 = .ok (.bipush 10, 2) := by decide +kernel
theorem dX4_init_52 : decode cX4_init 52 = .ok (.newarray .int, 2) := by decide +kernel
theorem dX4_init_54 : decode cX4_init 54 = .ok (.putfield 29, 3) := by decide +kernel
theorem dX4_init_57 : decode cX4_init 57 = .ok (.aload_n 0, 1) := by decide +kernel
theorem dX4_init_58 : decode cX4_init 58 = .ok (.bipush 10, 2) := by decide +kernel
theorem dX4_init_60 : decode cX4_init 60 = .ok (.newarray .int, 2) := by decide +kernel
theorem dX4_init_62 : decode cX4_init 62 = .ok (.putfield 32, 3) := by decide +kernel
theorem dX4_init_65 : decode cX4_init 65 = .ok (.aload_n 0, 1) := by decide +kernel
theorem dX4_init_66 : decode cX4_init 66 = .ok (.bipush 10, 2) := by decide +kernel
theorem dX4_init_68 : decode cX4_init 68 = .ok (.newarray .int, 2) := by decide +kernel
theorem dX4_init_70 : decode cX4_init 70 = .ok (.putfield 35, 3) := by decide +kernel
theorem dX4_init_73 : decode cX4_init 73 = .ok (.aload_n 0, 1) := by decide +kernel
theorem dX4_init_74 : decode cX4_init 74 = .ok (.bipush 10, 2) := by decide +kernel
theorem dX4_init_76 : decode cX4_init 76 = .ok (.newarray .int, 2) := by decide +kernel
theorem dX4_init_78 : decode cX4_init 78 = .ok (.putfield 38, 3) := by decide +kernel
theorem dX4_init_81 : decode cX4_init 81 = .ok (.aload_n 0, 1) := by decide +kernel
theorem dX4_init_82 : decode cX4_init 82 = .ok (.bipush 10, 2) := by decide +kernel
theorem dX4_init_84 : decode cX4_init 84 = .ok (.newarray .int, 2) := by decide +kernel
theorem dX4_init_86 : decode cX4_init 86 = .ok (.putfield 41, 3) := by decide +kernel
theorem dX4_init_89 : decode cX4_init 89 = .ok (.aload_n 0, 1) := by decide +kernel
theorem dX4_init_90 : decode cX4_init 90 = .ok (.bipush 10, 2) := by decide +kernel
theorem dX4_init_92 : decode cX4_init 92 = .ok (.newarray .double, 2) := by decide +kernel
theorem dX4_init_94 : decode cX4_init 94 = .ok (.putfield 44, 3) := by decide +kernel
theorem dX4_init_97 : decode cX4_init 97 = .ok (.aload_n 0, 1) := by decide +kernel
theorem dX4_init_98 : decode cX4_init 98 = .ok (.bipush 20, 2) := by decide +kernel
theorem dX4_init_100 : decode cX4_init 100 = .ok (.newarray .int, 2) := by decide +kernel
theorem dX4_init_102 : decode cX4_init 102 = .ok (.putfield 48, 3) := by decide +kernel
theorem dX4_init_105 : decode cX4_init 105 = .ok (.aload_n 0, 1) := by decide +kernel
theorem dX4_init_106 : decode cX4_init 106 = .ok (.bipush 16, 2) := by decide +kernel
theorem dX4_init_108 : decode cX4_init 108 = .ok (.newarray .int, 2) := by decide +kernel
theorem dX4_init_110 : decode cX4_init 110 = .ok (.putfield 51, 3) := by decide +kernel
theorem dX4_init_113 : decode cX4_init 113 = .ok (.aload_n 0, 1) := by decide +kernel
theorem dX4_init_114 : decode cX4_init 114 = .ok (.bipush 16, 2) := by decide +kernel
theorem dX4_init_116 : decode cX4_init 116 = .ok (.newarray .int, 2) := by decide +kernel
theorem dX4_init_118 : decode cX4_init 118 = .ok (.putfield 54, 3) := by decide +kernel
theorem dX4_init_121 : decode cX4_init 121 = .ok (.aload_n 0, 1) := by decide +kernel
theorem dX4_init_122 : decode cX4_init 122 = .ok (.bipush 16, 2) := by decide +kernel
theorem dX4_init_124 : decode cX4_init 124 = .ok (.newarray .int, 2) := by decide +kernel
theorem dX4_init_126 : decode cX4_init 126 = .ok (.putfield 57, 3) := by decide +kernel
theorem dX4_init_129 : decode cX4_init 129 = .ok (.aload_n 0, 1) := by decide +kernel
theorem dX4_init_130 : decode cX4_init 130 = .ok (.bipush 16, 2) := by decide +kernel
theorem dX4_init_132 : decode cX4_init 132 = .ok (.newarray .int, 2) := by decide +kernel
theorem dX4_init_134 : decode cX4_init 134 = .ok (.putfield 60, 3) := by decide +kernel
theorem dX4_init_137 : decode cX4_init 137 = .ok (.aload_n 0, 1) := by decide +kernel
theorem dX4_init_138 : decode cX4_init 138 = .ok (.bipush 16, 2) := by decide +kernel
theorem dX4_init_140 : decode cX4_init 140 = .ok (.newarray .int, 2) := by decide +kernel
theorem dX4_init_142 : decode cX4_init 142 = .ok (.putfield 63, 3) := by decide +kernel
theorem dX4_init_145 : decode cX4_init 145 = .ok (.aload_n 0, 1) := by decide +kernel
theorem dX4_init_146 : decode cX4_init 146 = .ok (.bipush 16, 2) := by decide +kernel
theorem dX4_init_148 : decode cX4_init 148 = .ok (.newarray .boolean, 2) := by decide +kernel
theorem dX4_init_150 : decode cX4_init 150 = .ok (.putfield 66, 3) := by decide +kernel
theorem dX4_init_153 : decode cX4_init 153 = .ok (.aload_n 0, 1) := by decide +kernel
theorem dX4_init_154 : decode cX4_init 154 = .ok (.bipush 16, 2) := by decide +kernel
theorem dX4_init_156 : decode cX4_init 156 = .ok (.newarray .int, 2) := by decide +kernel
theorem dX4_init_158 : decode cX4_init 158 = .ok (.putfield 70, 3) := by decide +kernel
theorem dX4_init_161 : decode cX4_init 161 = .ok (.aload_n 0, 1) := by decide +kernel
theorem dX4_init_162 : decode cX4_init 162 = .ok (.bipush 16, 2) := by decide +kernel
theorem dX4_init_164 : decode cX4_init 164 = .ok (.newarray .int, 2) := by decide +kernel
theorem dX4_init_166 : decode cX4_init 166 = .ok (.putfield 73, 3) := by decide +kernel
theorem dX4_init_169 : decode cX4_init 169 = .ok (.aload_n 0, 1) := by decide +kernel
theorem dX4_init_170 : decode cX4_init 170 = .ok (.bipush 16, 2) := by decide +kernel
theorem dX4_init_172 : decode cX4_init 172 = .ok (.newarray .int, 2) := by decide +kernel
theorem dX4_init_174 : decode cX4_init 174 = .ok (.putfield 76, 3) := by decide +kernel
theorem dX4_init_177 : decode cX4_init 177 = .ok (.aload_n 0, 1) := by decide +kernel
theorem dX4_init_178 : decode cX4_init 178 = .ok (.iconst 3, 1) := by decide +kernel
theorem dX4_init_179 : decode cX4_init 179 = .ok (.newarray .int, 2) := by decide +kernel
theorem dX4_init_181 : decode cX4_init 181 = .ok (.putfield 79, 3) := by decide +kernel
theorem dX4_init_184 : decode cX4_init 184 = .ok (.aload_n 0, 1) := by decide +kernel
theorem dX4_init_185 : decode cX4_init 185 = .ok (.iconst 3, 1) := by decide +kernel
theorem dX4_init_186 : decode cX4_init 186 = .ok (.newarray .int, 2) := by decide +kernel
theorem dX4_init_188 : decode cX4_init 188 = .ok (.putfield 82, 3) := by decide +kernel
theorem dX4_init_191 : decode cX4_init 191 = .ok (.aload_n 0, 1) := by decide +kernel
theorem dX4_init_192 : decode cX4_init 192 = .ok (.iconst 3, 1) := by decide +kernel
theorem dX4_init_193 : decode cX4_init 193 = .ok (.newarray .int, 2) := by decide +kernel
theorem dX4_init_195 : decode cX4_init 195 = .ok (.putfield 85, 3) := by decide +kernel
theorem dX4_init_198 : decode cX4_init 198 = .ok (.return_, 1) := by decide +kernel
theorem dX4_thrown_0 : decode cX4_thrown 0 = .ok (.aload_n 0, 1) := by decide +kernel
theorem dX4_thrown_1 : decode cX4_thrown 1 = .ok (.getfield 88, 3) := by decide +kernel
theorem dX4_thrown_4 : decode cX4_thrown 4 = .ok (.ireturn, 1) := by decide +kernel
theorem dX4_fails_0 : decode cX4_fails 0 = .ok (.aload_n 0, 1) := by decide +kernel
theorem dX4_fails_1 : decode cX4_fails 1 = .ok (.iload_n 1, 1) := by decide +kernel
theorem dX4_fails_2 : decode cX4_fails 2 = .ok (.putfield 88, 3) := by decide +kernel
theorem dX4_fails_5 : decode cX4_fails 5 = .ok (.iload_n 1, 1) := by decide +kernel
theorem dX4_fails_6 : decode cX4_fails 6 = .ok (.ifCond .le 7, 3) := by decide +kernel
theorem dX4_fails_9 : decode cX4_fails 9 = .ok (.iconst 1, 1) := by decide +kernel
theorem dX4_fails_10 : decode cX4_fails 10 = .ok (.goto 4, 3) := by decide +kernel
theorem dX4_fails_13 : decode cX4_fails 13 = .ok (.iconst 0, 1) := by decide +kernel
theorem dX4_fails_14 : decode cX4_fails 14 = .ok (.ireturn, 1) := by decide +kernel
theorem dX4_isIn_0 : decode cX4_isIn 0 = .ok (.iload_n 0, 1) := by decide +kernel
theorem dX4_isIn_1 : decode cX4_isIn 1 = .ok (.iload_n 1, 1) := by decide +kernel
theorem dX4_isIn_2 : decode cX4_isIn 2 = .ok (.if_icmp .lt 12, 3) := by decide +kernel
theorem dX4_isIn_5 : decode cX4_isIn 5 = .ok (.iload_n 0, 1) := by decide +kernel
theorem dX4_isIn_6 : decode cX4_isIn 6 = .ok (.iload_n 2, 1) := by decide +kernel
theorem dX4_isIn_7 : decode cX4_isIn 7 = .ok (.if_icmp .gt 7, 3) := by decide +kernel
theorem dX4_isIn_10 : decode cX4_isIn 10 = .ok (.iconst 1, 1) := by decide +kernel
theorem dX4_isIn_11 : decode cX4_isIn 11 = .ok (.goto 4, 3) := by decide +kernel
theorem dX4_isIn_14 : decode cX4_isIn 14 = .ok (.iconst 0, 1) := by decide +kernel
theorem dX4_isIn_15 : decode cX4_isIn 15 = .ok (.ireturn, 1) := by decide +kernel
theorem dX4_isPiece_0 : decode cX4_isPiece 0 = .ok (.iload_n 1, 1) := by decide +kernel
theorem dX4_isPiece_1 : decode cX4_isPiece 1 = .ok (.iconst 0, 1) := by decide +kernel
theorem dX4_isPiece_2 : decode cX4_isPiece 2 = .ok (.aload_n 0, 1) := by decide +kernel
theorem dX4_isPiece_3 : decode cX4_isPiece 3 = .ok (.getfield 91, 3) := by decide +kernel
theorem dX4_isPiece_6 : decode cX4_isPiece 6 = .ok (.iconst 1, 1) := by decide +kernel
theorem dX4_isPiece_7 : decode cX4_isPiece 7 = .ok (.isub, 1) := by decide +kernel
theorem dX4_isPiece_8 : decode cX4_isPiece 8 = .ok (.invokestatic 94, 3) := by decide +kernel
theorem dX4_isPiece_11 : decode cX4_isPiece 11 = .ok (.ireturn, 1) := by decide +kernel
theorem dX4_isVehicle_0 : decode cX4_isVehicle 0 = .ok (.iload_n 1, 1) := by decide +kernel
theorem dX4_isVehicle_1 : decode cX4_isVehicle 1 = .ok (.iconst 0, 1) := by decide +kernel
theorem dX4_isVehicle_2 : decode cX4_isVehicle 2 = .ok (.aload_n 0, 1) := by decide +kernel
theorem dX4_isVehicle_3 : decode cX4_isVehicle 3 = .ok (.getfield 98, 3) := by decide +kernel
theorem dX4_isVehicle_6 : decode cX4_isVehicle 6 = .ok (.iconst 1, 1) := by decide +kernel
theorem dX4_isVehicle_7 : decode cX4_isVehicle 7 = .ok (.isub, 1) := by decide +kernel
theorem dX4_isVehicle_8 : decode cX4_isVehicle 8 = .ok (.invokestatic 94, 3) := by decide +kernel
theorem dX4_isVehicle_11 : decode cX4_isVehicle 11 = .ok (.ireturn, 1) := by decide +kernel
theorem dX4_isGoods_0 : decode cX4_isGoods 0 = .ok (.iload_n 0, 1) := by decide +kernel
theorem dX4_isGoods_1 : decode cX4_isGoods 1 = .ok (.iconst 0, 1) := by decide +kernel
theorem dX4_isGoods_2 : decode cX4_isGoods 2 = .ok (.iconst 2, 1) := by decide +kernel
theorem dX4_isGoods_3 : decode cX4_isGoods 3 = .ok (.invokestatic 94, 3) := by decide +kernel
theorem dX4_isGoods_6 : decode cX4_isGoods 6 = .ok (.ireturn, 1) := by decide +kernel
theorem dX4_isWater_0 : decode cX4_isWater 0 = .ok (.aload_n 0, 1) := by decide +kernel
theorem dX4_isWater_1 : decode cX4_isWater 1 = .ok (.getfield 13, 3) := by decide +kernel
theorem dX4_isWater_4 : decode cX4_isWater 4 = .ok (.iload_n 1, 1) := by decide +kernel
theorem dX4_isWater_5 : decode cX4_isWater 5 = .ok (.iaload, 1) := by decide +kernel
theorem dX4_isWater_6 : decode cX4_isWater 6 = .ok (.iconst 2, 1) := by decide +kernel
theorem dX4_isWater_7 : decode cX4_isWater 7 = .ok (.if_icmp .eq 7, 3) := by decide +kernel
theorem dX4_isWater_10 : decode cX4_isWater 10 = .ok (.iconst 1, 1) := by decide +kernel
theorem dX4_isWater_11 : decode cX4_isWater 11 = .ok (.goto 4, 3) := by decide +kernel
theorem dX4_isWater_14 : decode cX4_isWater 14 = .ok (.iconst 0, 1) := by decide +kernel
theorem dX4_isWater_15 : decode cX4_isWater 15 = .ok (.ireturn, 1) := by decide +kernel
theorem dX4_piece_0 : decode cX4_piece 0 = .ok (.iload_n 1, 1) := by decide +kernel
theorem dX4_piece_1 : decode cX4_piece 1 = .ok (.iconst 0, 1) := by decide +kernel
theorem dX4_piece_2 : decode cX4_piece 2 = .ok (.iconst 2, 1) := by decide +kernel
theorem dX4_piece_3 : decode cX4_piece 3 = .ok (.invokestatic 94, 3) := by decide +kernel
theorem dX4_piece_6 : decode cX4_piece 6 = .ok (.ifCond .eq 29, 3) := by decide +kernel
theorem dX4_piece_9 : decode cX4_piece 9 = .ok (.iload_n 2, 1) := by decide +kernel
theorem dX4_piece_10 : decode cX4_piece 10 = .ok (.iconst 1, 1) := by decide +kernel
theorem dX4_piece_11 : decode cX4_piece 11 = .ok (.sipush 20000, 3) := by decide +kernel
theorem dX4_piece_14 : decode cX4_piece 14 = .ok (.invokestatic 94, 3) := by decide +kernel
theorem dX4_piece_17 : decode cX4_piece 17 = .ok (.ifCond .eq 18, 3) := by decide +kernel
theorem dX4_piece_20 : decode cX4_piece 20 = .ok (.iload_n 3, 1) := by decide +kernel
theorem dX4_piece_21 : decode cX4_piece 21 = .ok (.iconst 1, 1) := by decide +kernel
theorem dX4_piece_22 : decode cX4_piece 22 = .ok (.sipush 999, 3) := by decide +kernel
theorem dX4_piece_25 : decode cX4_piece 25 = .ok (.invokestatic 94, 3) := by decide +kernel
theorem dX4_piece_28 : decode cX4_piece 28 = .ok (.ifCond .eq 7, 3) := by decide +kernel
theorem dX4_piece_31 : decode cX4_piece 31 = .ok (.iconst 1, 1) := by decide +kernel
theorem dX4_piece_32 : decode cX4_piece 32 = .ok (.goto 4, 3) := by decide +kernel
theorem dX4_piece_35 : decode cX4_piece 35 = .ok (.iconst 0, 1) := by decide +kernel
theorem dX4_piece_36 : decode cX4_piece 36 = .ok (.istore 4, 2) := by decide +kernel
theorem dX4_piece_38 : decode cX4_piece 38 = .ok (.aload_n 0, 1) := by decide +kernel
theorem dX4_piece_39 : decode cX4_piece 39 = .ok (.iload 4, 2) := by decide +kernel
theorem dX4_piece_41 : decode cX4_piece 41 = .ok (.ifCond .ne 7, 3) := by decide +kernel
theorem dX4_piece_44 : decode cX4_piece 44 = .ok (.iconst 1, 1) := by decide +kernel
theorem dX4_piece_45 : decode cX4_piece 45 = .ok (.goto 24, 3) := by decide +kernel
theorem dX4_piece_48 : decode cX4_piece 48 = .ok (.aload_n 0, 1) := by decide +kernel
theorem dX4_piece_49 : decode cX4_piece 49 = .ok (.getfield 91, 3) := by decide +kernel
theorem dX4_piece_52 : decode cX4_piece 52 = .ok (.bipush 10, 2) := by decide +kernel
theorem dX4_piece_54 : decode cX4_piece 54 = .ok (.if_icmp .eq 10, 3) := by decide +kernel
theorem dX4_piece_57 : decode cX4_piece 57 = .ok (.aload_n 0, 1) := by decide +kernel
theorem dX4_piece_58 : decode cX4_piece 58 = .ok (.getfield 98, 3) := by decide +kernel
theorem dX4_piece_61 : decode cX4_piece 61 = .ok (.ifCond .le 7, 3) := by decide +kernel
theorem dX4_piece_64 : decode cX4_piece 64 = .ok (.iconst 2, 1) := by decide +kernel
theorem dX4_piece_65 : decode cX4_piece 65 = .ok (.goto 4, 3) := by decide +kernel
theorem dX4_piece_68 : decode cX4_piece 68 = .ok (.iconst 0, 1) := by decide +kernel
theorem dX4_piece_69 : decode cX4_piece 69 = .ok (.invokevirtual 101, 3) := by decide +kernel
theorem dX4_piece_72 : decode cX4_piece 72 = .ok (.ifCond .eq 5, 3) := by decide +kernel
theorem dX4_piece_75 : decode cX4_piece 75 = .ok (.iconst 0, 1) := by decide +kernel
theorem dX4_piece_76 : decode cX4_piece 76 = .ok (.ireturn, 1) := by decide +kernel
theorem dX4_piece_77 : decode cX4_piece 77 = .ok (.aload_n 0, 1) := by decide +kernel
theorem dX4_piece_78 : decode cX4_piece 78 = .ok (.getfield 13, 3) := by decide +kernel
theorem dX4_piece_81 : decode cX4_piece 81 = .ok (.aload_n 0, 1) := by decide +kernel
theorem dX4_piece_82 : decode cX4_piece 82 = .ok (.getfield 91, 3) := by decide +kernel
theorem dX4_piece_85 : decode cX4_piece 85 = .ok (.iload_n 1, 1) := by decide +kernel
theorem dX4_piece_86 : decode cX4_piece 86 = .ok (.iastore, 1) := by decide +kernel
theorem dX4_piece_87 : decode cX4_piece 87 = .ok (.aload_n 0, 1) := by decide +kernel
theorem dX4_piece_88 : decode cX4_piece 88 = .ok (.getfield 17, 3) := by decide +kernel
theorem dX4_piece_91 : decode cX4_piece 91 = .ok (.aload_n 0, 1) := by decide +kernel
theorem dX4_piece_92 : decode cX4_piece 92 = .ok (.getfield 91, 3) := by decide +kernel
theorem dX4_piece_95 : decode cX4_piece 95 = .ok (.iload_n 2, 1) := by decide +kernel
theorem dX4_piece_96 : decode cX4_piece 96 = .ok (.iastore, 1) := by decide +kernel
theorem dX4_piece_97 : decode cX4_piece 97 = .ok (.aload_n 0, 1) := by decide +kernel
theorem dX4_piece_98 : decode cX4_piece 98 = .ok (.getfield 20, 3) := by decide +kernel
theorem dX4_piece_101 : decode cX4_piece 101 = .ok (.aload_n 0, 1) := by decide +kernel
theorem dX4_piece_102 : decode cX4_piece 102 = .ok (.getfield 91, 3) := by decide +kernel
theorem dX4_piece_105 : decode cX4_piece 105 = .ok (.iload_n 3, 1) := by decide +kernel
theorem dX4_piece_106 : decode cX4_piece 106 = .ok (.iastore, 1) := by decide +kernel
theorem dX4_piece_107 : decode cX4_piece 107 = .ok (.aload_n 0, 1) := by decide +kernel
theorem dX4_piece_108 : decode cX4_piece 108 = .ok (.getfield 41, 3) := by decide +kernel
theorem dX4_piece_111 : decode cX4_piece 111 = .ok (.aload_n 0, 1) := by decide +kernel
theorem dX4_piece_112 : decode cX4_piece 112 = .ok (.getfield 91, 3) := by decide +kernel
theorem dX4_piece_115 : decode cX4_piece 115 = .ok (.bipush 100, 2) := by decide +kernel
theorem dX4_piece_117 : decode cX4_piece 117 = .ok (.iastore, 1) := by decide +kernel
theorem dX4_piece_118 : decode cX4_piece 118 = .ok (.aload_n 0, 1) := by decide +kernel
theorem dX4_piece_119 : decode cX4_piece 119 = .ok (.getfield 48, 3) := by decide +kernel
theorem dX4_piece_122 : decode cX4_piece 122 = .ok (.iconst 2, 1) := by decide +kernel
theorem dX4_piece_123 : decode cX4_piece 123 = .ok (.aload_n 0, 1) := by decide +kernel
theorem dX4_piece_124 : decode cX4_piece 124 = .ok (.getfield 91, 3) := by decide +kernel
theorem dX4_piece_127 : decode cX4_piece 127 = .ok (.imul, 1) := by decide +kernel
theorem dX4_piece_128 : decode cX4_piece 128 = .ok (.ldc 105, 2) := by decide +kernel
theorem dX4_piece_130 : decode cX4_piece 130 = .ok (.iastore, 1) := by decide +kernel
theorem dX4_piece_131 : decode cX4_piece 131 = .ok (.aload_n 0, 1) := by decide +kernel
theorem dX4_piece_132 : decode cX4_piece 132 = .ok (.getfield 48, 3) := by decide +kernel
theorem dX4_piece_135 : decode cX4_piece 135 = .ok (.iconst 2, 1) := by decide +kernel
theorem dX4_piece_136 : decode cX4_piece 136 = .ok (.aload_n 0, 1) := by decide +kernel
theorem dX4_piece_137 : decode cX4_piece 137 = .ok (.getfield 91, 3) := by decide +kernel
theorem dX4_piece_140 : decode cX4_piece 140 = .ok (.imul, 1) := by decide +kernel
theorem dX4_piece_141 : decode cX4_piece 141 = .ok (.iconst 1, 1) := by decide +kernel
theorem dX4_piece_142 : decode cX4_piece 142 = .ok (.iadd, 1) := by decide +kernel
theorem dX4_piece_143 : decode cX4_piece 143 = .ok (.ldc 105, 2) := by decide +kernel
theorem dX4_piece_145 : decode cX4_piece 145 = .ok (.iastore, 1) := by decide +kernel
theorem dX4_piece_146 : decode cX4_piece 146 = .ok (.aload_n 0, 1) := by decide +kernel
theorem dX4_piece_147 : decode cX4_piece 147 = .ok (.dup, 1) := by decide +kernel
theorem dX4_piece_148 : decode cX4_piece 148 = .ok (.getfield 91, 3) := by decide +kernel
theorem dX4_piece_151 : decode cX4_piece 151 = .ok (.iconst 1, 1) := by decide +kernel
theorem dX4_piece_152 : decode cX4_piece 152 = .ok (.iadd, 1) := by decide +kernel
theorem dX4_piece_153 : decode cX4_piece 153 = .ok (.putfield 91, 3) := by decide +kernel
theorem dX4_piece_156 : decode cX4_piece 156 = .ok (.aload_n 0, 1) := by decide +kernel
theorem dX4_piece_157 : decode cX4_piece 157 = .ok (.getfield 91, 3) := by decide +kernel
theorem dX4_piece_160 : decode cX4_piece 160 = .ok (.iconst 1, 1) := by decide +kernel
theorem dX4_piece_161 : decode cX4_piece 161 = .ok (.isub, 1) := by decide +kernel
theorem dX4_piece_162 : decode cX4_piece 162 = .ok (.ireturn, 1) := by decide +kernel
theorem dX4_weather_0 : decode cX4_weather 0 = .ok (.aload_n 0, 1) := by decide +kernel
theorem dX4_weather_1 : decode cX4_weather 1 = .ok (.iload_n 1, 1) := by decide +kernel
theorem dX4_weather_2 : decode cX4_weather 2 = .ok (.bipush (-20), 2) := by decide +kernel
theorem dX4_weather_4 : decode cX4_weather 4 = .ok (.bipush 60, 2) := by decide +kernel
theorem dX4_weather_6 : decode cX4_weather 6 = .ok (.invokestatic 94, 3) := by decide +kernel
theorem dX4_weather_9 : decode cX4_weather 9 = .ok (.ifCond .eq 7, 3) := by decide +kernel
theorem dX4_weather_12 : decode cX4_weather 12 = .ok (.iconst 0, 1) := by decide +kernel
theorem dX4_weather_13 : decode cX4_weather 13 = .ok (.goto 4, 3) := by decide +kernel
theorem dX4_weather_16 : decode cX4_weather 16 = .ok (.iconst 1, 1) := by decide +kernel
theorem dX4_weather_17 : decode cX4_weather 17 = .ok (.invokevirtual 101, 3) := by decide +kernel
theorem dX4_weather_20 : decode cX4_weather 20 = .ok (.ifCond .eq 5, 3) := by decide +kernel
theorem dX4_weather_23 : decode cX4_weather 23 = .ok (.iconst 0, 1) := by decide +kernel
theorem dX4_weather_24 : decode cX4_weather 24 = .ok (.ireturn, 1) := by decide +kernel
theorem dX4_weather_25 : decode cX4_weather 25 = .ok (.aload_n 0, 1) := by decide +kernel
theorem dX4_weather_26 : decode cX4_weather 26 = .ok (.getfield 106, 3) := by decide +kernel
theorem dX4_weather_29 : decode cX4_weather 29 = .ok (.istore_n 2, 1) := by decide +kernel
theorem dX4_weather_30 : decode cX4_weather 30 = .ok (.aload_n 0, 1) := by decide +kernel
theorem dX4_weather_31 : decode cX4_weather 31 = .ok (.iload_n 1, 1) := by decide +kernel
theorem dX4_weather_32 : decode cX4_weather 32 = .ok (.putfield 106, 3) := by decide +kernel
theorem dX4_weather_35 : decode cX4_weather 35 = .ok (.iload_n 2, 1) := by decide +kernel
theorem dX4_weather_36 : decode cX4_weather 36 = .ok (.ireturn, 1) := by decide +kernel
theorem dX4_snow_0 : decode cX4_snow 0 = .ok (.aload_n 0, 1) := by decide +kernel
theorem dX4_snow_1 : decode cX4_snow 1 = .ok (.iload_n 1, 1) := by decide +kernel
theorem dX4_snow_2 : decode cX4_snow 2 = .ok (.iconst 1, 1) := by decide +kernel
theorem dX4_snow_3 : decode cX4_snow 3 = .ok (.sipush 500, 3) := by decide +kernel
theorem dX4_snow_6 : decode cX4_snow 6 = .ok (.invokestatic 94, 3) := by decide +kernel
theorem dX4_snow_9 : decode cX4_snow 9 = .ok (.ifCond .eq 7, 3) := by decide +kernel
theorem dX4_snow_12 : decode cX4_snow 12 = .ok (.iconst 0, 1) := by decide +kernel
theorem dX4_snow_13 : decode cX4_snow 13 = .ok (.goto 4, 3) := by decide +kernel
theorem dX4_snow_16 : decode cX4_snow 16 = .ok (.iconst 1, 1) := by decide +kernel
theorem dX4_snow_17 : decode cX4_snow 17 = .ok (.invokevirtual 101, 3) := by decide +kernel
theorem dX4_snow_20 : decode cX4_snow 20 = .ok (.ifCond .eq 5, 3) := by decide +kernel
theorem dX4_snow_23 : decode cX4_snow 23 = .ok (.iconst 0, 1) := by decide +kernel
theorem dX4_snow_24 : decode cX4_snow 24 = .ok (.ireturn, 1) := by decide +kernel
theorem dX4_snow_25 : decode cX4_snow 25 = .ok (.iconst 0, 1) := by decide +kernel
theorem dX4_snow_26 : decode cX4_snow 26 = .ok (.istore_n 2, 1) := by decide +kernel
theorem dX4_snow_27 : decode cX4_snow 27 = .ok (.iload_n 2, 1) := by decide +kernel
theorem dX4_snow_28 : decode cX4_snow 28 = .ok (.aload_n 0, 1) := by decide +kernel
theorem dX4_snow_29 : decode cX4_snow 29 = .ok (.getfield 91, 3) := by decide +kernel
theorem dX4_snow_32 : decode cX4_snow 32 = .ok (.if_icmp .ge 19, 3) := by decide +kernel
theorem dX4_snow_35 : decode cX4_snow 35 = .ok (.aload_n 0, 1) := by decide +kernel
theorem dX4_snow_36 : decode cX4_snow 36 = .ok (.getfield 32, 3) := by decide +kernel
theorem dX4_snow_39 : decode cX4_snow 39 = .ok (.iload_n 2, 1) := by decide +kernel
theorem dX4_snow_40 : decode cX4_snow 40 = .ok (.dup2, 1) := by decide +kernel
theorem dX4_snow_41 : decode cX4_snow 41 = .ok (.iaload, 1) := by decide +kernel
theorem dX4_snow_42 : decode cX4_snow 42 = .ok (.iload_n 1, 1) := by decide +kernel
theorem dX4_snow_43 : decode cX4_snow 43 = .ok (.iadd, 1) := by decide +kernel
theorem dX4_snow_44 : decode cX4_snow 44 = .ok (.iastore, 1) := by decide +kernel
theorem dX4_snow_45 : decode cX4_snow 45 = .ok (.iinc 2 1, 3) := by decide +kernel
theorem dX4_snow_48 : decode cX4_snow 48 = .ok (.goto (-21), 3) := by decide +kernel
theorem dX4_snow_51 : decode cX4_snow 51 = .ok (.aload_n 0, 1) := by decide +kernel
theorem dX4_snow_52 : decode cX4_snow 52 = .ok (.getfield 91, 3) := by decide +kernel
theorem dX4_snow_55 : decode cX4_snow 55 = .ok (.ireturn, 1) := by decide +kernel
theorem dX4_plough_0 : decode cX4_plough 0 = .ok (.aload_n 0, 1) := by decide +kernel
theorem dX4_plough_1 : decode cX4_plough 1 = .ok (.aload_n 0, 1) := by decide +kernel
theorem dX4_plough_2 : decode cX4_plough 2 = .ok (.iload_n 1, 1) := by decide +kernel
theorem dX4_plough_3 : decode cX4_plough 3 = .ok (.invokevirtual 109, 3) := by decide +kernel
theorem dX4_plough_6 : decode cX4_plough 6 = .ok (.ifCond .eq 7, 3) := by decide +kernel
theorem dX4_plough_9 : decode cX4_plough 9 = .ok (.iconst 0, 1) := by decide +kernel
theorem dX4_plough_10 : decode cX4_plough 10 = .ok (.goto 4, 3) := by decide +kernel
theorem dX4_plough_13 : decode cX4_plough 13 = .ok (.iconst 1, 1) := by decide +kernel
theorem dX4_plough_14 : decode cX4_plough 14 = .ok (.invokevirtual 101, 3) := by decide +kernel
theorem dX4_plough_17 : decode cX4_plough 17 = .ok (.ifCond .eq 5, 3) := by decide +kernel
theorem dX4_plough_20 : decode cX4_plough 20 = .ok (.iconst 0, 1) := by decide +kernel
theorem dX4_plough_21 : decode cX4_plough 21 = .ok (.ireturn, 1) := by decide +kernel
theorem dX4_plough_22 : decode cX4_plough 22 = .ok (.aload_n 0, 1) := by decide +kernel
theorem dX4_plough_23 : decode cX4_plough 23 = .ok (.getfield 32, 3) := by decide +kernel
theorem dX4_plough_26 : decode cX4_plough 26 = .ok (.iload_n 1, 1) := by decide +kernel
theorem dX4_plough_27 : decode cX4_plough 27 = .ok (.iaload, 1) := by decide +kernel
theorem dX4_plough_28 : decode cX4_plough 28 = .ok (.istore_n 2, 1) := by decide +kernel
theorem dX4_plough_29 : decode cX4_plough 29 = .ok (.aload_n 0, 1) := by decide +kernel
theorem dX4_plough_30 : decode cX4_plough 30 = .ok (.getfield 32, 3) := by decide +kernel
theorem dX4_plough_33 : decode cX4_plough 33 = .ok (.iload_n 1, 1) := by decide +kernel
theorem dX4_plough_34 : decode cX4_plough 34 = .ok (.iconst 0, 1) := by decide +kernel
theorem dX4_plough_35 : decode cX4_plough 35 = .ok (.iastore, 1) := by decide +kernel
theorem dX4_plough_36 : decode cX4_plough 36 = .ok (.iload_n 2, 1) := by decide +kernel
theorem dX4_plough_37 : decode cX4_plough 37 = .ok (.ireturn, 1) := by decide +kernel
theorem dX4_flood_0 : decode cX4_flood 0 = .ok (.aload_n 0, 1) := by decide +kernel
theorem dX4_flood_1 : decode cX4_flood 1 = .ok (.iload_n 1, 1) := by decide +kernel
theorem dX4_flood_2 : decode cX4_flood 2 = .ok (.invokevirtual 109, 3) := by decide +kernel
theorem dX4_flood_5 : decode cX4_flood 5 = .ok (.istore_n 3, 1) := by decide +kernel
theorem dX4_flood_6 : decode cX4_flood 6 = .ok (.iload_n 2, 1) := by decide +kernel
theorem dX4_flood_7 : decode cX4_flood 7 = .ok (.iconst 1, 1) := by decide +kernel
theorem dX4_flood_8 : decode cX4_flood 8 = .ok (.bipush 100, 2) := by decide +kernel
theorem dX4_flood_10 : decode cX4_flood 10 = .ok (.invokestatic 94, 3) := by decide +kernel
theorem dX4_flood_13 : decode cX4_flood 13 = .ok (.istore 4, 2) := by decide +kernel
theorem dX4_flood_15 : decode cX4_flood 15 = .ok (.iload_n 3, 1) := by decide +kernel
theorem dX4_flood_16 : decode cX4_flood 16 = .ok (.ifCond .eq 50, 3) := by decide +kernel
theorem dX4_flood_19 : decode cX4_flood 19 = .ok (.iload 4, 2) := by decide +kernel
theorem dX4_flood_21 : decode cX4_flood 21 = .ok (.ifCond .eq 45, 3) := by decide +kernel
theorem dX4_flood_24 : decode cX4_flood 24 = .ok (.aload_n 0, 1) := by decide +kernel
theorem dX4_flood_25 : decode cX4_flood 25 = .ok (.iload_n 1, 1) := by decide +kernel
theorem dX4_flood_26 : decode cX4_flood 26 = .ok (.invokevirtual 112, 3) := by decide +kernel
theorem dX4_flood_29 : decode cX4_flood 29 = .ok (.ifCond .eq 37, 3) := by decide +kernel
theorem dX4_flood_32 : decode cX4_flood 32 = .ok (.aload_n 0, 1) := by decide +kernel
theorem dX4_flood_33 : decode cX4_flood 33 = .ok (.getfield 23, 3) := by decide +kernel
theorem dX4_flood_36 : decode cX4_flood 36 = .ok (.iload_n 1, 1) := by decide +kernel
theorem dX4_flood_37 : decode cX4_flood 37 = .ok (.iaload, 1) := by decide +kernel
theorem dX4_flood_38 : decode cX4_flood 38 = .ok (.aload_n 0, 1) := by decide +kernel
theorem dX4_flood_39 : decode cX4_flood 39 = .ok (.getfield 26, 3) := by decide +kernel
theorem dX4_flood_42 : decode cX4_flood 42 = .ok (.iload_n 1, 1) := by decide +kernel
theorem dX4_flood_43 : decode cX4_flood 43 = .ok (.iaload, 1) := by decide +kernel
theorem dX4_flood_44 : decode cX4_flood 44 = .ok (.iadd, 1) := by decide +kernel
theorem dX4_flood_45 : decode cX4_flood 45 = .ok (.ifCond .le 21, 3) := by decide +kernel
theorem dX4_flood_48 : decode cX4_flood 48 = .ok (.aload_n 0, 1) := by decide +kernel
theorem dX4_flood_49 : decode cX4_flood 49 = .ok (.getfield 29, 3) := by decide +kernel
theorem dX4_flood_52 : decode cX4_flood 52 = .ok (.iload_n 1, 1) := by decide +kernel
theorem dX4_flood_53 : decode cX4_flood 53 = .ok (.iaload, 1) := by decide +kernel
theorem dX4_flood_54 : decode cX4_flood 54 = .ok (.iload_n 2, 1) := by decide +kernel
theorem dX4_flood_55 : decode cX4_flood 55 = .ok (.iadd, 1) := by decide +kernel
theorem dX4_flood_56 : decode cX4_flood 56 = .ok (.sipush 500, 3) := by decide +kernel
theorem dX4_flood_59 : decode cX4_flood 59 = .ok (.if_icmp .gt 7, 3) := by decide +kernel
theorem dX4_flood_62 : decode cX4_flood 62 = .ok (.iconst 1, 1) := by decide +kernel
theorem dX4_flood_63 : decode cX4_flood 63 = .ok (.goto 4, 3) := by decide +kernel
theorem dX4_flood_66 : decode cX4_flood 66 = .ok (.iconst 0, 1) := by decide +kernel
theorem dX4_flood_67 : decode cX4_flood 67 = .ok (.istore 5, 2) := by decide +kernel
theorem dX4_flood_69 : decode cX4_flood 69 = .ok (.aload_n 0, 1) := by decide +kernel
theorem dX4_flood_70 : decode cX4_flood 70 = .ok (.iload_n 3, 1) := by decide +kernel
theorem dX4_flood_71 : decode cX4_flood 71 = .ok (.ifCond .ne 7, 3) := by decide +kernel
theorem dX4_flood_74 : decode cX4_flood 74 = .ok (.iconst 1, 1) := by decide +kernel
theorem dX4_flood_75 : decode cX4_flood 75 = .ok (.goto 22, 3) := by decide +kernel
theorem dX4_flood_78 : decode cX4_flood 78 = .ok (.iload 4, 2) := by decide +kernel
theorem dX4_flood_80 : decode cX4_flood 80 = .ok (.ifCond .ne 7, 3) := by decide +kernel
theorem dX4_flood_83 : decode cX4_flood 83 = .ok (.iconst 2, 1) := by decide +kernel
theorem dX4_flood_84 : decode cX4_flood 84 = .ok (.goto 13, 3) := by decide +kernel
theorem dX4_flood_87 : decode cX4_flood 87 = .ok (.iload 5, 2) := by decide +kernel
theorem dX4_flood_89 : decode cX4_flood 89 = .ok (.ifCond .eq 7, 3) := by decide +kernel
theorem dX4_flood_92 : decode cX4_flood 92 = .ok (.iconst 0, 1) := by decide +kernel
theorem dX4_flood_93 : decode cX4_flood 93 = .ok (.goto 4, 3) := by decide +kernel
theorem dX4_flood_96 : decode cX4_flood 96 = .ok (.iconst 3, 1) := by decide +kernel
theorem dX4_flood_97 : decode cX4_flood 97 = .ok (.invokevirtual 101, 3) := by decide +kernel
theorem dX4_flood_100 : decode cX4_flood 100 = .ok (.ifCond .eq 5, 3) := by decide +kernel
theorem dX4_flood_103 : decode cX4_flood 103 = .ok (.iconst 0, 1) := by decide +kernel
theorem dX4_flood_104 : decode cX4_flood 104 = .ok (.ireturn, 1) := by decide +kernel
theorem dX4_flood_105 : decode cX4_flood 105 = .ok (.aload_n 0, 1) := by decide +kernel
theorem dX4_flood_106 : decode cX4_flood 106 = .ok (.getfield 32, 3) := by decide +kernel
theorem dX4_flood_109 : decode cX4_flood 109 = .ok (.iload_n 1, 1) := by decide +kernel
theorem dX4_flood_110 : decode cX4_flood 110 = .ok (.iconst 0, 1) := by decide +kernel
theorem dX4_flood_111 : decode cX4_flood 111 = .ok (.iastore, 1) := by decide +kernel
theorem dX4_flood_112 : decode cX4_flood 112 = .ok (.aload_n 0, 1) := by decide +kernel
theorem dX4_flood_113 : decode cX4_flood 113 = .ok (.getfield 29, 3) := by decide +kernel
theorem dX4_flood_116 : decode cX4_flood 116 = .ok (.iload_n 1, 1) := by decide +kernel
theorem dX4_flood_117 : decode cX4_flood 117 = .ok (.dup2, 1) := by decide +kernel
theorem dX4_flood_118 : decode cX4_flood 118 = .ok (.iaload, 1) := by decide +kernel
theorem dX4_flood_119 : decode cX4_flood 119 = .ok (.iload_n 2, 1) := by decide +kernel
theorem dX4_flood_120 : decode cX4_flood 120 = .ok (.iadd, 1) := by decide +kernel
theorem dX4_flood_121 : decode cX4_flood 121 = .ok (.iastore, 1) := by decide +kernel
theorem dX4_flood_122 : decode cX4_flood 122 = .ok (.aload_n 0, 1) := by decide +kernel
theorem dX4_flood_123 : decode cX4_flood 123 = .ok (.getfield 29, 3) := by decide +kernel
theorem dX4_flood_126 : decode cX4_flood 126 = .ok (.iload_n 1, 1) := by decide +kernel
theorem dX4_flood_127 : decode cX4_flood 127 = .ok (.iaload, 1) := by decide +kernel
theorem dX4_flood_128 : decode cX4_flood 128 = .ok (.ireturn, 1) := by decide +kernel
theorem dX4_thick_0 : decode cX4_thick 0 = .ok (.aload_n 0, 1) := by decide +kernel
theorem dX4_thick_1 : decode cX4_thick 1 = .ok (.getfield 23, 3) := by decide +kernel
theorem dX4_thick_4 : decode cX4_thick 4 = .ok (.iload_n 1, 1) := by decide +kernel
theorem dX4_thick_5 : decode cX4_thick 5 = .ok (.iaload, 1) := by decide +kernel
theorem dX4_thick_6 : decode cX4_thick 6 = .ok (.i2d, 1) := by decide +kernel
theorem dX4_thick_7 : decode cX4_thick 7 = .ok (.ldc2_w 115, 3) := by decide +kernel
theorem dX4_thick_10 : decode cX4_thick 10 = .ok (.aload_n 0, 1) := by decide +kernel
theorem dX4_thick_11 : decode cX4_thick 11 = .ok (.getfield 26, 3) := by decide +kernel
theorem dX4_thick_14 : decode cX4_thick 14 = .ok (.iload_n 1, 1) := by decide +kernel
theorem dX4_thick_15 : decode cX4_thick 15 = .ok (.iaload, 1) := by decide +kernel
theorem dX4_thick_16 : decode cX4_thick 16 = .ok (.i2d, 1) := by decide +kernel
theorem dX4_thick_17 : decode cX4_thick 17 = .ok (.dmul, 1) := by decide +kernel
theorem dX4_thick_18 : decode cX4_thick 18 = .ok (.dadd, 1) := by decide +kernel
theorem dX4_thick_19 : decode cX4_thick 19 = .ok (.dreturn, 1) := by decide +kernel
theorem dX4_drill_0 : decode cX4_drill 0 = .ok (.aload_n 0, 1) := by decide +kernel
theorem dX4_drill_1 : decode cX4_drill 1 = .ok (.aload_n 0, 1) := by decide +kernel
theorem dX4_drill_2 : decode cX4_drill 2 = .ok (.iload_n 1, 1) := by decide +kernel
theorem dX4_drill_3 : decode cX4_drill 3 = .ok (.invokevirtual 109, 3) := by decide +kernel
theorem dX4_drill_6 : decode cX4_drill 6 = .ok (.ifCond .eq 7, 3) := by decide +kernel
theorem dX4_drill_9 : decode cX4_drill 9 = .ok (.iconst 0, 1) := by decide +kernel
theorem dX4_drill_10 : decode cX4_drill 10 = .ok (.goto 4, 3) := by decide +kernel
theorem dX4_drill_13 : decode cX4_drill 13 = .ok (.iconst 1, 1) := by decide +kernel
theorem dX4_drill_14 : decode cX4_drill 14 = .ok (.invokevirtual 101, 3) := by decide +kernel
theorem dX4_drill_17 : decode cX4_drill 17 = .ok (.ifCond .eq 5, 3) := by decide +kernel
theorem dX4_drill_20 : decode cX4_drill 20 = .ok (.dconst 0, 1) := by decide +kernel
theorem dX4_drill_21 : decode cX4_drill 21 = .ok (.dreturn, 1) := by decide +kernel
theorem dX4_drill_22 : decode cX4_drill 22 = .ok (.aload_n 0, 1) := by decide +kernel
theorem dX4_drill_23 : decode cX4_drill 23 = .ok (.getfield 44, 3) := by decide +kernel
theorem dX4_drill_26 : decode cX4_drill 26 = .ok (.iload_n 1, 1) := by decide +kernel
theorem dX4_drill_27 : decode cX4_drill 27 = .ok (.aload_n 0, 1) := by decide +kernel
theorem dX4_drill_28 : decode cX4_drill 28 = .ok (.iload_n 1, 1) := by decide +kernel
theorem dX4_drill_29 : decode cX4_drill 29 = .ok (.invokevirtual 117, 3) := by decide +kernel
theorem dX4_drill_32 : decode cX4_drill 32 = .ok (.dastore, 1) := by decide +kernel
theorem dX4_drill_33 : decode cX4_drill 33 = .ok (.aload_n 0, 1) := by decide +kernel
theorem dX4_drill_34 : decode cX4_drill 34 = .ok (.getfield 44, 3) := by decide +kernel
theorem dX4_drill_37 : decode cX4_drill 37 = .ok (.iload_n 1, 1) := by decide +kernel
theorem dX4_drill_38 : decode cX4_drill 38 = .ok (.daload, 1) := by decide +kernel
theorem dX4_drill_39 : decode cX4_drill 39 = .ok (.dreturn, 1) := by decide +kernel
theorem dX4_open_0 : decode cX4_open 0 = .ok (.aload_n 0, 1) := by decide +kernel
theorem dX4_open_1 : decode cX4_open 1 = .ok (.aload_n 0, 1) := by decide +kernel
theorem dX4_open_2 : decode cX4_open 2 = .ok (.iload_n 1, 1) := by decide +kernel
theorem dX4_open_3 : decode cX4_open 3 = .ok (.invokevirtual 109, 3) := by decide +kernel
theorem dX4_open_6 : decode cX4_open 6 = .ok (.ifCond .ne 7, 3) := by decide +kernel
theorem dX4_open_9 : decode cX4_open 9 = .ok (.iconst 1, 1) := by decide +kernel
theorem dX4_open_10 : decode cX4_open 10 = .ok (.goto 17, 3) := by decide +kernel
theorem dX4_open_13 : decode cX4_open 13 = .ok (.iload_n 2, 1) := by decide +kernel
theorem dX4_open_14 : decode cX4_open 14 = .ok (.iconst 0, 1) := by decide +kernel
theorem dX4_open_15 : decode cX4_open 15 = .ok (.iconst 2, 1) := by decide +kernel
theorem dX4_open_16 : decode cX4_open 16 = .ok (.invokestatic 94, 3) := by decide +kernel
theorem dX4_open_19 : decode cX4_open 19 = .ok (.ifCond .eq 7, 3) := by decide +kernel
theorem dX4_open_22 : decode cX4_open 22 = .ok (.iconst 0, 1) := by decide +kernel
theorem dX4_open_23 : decode cX4_open 23 = .ok (.goto 4, 3) := by decide +kernel
theorem dX4_open_26 : decode cX4_open 26 = .ok (.iconst 2, 1) := by decide +kernel
theorem dX4_open_27 : decode cX4_open 27 = .ok (.invokevirtual 101, 3) := by decide +kernel
theorem dX4_open_30 : decode cX4_open 30 = .ok (.ifCond .eq 5, 3) := by decide +kernel
theorem dX4_open_33 : decode cX4_open 33 = .ok (.iconst 0, 1) := by decide +kernel
theorem dX4_open_34 : decode cX4_open 34 = .ok (.ireturn, 1) := by decide +kernel
theorem dX4_open_35 : decode cX4_open 35 = .ok (.aload_n 0, 1) := by decide +kernel
theorem dX4_open_36 : decode cX4_open 36 = .ok (.getfield 38, 3) := by decide +kernel
theorem dX4_open_39 : decode cX4_open 39 = .ok (.iload_n 1, 1) := by decide +kernel
theorem dX4_open_40 : decode cX4_open 40 = .ok (.iaload, 1) := by decide +kernel
theorem dX4_open_41 : decode cX4_open 41 = .ok (.istore_n 3, 1) := by decide +kernel
theorem dX4_open_42 : decode cX4_open 42 = .ok (.aload_n 0, 1) := by decide +kernel
theorem dX4_open_43 : decode cX4_open 43 = .ok (.getfield 38, 3) := by decide +kernel
theorem dX4_open_46 : decode cX4_open 46 = .ok (.iload_n 1, 1) := by decide +kernel
theorem dX4_open_47 : decode cX4_open 47 = .ok (.iload_n 2, 1) := by decide +kernel
theorem dX4_open_48 : decode cX4_open 48 = .ok (.iastore, 1) := by decide +kernel
theorem dX4_open_49 : decode cX4_open 49 = .ok (.iload_n 3, 1) := by decide +kernel
theorem dX4_open_50 : decode cX4_open 50 = .ok (.ireturn, 1) := by decide +kernel
theorem dX4_limit_0 : decode cX4_limit 0 = .ok (.aload_n 0, 1) := by decide +kernel
theorem dX4_limit_1 : decode cX4_limit 1 = .ok (.aload_n 0, 1) := by decide +kernel
theorem dX4_limit_2 : decode cX4_limit 2 = .ok (.iload_n 1, 1) := by decide +kernel
theorem dX4_limit_3 : decode cX4_limit 3 = .ok (.invokevirtual 109, 3) := by decide +kernel
theorem dX4_limit_6 : decode cX4_limit 6 = .ok (.ifCond .ne 7, 3) := by decide +kernel
theorem dX4_limit_9 : decode cX4_limit 9 = .ok (.iconst 1, 1) := by decide +kernel
theorem dX4_limit_10 : decode cX4_limit 10 = .ok (.goto 19, 3) := by decide +kernel
theorem dX4_limit_13 : decode cX4_limit 13 = .ok (.iload_n 2, 1) := by decide +kernel
theorem dX4_limit_14 : decode cX4_limit 14 = .ok (.iconst 1, 1) := by decide +kernel
theorem dX4_limit_15 : decode cX4_limit 15 = .ok (.sipush 300, 3) := by decide +kernel
theorem dX4_limit_18 : decode cX4_limit 18 = .ok (.invokestatic 94, 3) := by decide +kernel
theorem dX4_limit_21 : decode cX4_limit 21 = .ok (.ifCond .eq 7, 3) := by decide +kernel
theorem dX4_limit_24 : decode cX4_limit 24 = .ok (.iconst 0, 1) := by decide +kernel
theorem dX4_limit_25 : decode cX4_limit 25 = .ok (.goto 4, 3) := by decide +kernel
theorem dX4_limit_28 : decode cX4_limit 28 = .ok (.iconst 2, 1) := by decide +kernel
theorem dX4_limit_29 : decode cX4_limit 29 = .ok (.invokevirtual 101, 3) := by decide +kernel
theorem dX4_limit_32 : decode cX4_limit 32 = .ok (.ifCond .eq 5, 3) := by decide +kernel
theorem dX4_limit_35 : decode cX4_limit 35 = .ok (.iconst 0, 1) := by decide +kernel
theorem dX4_limit_36 : decode cX4_limit 36 = .ok (.ireturn, 1) := by decide +kernel
theorem dX4_limit_37 : decode cX4_limit 37 = .ok (.aload_n 0, 1) := by decide +kernel
theorem dX4_limit_38 : decode cX4_limit 38 = .ok (.getfield 41, 3) := by decide +kernel
theorem dX4_limit_41 : decode cX4_limit 41 = .ok (.iload_n 1, 1) := by decide +kernel
theorem dX4_limit_42 : decode cX4_limit 42 = .ok (.iaload, 1) := by decide +kernel
theorem dX4_limit_43 : decode cX4_limit 43 = .ok (.istore_n 3, 1) := by decide +kernel
theorem dX4_limit_44 : decode cX4_limit 44 = .ok (.aload_n 0, 1) := by decide +kernel
theorem dX4_limit_45 : decode cX4_limit 45 = .ok (.getfield 41, 3) := by decide +kernel
theorem dX4_limit_48 : decode cX4_limit 48 = .ok (.iload_n 1, 1) := by decide +kernel
theorem dX4_limit_49 : decode cX4_limit 49 = .ok (.iload_n 2, 1) := by decide +kernel
theorem dX4_limit_50 : decode cX4_limit 50 = .ok (.iastore, 1) := by decide +kernel
theorem dX4_limit_51 : decode cX4_limit 51 = .ok (.iload_n 3, 1) := by decide +kernel
theorem dX4_limit_52 : decode cX4_limit 52 = .ok (.ireturn, 1) := by decide +kernel
theorem dX4_gap_0 : decode cX4_gap 0 = .ok (.aload_n 0, 1) := by decide +kernel
theorem dX4_gap_1 : decode cX4_gap 1 = .ok (.iload_n 1, 1) := by decide +kernel
theorem dX4_gap_2 : decode cX4_gap 2 = .ok (.iconst 0, 1) := by decide +kernel
theorem dX4_gap_3 : decode cX4_gap 3 = .ok (.bipush 120, 2) := by decide +kernel
theorem dX4_gap_5 : decode cX4_gap 5 = .ok (.invokestatic 94, 3) := by decide +kernel
theorem dX4_gap_8 : decode cX4_gap 8 = .ok (.ifCond .eq 7, 3) := by decide +kernel
theorem dX4_gap_11 : decode cX4_gap 11 = .ok (.iconst 0, 1) := by decide +kernel
theorem dX4_gap_12 : decode cX4_gap 12 = .ok (.goto 4, 3) := by decide +kernel
theorem dX4_gap_15 : decode cX4_gap 15 = .ok (.iconst 1, 1) := by decide +kernel
theorem dX4_gap_16 : decode cX4_gap 16 = .ok (.invokevirtual 101, 3) := by decide +kernel
theorem dX4_gap_19 : decode cX4_gap 19 = .ok (.ifCond .eq 5, 3) := by decide +kernel
theorem dX4_gap_22 : decode cX4_gap 22 = .ok (.iconst 0, 1) := by decide +kernel
theorem dX4_gap_23 : decode cX4_gap 23 = .ok (.ireturn, 1) := by decide +kernel
theorem dX4_gap_24 : decode cX4_gap 24 = .ok (.aload_n 0, 1) := by decide +kernel
theorem dX4_gap_25 : decode cX4_gap 25 = .ok (.getfield 7, 3) := by decide +kernel
theorem dX4_gap_28 : decode cX4_gap 28 = .ok (.istore_n 2, 1) := by decide +kernel
theorem dX4_gap_29 : decode cX4_gap 29 = .ok (.aload_n 0, 1) := by decide +kernel
theorem dX4_gap_30 : decode cX4_gap 30 = .ok (.iload_n 1, 1) := by decide +kernel
theorem dX4_gap_31 : decode cX4_gap 31 = .ok (.putfield 7, 3) := by decide +kernel
theorem dX4_gap_34 : decode cX4_gap 34 = .ok (.iload_n 2, 1) := by decide +kernel
theorem dX4_gap_35 : decode cX4_gap 35 = .ok (.ireturn, 1) := by decide +kernel
theorem dX4_vehicle_0 : decode cX4_vehicle 0 = .ok (.iload_n 1, 1) := by decide +kernel
theorem dX4_vehicle_1 : decode cX4_vehicle 1 = .ok (.sipush 500, 3) := by decide +kernel
theorem dX4_vehicle_4 : decode cX4_vehicle 4 = .ok (.ldc 121, 2) := by decide +kernel
theorem dX4_vehicle_6 : decode cX4_vehicle 6 = .ok (.invokestatic 94, 3) := by decide +kernel
theorem dX4_vehicle_9 : decode cX4_vehicle 9 = .ok (.ifCond .eq 28, 3) := by decide +kernel
theorem dX4_vehicle_12 : decode cX4_vehicle 12 = .ok (.iload_n 2, 1) := by decide +kernel
theorem dX4_vehicle_13 : decode cX4_vehicle 13 = .ok (.iconst 0, 1) := by decide +kernel
theorem dX4_vehicle_14 : decode cX4_vehicle 14 = .ok (.ldc 122, 2) := by decide +kernel
theorem dX4_vehicle_16 : decode cX4_vehicle 16 = .ok (.invokestatic 94, 3) := by decide +kernel
theorem dX4_vehicle_19 : decode cX4_vehicle 19 = .ok (.ifCond .eq 18, 3) := by decide +kernel
theorem dX4_vehicle_22 : decode cX4_vehicle 22 = .ok (.iload_n 3, 1) := by decide +kernel
theorem dX4_vehicle_23 : decode cX4_vehicle 23 = .ok (.iconst 1, 1) := by decide +kernel
theorem dX4_vehicle_24 : decode cX4_vehicle 24 = .ok (.sipush 300, 3) := by decide +kernel
theorem dX4_vehicle_27 : decode cX4_vehicle 27 = .ok (.invokestatic 94, 3) := by decide +kernel
theorem dX4_vehicle_30 : decode cX4_vehicle 30 = .ok (.ifCond .eq 7, 3) := by decide +kernel
theorem dX4_vehicle_33 : decode cX4_vehicle 33 = .ok (.iconst 1, 1) := by decide +kernel
theorem dX4_vehicle_34 : decode cX4_vehicle 34 = .ok (.goto 4, 3) := by decide +kernel
theorem dX4_vehicle_37 : decode cX4_vehicle 37 = .ok (.iconst 0, 1) := by decide +kernel
theorem dX4_vehicle_38 : decode cX4_vehicle 38 = .ok (.istore 4, 2) := by decide +kernel
theorem dX4_vehicle_40 : decode cX4_vehicle 40 = .ok (.aload_n 0, 1) := by decide +kernel
theorem dX4_vehicle_41 : decode cX4_vehicle 41 = .ok (.iload 4, 2) := by decide +kernel
theorem dX4_vehicle_43 : decode cX4_vehicle 43 = .ok (.ifCond .ne 7, 3) := by decide +kernel
theorem dX4_vehicle_46 : decode cX4_vehicle 46 = .ok (.iconst 1, 1) := by decide +kernel
theorem dX4_vehicle_47 : decode cX4_vehicle 47 = .ok (.goto 24, 3) := by decide +kernel
theorem dX4_vehicle_50 : decode cX4_vehicle 50 = .ok (.aload_n 0, 1) := by decide +kernel
theorem dX4_vehicle_51 : decode cX4_vehicle 51 = .ok (.getfield 98, 3) := by decide +kernel
theorem dX4_vehicle_54 : decode cX4_vehicle 54 = .ok (.bipush 16, 2) := by decide +kernel
theorem dX4_vehicle_56 : decode cX4_vehicle 56 = .ok (.if_icmp .eq 10, 3) := by decide +kernel
theorem dX4_vehicle_59 : decode cX4_vehicle 59 = .ok (.aload_n 0, 1) := by decide +kernel
theorem dX4_vehicle_60 : decode cX4_vehicle 60 = .ok (.getfield 91, 3) := by decide +kernel
theorem dX4_vehicle_63 : decode cX4_vehicle 63 = .ok (.ifCond .ne 7, 3) := by decide +kernel
theorem dX4_vehicle_66 : decode cX4_vehicle 66 = .ok (.iconst 2, 1) := by decide +kernel
theorem dX4_vehicle_67 : decode cX4_vehicle 67 = .ok (.goto 4, 3) := by decide +kernel
theorem dX4_vehicle_70 : decode cX4_vehicle 70 = .ok (.iconst 0, 1) := by decide +kernel
theorem dX4_vehicle_71 : decode cX4_vehicle 71 = .ok (.invokevirtual 101, 3) := by decide +kernel
theorem dX4_vehicle_74 : decode cX4_vehicle 74 = .ok (.ifCond .eq 5, 3) := by decide +kernel
theorem dX4_vehicle_77 : decode cX4_vehicle 77 = .ok (.iconst 0, 1) := by decide +kernel
theorem dX4_vehicle_78 : decode cX4_vehicle 78 = .ok (.ireturn, 1) := by decide +kernel
theorem dX4_vehicle_79 : decode cX4_vehicle 79 = .ok (.aload_n 0, 1) := by decide +kernel
theorem dX4_vehicle_80 : decode cX4_vehicle 80 = .ok (.getfield 51, 3) := by decide +kernel
theorem dX4_vehicle_83 : decode cX4_vehicle 83 = .ok (.aload_n 0, 1) := by decide +kernel
theorem dX4_vehicle_84 : decode cX4_vehicle 84 = .ok (.getfield 98, 3) := by decide +kernel
theorem dX4_vehicle_87 : decode cX4_vehicle 87 = .ok (.iload_n 1, 1) := by decide +kernel
theorem dX4_vehicle_88 : decode cX4_vehicle 88 = .ok (.iastore, 1) := by decide +kernel
theorem dX4_vehicle_89 : decode cX4_vehicle 89 = .ok (.aload_n 0, 1) := by decide +kernel
theorem dX4_vehicle_90 : decode cX4_vehicle 90 = .ok (.getfield 54, 3) := by decide +kernel
theorem dX4_vehicle_93 : decode cX4_vehicle 93 = .ok (.aload_n 0, 1) := by decide +kernel
theorem dX4_vehicle_94 : decode cX4_vehicle 94 = .ok (.getfield 98, 3) := by decide +kernel
theorem dX4_vehicle_97 : decode cX4_vehicle 97 = .ok (.iload_n 2, 1) := by decide +kernel
theorem dX4_vehicle_98 : decode cX4_vehicle 98 = .ok (.iastore, 1) := by decide +kernel
theorem dX4_vehicle_99 : decode cX4_vehicle 99 = .ok (.aload_n 0, 1) := by decide +kernel
theorem dX4_vehicle_100 : decode cX4_vehicle 100 = .ok (.getfield 57, 3) := by decide +kernel
theorem dX4_vehicle_103 : decode cX4_vehicle 103 = .ok (.aload_n 0, 1) := by decide +kernel
theorem dX4_vehicle_104 : decode cX4_vehicle 104 = .ok (.getfield 98, 3) := by decide +kernel
theorem dX4_vehicle_107 : decode cX4_vehicle 107 = .ok (.iload_n 3, 1) := by decide +kernel
theorem dX4_vehicle_108 : decode cX4_vehicle 108 = .ok (.iastore, 1) := by decide +kernel
theorem dX4_vehicle_109 : decode cX4_vehicle 109 = .ok (.aload_n 0, 1) := by decide +kernel
theorem dX4_vehicle_110 : decode cX4_vehicle 110 = .ok (.getfield 76, 3) := by decide +kernel
theorem dX4_vehicle_113 : decode cX4_vehicle 113 = .ok (.aload_n 0, 1) := by decide +kernel
theorem dX4_vehicle_114 : decode cX4_vehicle 114 = .ok (.getfield 98, 3) := by decide +kernel
theorem dX4_vehicle_117 : decode cX4_vehicle 117 = .ok (.iconst (-1), 1) := by decide +kernel
theorem dX4_vehicle_118 : decode cX4_vehicle 118 = .ok (.iastore, 1) := by decide +kernel
theorem dX4_vehicle_119 : decode cX4_vehicle 119 = .ok (.aload_n 0, 1) := by decide +kernel
theorem dX4_vehicle_120 : decode cX4_vehicle 120 = .ok (.dup, 1) := by decide +kernel
theorem dX4_vehicle_121 : decode cX4_vehicle 121 = .ok (.getfield 98, 3) := by decide +kernel
theorem dX4_vehicle_124 : decode cX4_vehicle 124 = .ok (.iconst 1, 1) := by decide +kernel
theorem dX4_vehicle_125 : decode cX4_vehicle 125 = .ok (.iadd, 1) := by decide +kernel
theorem dX4_vehicle_126 : decode cX4_vehicle 126 = .ok (.putfield 98, 3) := by decide +kernel
theorem dX4_vehicle_129 : decode cX4_vehicle 129 = .ok (.aload_n 0, 1) := by decide +kernel
theorem dX4_vehicle_130 : decode cX4_vehicle 130 = .ok (.getfield 98, 3) := by decide +kernel
theorem dX4_vehicle_133 : decode cX4_vehicle 133 = .ok (.iconst 1, 1) := by decide +kernel
theorem dX4_vehicle_134 : decode cX4_vehicle 134 = .ok (.isub, 1) := by decide +kernel
theorem dX4_vehicle_135 : decode cX4_vehicle 135 = .ok (.ireturn, 1) := by decide +kernel
theorem dX4_weight_0 : decode cX4_weight 0 = .ok (.aload_n 0, 1) := by decide +kernel
theorem dX4_weight_1 : decode cX4_weight 1 = .ok (.getfield 51, 3) := by decide +kernel
theorem dX4_weight_4 : decode cX4_weight 4 = .ok (.iload_n 1, 1) := by decide +kernel
theorem dX4_weight_5 : decode cX4_weight 5 = .ok (.iaload, 1) := by decide +kernel
theorem dX4_weight_6 : decode cX4_weight 6 = .ok (.aload_n 0, 1) := by decide +kernel
theorem dX4_weight_7 : decode cX4_weight 7 = .ok (.getfield 73, 3) := by decide +kernel
theorem dX4_weight_10 : decode cX4_weight 10 = .ok (.iload_n 1, 1) := by decide +kernel
theorem dX4_weight_11 : decode cX4_weight 11 = .ok (.iaload, 1) := by decide +kernel
theorem dX4_weight_12 : decode cX4_weight 12 = .ok (.iadd, 1) := by decide +kernel
theorem dX4_weight_13 : decode cX4_weight 13 = .ok (.ireturn, 1) := by decide +kernel
theorem dX4_load_0 : decode cX4_load 0 = .ok (.aload_n 0, 1) := by decide +kernel
theorem dX4_load_1 : decode cX4_load 1 = .ok (.iload_n 1, 1) := by decide +kernel
theorem dX4_load_2 : decode cX4_load 2 = .ok (.invokevirtual 123, 3) := by decide +kernel
theorem dX4_load_5 : decode cX4_load 5 = .ok (.ifCond .eq 14, 3) := by decide +kernel
theorem dX4_load_8 : decode cX4_load 8 = .ok (.iload_n 2, 1) := by decide +kernel
theorem dX4_load_9 : decode cX4_load 9 = .ok (.invokestatic 126, 3) := by decide +kernel
theorem dX4_load_12 : decode cX4_load 12 = .ok (.ifCond .eq 7, 3) := by decide +kernel
theorem dX4_load_15 : decode cX4_load 15 = .ok (.iconst 1, 1) := by decide +kernel
theorem dX4_load_16 : decode cX4_load 16 = .ok (.goto 4, 3) := by decide +kernel
theorem dX4_load_19 : decode cX4_load 19 = .ok (.iconst 0, 1) := by decide +kernel
theorem dX4_load_20 : decode cX4_load 20 = .ok (.istore 4, 2) := by decide +kernel
theorem dX4_load_22 : decode cX4_load 22 = .ok (.iload 4, 2) := by decide +kernel
theorem dX4_load_24 : decode cX4_load 24 = .ok (.ifCond .eq 21, 3) := by decide +kernel
theorem dX4_load_27 : decode cX4_load 27 = .ok (.iload_n 3, 1) := by decide +kernel
theorem dX4_load_28 : decode cX4_load 28 = .ok (.iconst 1, 1) := by decide +kernel
theorem dX4_load_29 : decode cX4_load 29 = .ok (.aload_n 0, 1) := by decide +kernel
theorem dX4_load_30 : decode cX4_load 30 = .ok (.getfield 54, 3) := by decide +kernel
theorem dX4_load_33 : decode cX4_load 33 = .ok (.iload_n 1, 1) := by decide +kernel
theorem dX4_load_34 : decode cX4_load 34 = .ok (.iaload, 1) := by decide +kernel
theorem dX4_load_35 : decode cX4_load 35 = .ok (.invokestatic 94, 3) := by decide +kernel
theorem dX4_load_38 : decode cX4_load 38 = .ok (.ifCond .eq 7, 3) := by decide +kernel
theorem dX4_load_41 : decode cX4_load 41 = .ok (.iconst 1, 1) := by decide +kernel
theorem dX4_load_42 : decode cX4_load 42 = .ok (.goto 4, 3) := by decide +kernel
theorem dX4_load_45 : decode cX4_load 45 = .ok (.iconst 0, 1) := by decide +kernel
theorem dX4_load_46 : decode cX4_load 46 = .ok (.istore 5, 2) := by decide +kernel
theorem dX4_load_48 : decode cX4_load 48 = .ok (.aload_n 0, 1) := by decide +kernel
theorem dX4_load_49 : decode cX4_load 49 = .ok (.iload 4, 2) := by decide +kernel
theorem dX4_load_51 : decode cX4_load 51 = .ok (.ifCond .ne 7, 3) := by decide +kernel
theorem dX4_load_54 : decode cX4_load 54 = .ok (.iconst 1, 1) := by decide +kernel
theorem dX4_load_55 : decode cX4_load 55 = .ok (.goto 35, 3) := by decide +kernel
theorem dX4_load_58 : decode cX4_load 58 = .ok (.iload 5, 2) := by decide +kernel
theorem dX4_load_60 : decode cX4_load 60 = .ok (.ifCond .ne 7, 3) := by decide +kernel
theorem dX4_load_63 : decode cX4_load 63 = .ok (.iconst 2, 1) := by decide +kernel
theorem dX4_load_64 : decode cX4_load 64 = .ok (.goto 26, 3) := by decide +kernel
theorem dX4_load_67 : decode cX4_load 67 = .ok (.aload_n 0, 1) := by decide +kernel
theorem dX4_load_68 : decode cX4_load 68 = .ok (.getfield 60, 3) := by decide +kernel
theorem dX4_load_71 : decode cX4_load 71 = .ok (.iload_n 1, 1) := by decide +kernel
theorem dX4_load_72 : decode cX4_load 72 = .ok (.iaload, 1) := by decide +kernel
theorem dX4_load_73 : decode cX4_load 73 = .ok (.ifCond .ne 12, 3) := by decide +kernel
theorem dX4_load_76 : decode cX4_load 76 = .ok (.aload_n 0, 1) := by decide +kernel
theorem dX4_load_77 : decode cX4_load 77 = .ok (.getfield 73, 3) := by decide +kernel
theorem dX4_load_80 : decode cX4_load 80 = .ok (.iload_n 1, 1) := by decide +kernel
theorem dX4_load_81 : decode cX4_load 81 = .ok (.iaload, 1) := by decide +kernel
theorem dX4_load_82 : decode cX4_load 82 = .ok (.ifCond .le 7, 3) := by decide +kernel
theorem dX4_load_85 : decode cX4_load 85 = .ok (.iconst 3, 1) := by decide +kernel
theorem dX4_load_86 : decode cX4_load 86 = .ok (.goto 4, 3) := by decide +kernel
theorem dX4_load_89 : decode cX4_load 89 = .ok (.iconst 0, 1) := by decide +kernel
theorem dX4_load_90 : decode cX4_load 90 = .ok (.invokevirtual 101, 3) := by decide +kernel
theorem dX4_load_93 : decode cX4_load 93 = .ok (.ifCond .eq 5, 3) := by decide +kernel
theorem dX4_load_96 : decode cX4_load 96 = .ok (.iconst 0, 1) := by decide +kernel
theorem dX4_load_97 : decode cX4_load 97 = .ok (.ireturn, 1) := by decide +kernel
theorem dX4_load_98 : decode cX4_load 98 = .ok (.aload_n 0, 1) := by decide +kernel
theorem dX4_load_99 : decode cX4_load 99 = .ok (.getfield 73, 3) := by decide +kernel
theorem dX4_load_102 : decode cX4_load 102 = .ok (.iload_n 1, 1) := by decide +kernel
theorem dX4_load_103 : decode cX4_load 103 = .ok (.iload_n 3, 1) := by decide +kernel
theorem dX4_load_104 : decode cX4_load 104 = .ok (.iastore, 1) := by decide +kernel
theorem dX4_load_105 : decode cX4_load 105 = .ok (.aload_n 0, 1) := by decide +kernel
theorem dX4_load_106 : decode cX4_load 106 = .ok (.getfield 76, 3) := by decide +kernel
theorem dX4_load_109 : decode cX4_load 109 = .ok (.iload_n 1, 1) := by decide +kernel
theorem dX4_load_110 : decode cX4_load 110 = .ok (.iload_n 2, 1) := by decide +kernel
theorem dX4_load_111 : decode cX4_load 111 = .ok (.iastore, 1) := by decide +kernel
theorem dX4_load_112 : decode cX4_load 112 = .ok (.aload_n 0, 1) := by decide +kernel
theorem dX4_load_113 : decode cX4_load 113 = .ok (.getfield 79, 3) := by decide +kernel
theorem dX4_load_116 : decode cX4_load 116 = .ok (.iload_n 2, 1) := by decide +kernel
theorem dX4_load_117 : decode cX4_load 117 = .ok (.dup2, 1) := by decide +kernel
theorem dX4_load_118 : decode cX4_load 118 = .ok (.iaload, 1) := by decide +kernel
theorem dX4_load_119 : decode cX4_load 119 = .ok (.iload_n 3, 1) := by decide +kernel
theorem dX4_load_120 : decode cX4_load 120 = .ok (.iadd, 1) := by decide +kernel
theorem dX4_load_121 : decode cX4_load 121 = .ok (.iastore, 1) := by decide +kernel
theorem dX4_load_122 : decode cX4_load 122 = .ok (.aload_n 0, 1) := by decide +kernel
theorem dX4_load_123 : decode cX4_load 123 = .ok (.iload_n 1, 1) := by decide +kernel
theorem dX4_load_124 : decode cX4_load 124 = .ok (.invokevirtual 129, 3) := by decide +kernel
theorem dX4_load_127 : decode cX4_load 127 = .ok (.ireturn, 1) := by decide +kernel
theorem dX4_unloads_0 : decode cX4_unloads 0 = .ok (.aload_n 0, 1) := by decide +kernel
theorem dX4_unloads_1 : decode cX4_unloads 1 = .ok (.getfield 73, 3) := by decide +kernel
theorem dX4_unloads_4 : decode cX4_unloads 4 = .ok (.iload_n 1, 1) := by decide +kernel
theorem dX4_unloads_5 : decode cX4_unloads 5 = .ok (.iaload, 1) := by decide +kernel
theorem dX4_unloads_6 : decode cX4_unloads 6 = .ok (.ifCond .le 59, 3) := by decide +kernel
theorem dX4_unloads_9 : decode cX4_unloads 9 = .ok (.aload_n 0, 1) := by decide +kernel
theorem dX4_unloads_10 : decode cX4_unloads 10 = .ok (.getfield 82, 3) := by decide +kernel
theorem dX4_unloads_13 : decode cX4_unloads 13 = .ok (.aload_n 0, 1) := by decide +kernel
theorem dX4_unloads_14 : decode cX4_unloads 14 = .ok (.getfield 76, 3) := by decide +kernel
theorem dX4_unloads_17 : decode cX4_unloads 17 = .ok (.iload_n 1, 1) := by decide +kernel
theorem dX4_unloads_18 : decode cX4_unloads 18 = .ok (.iaload, 1) := by decide +kernel
theorem dX4_unloads_19 : decode cX4_unloads 19 = .ok (.dup2, 1) := by decide +kernel
theorem dX4_unloads_20 : decode cX4_unloads 20 = .ok (.iaload, 1) := by decide +kernel
theorem dX4_unloads_21 : decode cX4_unloads 21 = .ok (.iload_n 2, 1) := by decide +kernel
theorem dX4_unloads_22 : decode cX4_unloads 22 = .ok (.ifCond .eq 12, 3) := by decide +kernel
theorem dX4_unloads_25 : decode cX4_unloads 25 = .ok (.aload_n 0, 1) := by decide +kernel
theorem dX4_unloads_26 : decode cX4_unloads 26 = .ok (.getfield 73, 3) := by decide +kernel
theorem dX4_unloads_29 : decode cX4_unloads 29 = .ok (.iload_n 1, 1) := by decide +kernel
theorem dX4_unloads_30 : decode cX4_unloads 30 = .ok (.iaload, 1) := by decide +kernel
theorem dX4_unloads_31 : decode cX4_unloads 31 = .ok (.goto 4, 3) := by decide +kernel
theorem dX4_unloads_34 : decode cX4_unloads 34 = .ok (.iconst 0, 1) := by decide +kernel
theorem dX4_unloads_35 : decode cX4_unloads 35 = .ok (.iadd, 1) := by decide +kernel
theorem dX4_unloads_36 : decode cX4_unloads 36 = .ok (.iastore, 1) := by decide +kernel
theorem dX4_unloads_37 : decode cX4_unloads 37 = .ok (.aload_n 0, 1) := by decide +kernel
theorem dX4_unloads_38 : decode cX4_unloads 38 = .ok (.getfield 79, 3) := by decide +kernel
theorem dX4_unloads_41 : decode cX4_unloads 41 = .ok (.aload_n 0, 1) := by decide +kernel
theorem dX4_unloads_42 : decode cX4_unloads 42 = .ok (.getfield 76, 3) := by decide +kernel
theorem dX4_unloads_45 : decode cX4_unloads 45 = .ok (.iload_n 1, 1) := by decide +kernel
theorem dX4_unloads_46 : decode cX4_unloads 46 = .ok (.iaload, 1) := by decide +kernel
theorem dX4_unloads_47 : decode cX4_unloads 47 = .ok (.dup2, 1) := by decide +kernel
theorem dX4_unloads_48 : decode cX4_unloads 48 = .ok (.iaload, 1) := by decide +kernel
theorem dX4_unloads_49 : decode cX4_unloads 49 = .ok (.iload_n 2, 1) := by decide +kernel
theorem dX4_unloads_50 : decode cX4_unloads 50 = .ok (.ifCond .eq 7, 3) := by decide +kernel
theorem dX4_unloads_53 : decode cX4_unloads 53 = .ok (.iconst 0, 1) := by decide +kernel
theorem dX4_unloads_54 : decode cX4_unloads 54 = .ok (.goto 9, 3) := by decide +kernel
theorem dX4_unloads_57 : decode cX4_unloads 57 = .ok (.aload_n 0, 1) := by decide +kernel
theorem dX4_unloads_58 : decode cX4_unloads 58 = .ok (.getfield 73, 3) := by decide +kernel
theorem dX4_unloads_61 : decode cX4_unloads 61 = .ok (.iload_n 1, 1) := by decide +kernel
theorem dX4_unloads_62 : decode cX4_unloads 62 = .ok (.iaload, 1) := by decide +kernel
theorem dX4_unloads_63 : decode cX4_unloads 63 = .ok (.isub, 1) := by decide +kernel
theorem dX4_unloads_64 : decode cX4_unloads 64 = .ok (.iastore, 1) := by decide +kernel
theorem dX4_unloads_65 : decode cX4_unloads 65 = .ok (.aload_n 0, 1) := by decide +kernel
theorem dX4_unloads_66 : decode cX4_unloads 66 = .ok (.getfield 73, 3) := by decide +kernel
theorem dX4_unloads_69 : decode cX4_unloads 69 = .ok (.iload_n 1, 1) := by decide +kernel
theorem dX4_unloads_70 : decode cX4_unloads 70 = .ok (.iconst 0, 1) := by decide +kernel
theorem dX4_unloads_71 : decode cX4_unloads 71 = .ok (.iastore, 1) := by decide +kernel
theorem dX4_unloads_72 : decode cX4_unloads 72 = .ok (.aload_n 0, 1) := by decide +kernel
theorem dX4_unloads_73 : decode cX4_unloads 73 = .ok (.getfield 76, 3) := by decide +kernel
theorem dX4_unloads_76 : decode cX4_unloads 76 = .ok (.iload_n 1, 1) := by decide +kernel
theorem dX4_unloads_77 : decode cX4_unloads 77 = .ok (.iconst (-1), 1) := by decide +kernel
theorem dX4_unloads_78 : decode cX4_unloads 78 = .ok (.iastore, 1) := by decide +kernel
theorem dX4_unloads_79 : decode cX4_unloads 79 = .ok (.return_, 1) := by decide +kernel
theorem dX4_go_0 : decode cX4_go 0 = .ok (.aload_n 0, 1) := by decide +kernel
theorem dX4_go_1 : decode cX4_go 1 = .ok (.iload_n 1, 1) := by decide +kernel
theorem dX4_go_2 : decode cX4_go 2 = .ok (.invokevirtual 123, 3) := by decide +kernel
theorem dX4_go_5 : decode cX4_go 5 = .ok (.ifCond .eq 26, 3) := by decide +kernel
theorem dX4_go_8 : decode cX4_go 8 = .ok (.aload_n 0, 1) := by decide +kernel
theorem dX4_go_9 : decode cX4_go 9 = .ok (.getfield 60, 3) := by decide +kernel
theorem dX4_go_12 : decode cX4_go 12 = .ok (.iload_n 1, 1) := by decide +kernel
theorem dX4_go_13 : decode cX4_go 13 = .ok (.iaload, 1) := by decide +kernel
theorem dX4_go_14 : decode cX4_go 14 = .ok (.ifCond .eq 13, 3) := by decide +kernel
theorem dX4_go_17 : decode cX4_go 17 = .ok (.aload_n 0, 1) := by decide +kernel
theorem dX4_go_18 : decode cX4_go 18 = .ok (.getfield 60, 3) := by decide +kernel
theorem dX4_go_21 : decode cX4_go 21 = .ok (.iload_n 1, 1) := by decide +kernel
theorem dX4_go_22 : decode cX4_go 22 = .ok (.iaload, 1) := by decide +kernel
theorem dX4_go_23 : decode cX4_go 23 = .ok (.iconst 3, 1) := by decide +kernel
theorem dX4_go_24 : decode cX4_go 24 = .ok (.if_icmp .ne 7, 3) := by decide +kernel
theorem dX4_go_27 : decode cX4_go 27 = .ok (.iconst 1, 1) := by decide +kernel
theorem dX4_go_28 : decode cX4_go 28 = .ok (.goto 4, 3) := by decide +kernel
theorem dX4_go_31 : decode cX4_go 31 = .ok (.iconst 0, 1) := by decide +kernel
theorem dX4_go_32 : decode cX4_go 32 = .ok (.istore_n 2, 1) := by decide +kernel
theorem dX4_go_33 : decode cX4_go 33 = .ok (.aload_n 0, 1) := by decide +kernel
theorem dX4_go_34 : decode cX4_go 34 = .ok (.aload_n 0, 1) := by decide +kernel
theorem dX4_go_35 : decode cX4_go 35 = .ok (.iload_n 1, 1) := by decide +kernel
theorem dX4_go_36 : decode cX4_go 36 = .ok (.invokevirtual 123, 3) := by decide +kernel
theorem dX4_go_39 : decode cX4_go 39 = .ok (.ifCond .ne 7, 3) := by decide +kernel
theorem dX4_go_42 : decode cX4_go 42 = .ok (.iconst 1, 1) := by decide +kernel
theorem dX4_go_43 : decode cX4_go 43 = .ok (.goto 12, 3) := by decide +kernel
theorem dX4_go_46 : decode cX4_go 46 = .ok (.iload_n 2, 1) := by decide +kernel
theorem dX4_go_47 : decode cX4_go 47 = .ok (.ifCond .eq 7, 3) := by decide +kernel
theorem dX4_go_50 : decode cX4_go 50 = .ok (.iconst 0, 1) := by decide +kernel
theorem dX4_go_51 : decode cX4_go 51 = .ok (.goto 4, 3) := by decide +kernel
theorem dX4_go_54 : decode cX4_go 54 = .ok (.iconst 2, 1) := by decide +kernel
theorem dX4_go_55 : decode cX4_go 55 = .ok (.invokevirtual 101, 3) := by decide +kernel
theorem dX4_go_58 : decode cX4_go 58 = .ok (.ifCond .eq 5, 3) := by decide +kernel
theorem dX4_go_61 : decode cX4_go 61 = .ok (.iconst 0, 1) := by decide +kernel
theorem dX4_go_62 : decode cX4_go 62 = .ok (.ireturn, 1) := by decide +kernel
theorem dX4_go_63 : decode cX4_go 63 = .ok (.aload_n 0, 1) := by decide +kernel
theorem dX4_go_64 : decode cX4_go 64 = .ok (.getfield 66, 3) := by decide +kernel
theorem dX4_go_67 : decode cX4_go 67 = .ok (.iload_n 1, 1) := by decide +kernel
theorem dX4_go_68 : decode cX4_go 68 = .ok (.aload_n 0, 1) := by decide +kernel
theorem dX4_go_69 : decode cX4_go 69 = .ok (.getfield 60, 3) := by decide +kernel
theorem dX4_go_72 : decode cX4_go 72 = .ok (.iload_n 1, 1) := by decide +kernel
theorem dX4_go_73 : decode cX4_go 73 = .ok (.iaload, 1) := by decide +kernel
theorem dX4_go_74 : decode cX4_go 74 = .ok (.ifCond .ne 7, 3) := by decide +kernel
theorem dX4_go_77 : decode cX4_go 77 = .ok (.iconst 1, 1) := by decide +kernel
theorem dX4_go_78 : decode cX4_go 78 = .ok (.goto 4, 3) := by decide +kernel
theorem dX4_go_81 : decode cX4_go 81 = .ok (.iconst 0, 1) := by decide +kernel
theorem dX4_go_82 : decode cX4_go 82 = .ok (.bastore, 1) := by decide +kernel
theorem dX4_go_83 : decode cX4_go 83 = .ok (.aload_n 0, 1) := by decide +kernel
theorem dX4_go_84 : decode cX4_go 84 = .ok (.getfield 60, 3) := by decide +kernel
theorem dX4_go_87 : decode cX4_go 87 = .ok (.iload_n 1, 1) := by decide +kernel
theorem dX4_go_88 : decode cX4_go 88 = .ok (.iconst 2, 1) := by decide +kernel
theorem dX4_go_89 : decode cX4_go 89 = .ok (.iastore, 1) := by decide +kernel
theorem dX4_go_90 : decode cX4_go 90 = .ok (.aload_n 0, 1) := by decide +kernel
theorem dX4_go_91 : decode cX4_go 91 = .ok (.getfield 66, 3) := by decide +kernel
theorem dX4_go_94 : decode cX4_go 94 = .ok (.iload_n 1, 1) := by decide +kernel
theorem dX4_go_95 : decode cX4_go 95 = .ok (.baload, 1) := by decide +kernel
theorem dX4_go_96 : decode cX4_go 96 = .ok (.ireturn, 1) := by decide +kernel
theorem dX4_isThere_0 : decode cX4_isThere 0 = .ok (.aload_n 0, 1) := by decide +kernel
theorem dX4_isThere_1 : decode cX4_isThere 1 = .ok (.getfield 63, 3) := by decide +kernel
theorem dX4_isThere_4 : decode cX4_isThere 4 = .ok (.iload_n 1, 1) := by decide +kernel
theorem dX4_isThere_5 : decode cX4_isThere 5 = .ok (.iaload, 1) := by decide +kernel
theorem dX4_isThere_6 : decode cX4_isThere 6 = .ok (.aload_n 0, 1) := by decide +kernel
theorem dX4_isThere_7 : decode cX4_isThere 7 = .ok (.getfield 66, 3) := by decide +kernel
theorem dX4_isThere_10 : decode cX4_isThere 10 = .ok (.iload_n 1, 1) := by decide +kernel
theorem dX4_isThere_11 : decode cX4_isThere 11 = .ok (.baload, 1) := by decide +kernel
theorem dX4_isThere_12 : decode cX4_isThere 12 = .ok (.ifCond .eq 10, 3) := by decide +kernel
theorem dX4_isThere_15 : decode cX4_isThere 15 = .ok (.aload_n 0, 1) := by decide +kernel
theorem dX4_isThere_16 : decode cX4_isThere 16 = .ok (.getfield 91, 3) := by decide +kernel
theorem dX4_isThere_19 : decode cX4_isThere 19 = .ok (.goto 4, 3) := by decide +kernel
theorem dX4_isThere_22 : decode cX4_isThere 22 = .ok (.iconst 0, 1) := by decide +kernel
theorem dX4_isThere_23 : decode cX4_isThere 23 = .ok (.if_icmp .ne 7, 3) := by decide +kernel
theorem dX4_isThere_26 : decode cX4_isThere 26 = .ok (.iconst 1, 1) := by decide +kernel
theorem dX4_isThere_27 : decode cX4_isThere 27 = .ok (.goto 4, 3) := by decide +kernel
theorem dX4_isThere_30 : decode cX4_isThere 30 = .ok (.iconst 0, 1) := by decide +kernel
theorem dX4_isThere_31 : decode cX4_isThere 31 = .ok (.ireturn, 1) := by decide +kernel
theorem dX4_arrives_0 : decode cX4_arrives 0 = .ok (.aload_n 0, 1) := by decide +kernel
theorem dX4_arrives_1 : decode cX4_arrives 1 = .ok (.getfield 60, 3) := by decide +kernel
theorem dX4_arrives_4 : decode cX4_arrives 4 = .ok (.iload_n 1, 1) := by decide +kernel
theorem dX4_arrives_5 : decode cX4_arrives 5 = .ok (.aload_n 0, 1) := by decide +kernel
theorem dX4_arrives_6 : decode cX4_arrives 6 = .ok (.getfield 66, 3) := by decide +kernel
theorem dX4_arrives_9 : decode cX4_arrives 9 = .ok (.iload_n 1, 1) := by decide +kernel
theorem dX4_arrives_10 : decode cX4_arrives 10 = .ok (.baload, 1) := by decide +kernel
theorem dX4_arrives_11 : decode cX4_arrives 11 = .ok (.ifCond .eq 7, 3) := by decide +kernel
theorem dX4_arrives_14 : decode cX4_arrives 14 = .ok (.iconst 3, 1) := by decide +kernel
theorem dX4_arrives_15 : decode cX4_arrives 15 = .ok (.goto 4, 3) := by decide +kernel
theorem dX4_arrives_18 : decode cX4_arrives 18 = .ok (.iconst 0, 1) := by decide +kernel
theorem dX4_arrives_19 : decode cX4_arrives 19 = .ok (.iastore, 1) := by decide +kernel
theorem dX4_arrives_20 : decode cX4_arrives 20 = .ok (.aload_n 0, 1) := by decide +kernel
theorem dX4_arrives_21 : decode cX4_arrives 21 = .ok (.iload_n 1, 1) := by decide +kernel
theorem dX4_arrives_22 : decode cX4_arrives 22 = .ok (.aload_n 0, 1) := by decide +kernel
theorem dX4_arrives_23 : decode cX4_arrives 23 = .ok (.getfield 66, 3) := by decide +kernel
theorem dX4_arrives_26 : decode cX4_arrives 26 = .ok (.iload_n 1, 1) := by decide +kernel
theorem dX4_arrives_27 : decode cX4_arrives 27 = .ok (.baload, 1) := by decide +kernel
theorem dX4_arrives_28 : decode cX4_arrives 28 = .ok (.invokevirtual 133, 3) := by decide +kernel
theorem dX4_arrives_31 : decode cX4_arrives 31 = .ok (.return_, 1) := by decide +kernel
theorem dX4_turn_0 : decode cX4_turn 0 = .ok (.aload_n 0, 1) := by decide +kernel
theorem dX4_turn_1 : decode cX4_turn 1 = .ok (.aload_n 0, 1) := by decide +kernel
theorem dX4_turn_2 : decode cX4_turn 2 = .ok (.iload_n 1, 1) := by decide +kernel
theorem dX4_turn_3 : decode cX4_turn 3 = .ok (.invokevirtual 123, 3) := by decide +kernel
theorem dX4_turn_6 : decode cX4_turn 6 = .ok (.ifCond .ne 7, 3) := by decide +kernel
theorem dX4_turn_9 : decode cX4_turn 9 = .ok (.iconst 1, 1) := by decide +kernel
theorem dX4_turn_10 : decode cX4_turn 10 = .ok (.goto 18, 3) := by decide +kernel
theorem dX4_turn_13 : decode cX4_turn 13 = .ok (.aload_n 0, 1) := by decide +kernel
theorem dX4_turn_14 : decode cX4_turn 14 = .ok (.getfield 60, 3) := by decide +kernel
theorem dX4_turn_17 : decode cX4_turn 17 = .ok (.iload_n 1, 1) := by decide +kernel
theorem dX4_turn_18 : decode cX4_turn 18 = .ok (.iaload, 1) := by decide +kernel
theorem dX4_turn_19 : decode cX4_turn 19 = .ok (.iconst 2, 1) := by decide +kernel
theorem dX4_turn_20 : decode cX4_turn 20 = .ok (.if_icmp .ne 7, 3) := by decide +kernel
theorem dX4_turn_23 : decode cX4_turn 23 = .ok (.iconst 0, 1) := by decide +kernel
theorem dX4_turn_24 : decode cX4_turn 24 = .ok (.goto 4, 3) := by decide +kernel
theorem dX4_turn_27 : decode cX4_turn 27 = .ok (.iconst 2, 1) := by decide +kernel
theorem dX4_turn_28 : decode cX4_turn 28 = .ok (.invokevirtual 101, 3) := by decide +kernel
theorem dX4_turn_31 : decode cX4_turn 31 = .ok (.ifCond .eq 5, 3) := by decide +kernel
theorem dX4_turn_34 : decode cX4_turn 34 = .ok (.iconst 0, 1) := by decide +kernel
theorem dX4_turn_35 : decode cX4_turn 35 = .ok (.ireturn, 1) := by decide +kernel
theorem dX4_turn_36 : decode cX4_turn 36 = .ok (.aload_n 0, 1) := by decide +kernel
theorem dX4_turn_37 : decode cX4_turn 37 = .ok (.getfield 66, 3) := by decide +kernel
theorem dX4_turn_40 : decode cX4_turn 40 = .ok (.iload_n 1, 1) := by decide +kernel
theorem dX4_turn_41 : decode cX4_turn 41 = .ok (.aload_n 0, 1) := by decide +kernel
theorem dX4_turn_42 : decode cX4_turn 42 = .ok (.getfield 66, 3) := by decide +kernel
theorem dX4_turn_45 : decode cX4_turn 45 = .ok (.iload_n 1, 1) := by decide +kernel
theorem dX4_turn_46 : decode cX4_turn 46 = .ok (.baload, 1) := by decide +kernel
theorem dX4_turn_47 : decode cX4_turn 47 = .ok (.ifCond .ne 7, 3) := by decide +kernel
theorem dX4_turn_50 : decode cX4_turn 50 = .ok (.iconst 1, 1) := by decide +kernel
theorem dX4_turn_51 : decode cX4_turn 51 = .ok (.goto 4, 3) := by decide +kernel
theorem dX4_turn_54 : decode cX4_turn 54 = .ok (.iconst 0, 1) := by decide +kernel
theorem dX4_turn_55 : decode cX4_turn 55 = .ok (.bastore, 1) := by decide +kernel
theorem dX4_turn_56 : decode cX4_turn 56 = .ok (.aload_n 0, 1) := by decide +kernel
theorem dX4_turn_57 : decode cX4_turn 57 = .ok (.iload_n 1, 1) := by decide +kernel
theorem dX4_turn_58 : decode cX4_turn 58 = .ok (.invokevirtual 137, 3) := by decide +kernel
theorem dX4_turn_61 : decode cX4_turn 61 = .ok (.ifCond .eq 8, 3) := by decide +kernel
theorem dX4_turn_64 : decode cX4_turn 64 = .ok (.aload_n 0, 1) := by decide +kernel
theorem dX4_turn_65 : decode cX4_turn 65 = .ok (.iload_n 1, 1) := by decide +kernel
theorem dX4_turn_66 : decode cX4_turn 66 = .ok (.invokevirtual 140, 3) := by decide +kernel
theorem dX4_turn_69 : decode cX4_turn 69 = .ok (.aload_n 0, 1) := by decide +kernel
theorem dX4_turn_70 : decode cX4_turn 70 = .ok (.getfield 66, 3) := by decide +kernel
theorem dX4_turn_73 : decode cX4_turn 73 = .ok (.iload_n 1, 1) := by decide +kernel
theorem dX4_turn_74 : decode cX4_turn 74 = .ok (.baload, 1) := by decide +kernel
theorem dX4_turn_75 : decode cX4_turn 75 = .ok (.ireturn, 1) := by decide +kernel
theorem dX4_order_0 : decode cX4_order 0 = .ok (.iload_n 2, 1) := by decide +kernel
theorem dX4_order_1 : decode cX4_order 1 = .ok (.iconst 1, 1) := by decide +kernel
theorem dX4_order_2 : decode cX4_order 2 = .ok (.ldc 144, 2) := by decide +kernel
theorem dX4_order_4 : decode cX4_order 4 = .ok (.invokestatic 94, 3) := by decide +kernel
theorem dX4_order_7 : decode cX4_order 7 = .ok (.istore_n 3, 1) := by decide +kernel
theorem dX4_order_8 : decode cX4_order 8 = .ok (.aload_n 0, 1) := by decide +kernel
theorem dX4_order_9 : decode cX4_order 9 = .ok (.iload_n 1, 1) := by decide +kernel
theorem dX4_order_10 : decode cX4_order 10 = .ok (.invokestatic 126, 3) := by decide +kernel
theorem dX4_order_13 : decode cX4_order 13 = .ok (.ifCond .ne 7, 3) := by decide +kernel
theorem dX4_order_16 : decode cX4_order 16 = .ok (.iconst 1, 1) := by decide +kernel
theorem dX4_order_17 : decode cX4_order 17 = .ok (.goto 29, 3) := by decide +kernel
theorem dX4_order_20 : decode cX4_order 20 = .ok (.iload_n 3, 1) := by decide +kernel
theorem dX4_order_21 : decode cX4_order 21 = .ok (.ifCond .ne 7, 3) := by decide +kernel
theorem dX4_order_24 : decode cX4_order 24 = .ok (.iconst 2, 1) := by decide +kernel
theorem dX4_order_25 : decode cX4_order 25 = .ok (.goto 21, 3) := by decide +kernel
theorem dX4_order_28 : decode cX4_order 28 = .ok (.aload_n 0, 1) := by decide +kernel
theorem dX4_order_29 : decode cX4_order 29 = .ok (.getfield 85, 3) := by decide +kernel
theorem dX4_order_32 : decode cX4_order 32 = .ok (.iload_n 1, 1) := by decide +kernel
theorem dX4_order_33 : decode cX4_order 33 = .ok (.iaload, 1) := by decide +kernel
theorem dX4_order_34 : decode cX4_order 34 = .ok (.iload_n 2, 1) := by decide +kernel
theorem dX4_order_35 : decode cX4_order 35 = .ok (.iadd, 1) := by decide +kernel
theorem dX4_order_36 : decode cX4_order 36 = .ok (.ldc 145, 2) := by decide +kernel
theorem dX4_order_38 : decode cX4_order 38 = .ok (.if_icmp .le 7, 3) := by decide +kernel
theorem dX4_order_41 : decode cX4_order 41 = .ok (.iconst 3, 1) := by decide +kernel
theorem dX4_order_42 : decode cX4_order 42 = .ok (.goto 4, 3) := by decide +kernel
theorem dX4_order_45 : decode cX4_order 45 = .ok (.iconst 0, 1) := by decide +kernel
theorem dX4_order_46 : decode cX4_order 46 = .ok (.invokevirtual 101, 3) := by decide +kernel
theorem dX4_order_49 : decode cX4_order 49 = .ok (.ifCond .eq 5, 3) := by decide +kernel
theorem dX4_order_52 : decode cX4_order 52 = .ok (.iconst 0, 1) := by decide +kernel
theorem dX4_order_53 : decode cX4_order 53 = .ok (.ireturn, 1) := by decide +kernel
theorem dX4_order_54 : decode cX4_order 54 = .ok (.aload_n 0, 1) := by decide +kernel
theorem dX4_order_55 : decode cX4_order 55 = .ok (.getfield 85, 3) := by decide +kernel
theorem dX4_order_58 : decode cX4_order 58 = .ok (.iload_n 1, 1) := by decide +kernel
theorem dX4_order_59 : decode cX4_order 59 = .ok (.dup2, 1) := by decide +kernel
theorem dX4_order_60 : decode cX4_order 60 = .ok (.iaload, 1) := by decide +kernel
theorem dX4_order_61 : decode cX4_order 61 = .ok (.iload_n 2, 1) := by decide +kernel
theorem dX4_order_62 : decode cX4_order 62 = .ok (.iadd, 1) := by decide +kernel
theorem dX4_order_63 : decode cX4_order 63 = .ok (.iastore, 1) := by decide +kernel
theorem dX4_order_64 : decode cX4_order 64 = .ok (.aload_n 0, 1) := by decide +kernel
theorem dX4_order_65 : decode cX4_order 65 = .ok (.getfield 85, 3) := by decide +kernel
theorem dX4_order_68 : decode cX4_order 68 = .ok (.iload_n 1, 1) := by decide +kernel
theorem dX4_order_69 : decode cX4_order 69 = .ok (.iaload, 1) := by decide +kernel
theorem dX4_order_70 : decode cX4_order 70 = .ok (.ireturn, 1) := by decide +kernel
theorem dX4_freezes_0 : decode cX4_freezes 0 = .ok (.iconst 2, 1) := by decide +kernel
theorem dX4_freezes_1 : decode cX4_freezes 1 = .ok (.aload_n 0, 1) := by decide +kernel
theorem dX4_freezes_2 : decode cX4_freezes 2 = .ok (.getfield 106, 3) := by decide +kernel
theorem dX4_freezes_5 : decode cX4_freezes 5 = .ok (.imul, 1) := by decide +kernel
theorem dX4_freezes_6 : decode cX4_freezes 6 = .ok (.aload_n 0, 1) := by decide +kernel
theorem dX4_freezes_7 : decode cX4_freezes 7 = .ok (.getfield 29, 3) := by decide +kernel
theorem dX4_freezes_10 : decode cX4_freezes 10 = .ok (.iload_n 1, 1) := by decide +kernel
theorem dX4_freezes_11 : decode cX4_freezes 11 = .ok (.iaload, 1) := by decide +kernel
theorem dX4_freezes_12 : decode cX4_freezes 12 = .ok (.if_icmp .ge 12, 3) := by decide +kernel
theorem dX4_freezes_15 : decode cX4_freezes 15 = .ok (.iconst 2, 1) := by decide +kernel
theorem dX4_freezes_16 : decode cX4_freezes 16 = .ok (.aload_n 0, 1) := by decide +kernel
theorem dX4_freezes_17 : decode cX4_freezes 17 = .ok (.getfield 106, 3) := by decide +kernel
theorem dX4_freezes_20 : decode cX4_freezes 20 = .ok (.imul, 1) := by decide +kernel
theorem dX4_freezes_21 : decode cX4_freezes 21 = .ok (.goto 9, 3) := by decide +kernel
theorem dX4_freezes_24 : decode cX4_freezes 24 = .ok (.aload_n 0, 1) := by decide +kernel
theorem dX4_freezes_25 : decode cX4_freezes 25 = .ok (.getfield 29, 3) := by decide +kernel
theorem dX4_freezes_28 : decode cX4_freezes 28 = .ok (.iload_n 1, 1) := by decide +kernel
theorem dX4_freezes_29 : decode cX4_freezes 29 = .ok (.iaload, 1) := by decide +kernel
theorem dX4_freezes_30 : decode cX4_freezes 30 = .ok (.istore_n 2, 1) := by decide +kernel
theorem dX4_freezes_31 : decode cX4_freezes 31 = .ok (.aload_n 0, 1) := by decide +kernel
theorem dX4_freezes_32 : decode cX4_freezes 32 = .ok (.getfield 29, 3) := by decide +kernel
theorem dX4_freezes_35 : decode cX4_freezes 35 = .ok (.iload_n 1, 1) := by decide +kernel
theorem dX4_freezes_36 : decode cX4_freezes 36 = .ok (.dup2, 1) := by decide +kernel
theorem dX4_freezes_37 : decode cX4_freezes 37 = .ok (.iaload, 1) := by decide +kernel
theorem dX4_freezes_38 : decode cX4_freezes 38 = .ok (.iload_n 2, 1) := by decide +kernel
theorem dX4_freezes_39 : decode cX4_freezes 39 = .ok (.isub, 1) := by decide +kernel
theorem dX4_freezes_40 : decode cX4_freezes 40 = .ok (.iastore, 1) := by decide +kernel
theorem dX4_freezes_41 : decode cX4_freezes 41 = .ok (.aload_n 0, 1) := by decide +kernel
theorem dX4_freezes_42 : decode cX4_freezes 42 = .ok (.getfield 26, 3) := by decide +kernel
theorem dX4_freezes_45 : decode cX4_freezes 45 = .ok (.iload_n 1, 1) := by decide +kernel
theorem dX4_freezes_46 : decode cX4_freezes 46 = .ok (.dup2, 1) := by decide +kernel
theorem dX4_freezes_47 : decode cX4_freezes 47 = .ok (.iaload, 1) := by decide +kernel
theorem dX4_freezes_48 : decode cX4_freezes 48 = .ok (.iload_n 2, 1) := by decide +kernel
theorem dX4_freezes_49 : decode cX4_freezes 49 = .ok (.iadd, 1) := by decide +kernel
theorem dX4_freezes_50 : decode cX4_freezes 50 = .ok (.iastore, 1) := by decide +kernel
theorem dX4_freezes_51 : decode cX4_freezes 51 = .ok (.aload_n 0, 1) := by decide +kernel
theorem dX4_freezes_52 : decode cX4_freezes 52 = .ok (.getfield 29, 3) := by decide +kernel
theorem dX4_freezes_55 : decode cX4_freezes 55 = .ok (.iload_n 1, 1) := by decide +kernel
theorem dX4_freezes_56 : decode cX4_freezes 56 = .ok (.iaload, 1) := by decide +kernel
theorem dX4_freezes_57 : decode cX4_freezes 57 = .ok (.ifCond .ne 74, 3) := by decide +kernel
theorem dX4_freezes_60 : decode cX4_freezes 60 = .ok (.sipush 400, 3) := by decide +kernel
theorem dX4_freezes_63 : decode cX4_freezes 63 = .ok (.aload_n 0, 1) := by decide +kernel
theorem dX4_freezes_64 : decode cX4_freezes 64 = .ok (.getfield 106, 3) := by decide +kernel
theorem dX4_freezes_67 : decode cX4_freezes 67 = .ok (.imul, 1) := by decide +kernel
theorem dX4_freezes_68 : decode cX4_freezes 68 = .ok (.aload_n 0, 1) := by decide +kernel
theorem dX4_freezes_69 : decode cX4_freezes 69 = .ok (.getfield 23, 3) := by decide +kernel
theorem dX4_freezes_72 : decode cX4_freezes 72 = .ok (.iload_n 1, 1) := by decide +kernel
theorem dX4_freezes_73 : decode cX4_freezes 73 = .ok (.iaload, 1) := by decide +kernel
theorem dX4_freezes_74 : decode cX4_freezes 74 = .ok (.aload_n 0, 1) := by decide +kernel
theorem dX4_freezes_75 : decode cX4_freezes 75 = .ok (.getfield 26, 3) := by decide +kernel
theorem dX4_freezes_78 : decode cX4_freezes 78 = .ok (.iload_n 1, 1) := by decide +kernel
theorem dX4_freezes_79 : decode cX4_freezes 79 = .ok (.iaload, 1) := by decide +kernel
theorem dX4_freezes_80 : decode cX4_freezes 80 = .ok (.iadd, 1) := by decide +kernel
theorem dX4_freezes_81 : decode cX4_freezes 81 = .ok (.iconst 4, 1) := by decide +kernel
theorem dX4_freezes_82 : decode cX4_freezes 82 = .ok (.aload_n 0, 1) := by decide +kernel
theorem dX4_freezes_83 : decode cX4_freezes 83 = .ok (.getfield 32, 3) := by decide +kernel
theorem dX4_freezes_86 : decode cX4_freezes 86 = .ok (.iload_n 1, 1) := by decide +kernel
theorem dX4_freezes_87 : decode cX4_freezes 87 = .ok (.iaload, 1) := by decide +kernel
theorem dX4_freezes_88 : decode cX4_freezes 88 = .ok (.imul, 1) := by decide +kernel
theorem dX4_freezes_89 : decode cX4_freezes 89 = .ok (.iadd, 1) := by decide +kernel
theorem dX4_freezes_90 : decode cX4_freezes 90 = .ok (.bipush 50, 2) := by decide +kernel
theorem dX4_freezes_92 : decode cX4_freezes 92 = .ok (.iadd, 1) := by decide +kernel
theorem dX4_freezes_93 : decode cX4_freezes 93 = .ok (.idiv, 1) := by decide +kernel
theorem dX4_freezes_94 : decode cX4_freezes 94 = .ok (.istore_n 3, 1) := by decide +kernel
theorem dX4_freezes_95 : decode cX4_freezes 95 = .ok (.iload_n 3, 1) := by decide +kernel
theorem dX4_freezes_96 : decode cX4_freezes 96 = .ok (.aload_n 0, 1) := by decide +kernel
theorem dX4_freezes_97 : decode cX4_freezes 97 = .ok (.getfield 13, 3) := by decide +kernel
theorem dX4_freezes_100 : decode cX4_freezes 100 = .ok (.iload_n 1, 1) := by decide +kernel
theorem dX4_freezes_101 : decode cX4_freezes 101 = .ok (.iaload, 1) := by decide +kernel
theorem dX4_freezes_102 : decode cX4_freezes 102 = .ok (.iconst 1, 1) := by decide +kernel
theorem dX4_freezes_103 : decode cX4_freezes 103 = .ok (.if_icmp .ne 7, 3) := by decide +kernel
theorem dX4_freezes_106 : decode cX4_freezes 106 = .ok (.iconst 2, 1) := by decide +kernel
theorem dX4_freezes_107 : decode cX4_freezes 107 = .ok (.goto 4, 3) := by decide +kernel
theorem dX4_freezes_110 : decode cX4_freezes 110 = .ok (.iconst 0, 1) := by decide +kernel
theorem dX4_freezes_111 : decode cX4_freezes 111 = .ok (.isub, 1) := by decide +kernel
theorem dX4_freezes_112 : decode cX4_freezes 112 = .ok (.istore_n 3, 1) := by decide +kernel
theorem dX4_freezes_113 : decode cX4_freezes 113 = .ok (.aload_n 0, 1) := by decide +kernel
theorem dX4_freezes_114 : decode cX4_freezes 114 = .ok (.getfield 23, 3) := by decide +kernel
theorem dX4_freezes_117 : decode cX4_freezes 117 = .ok (.iload_n 1, 1) := by decide +kernel
theorem dX4_freezes_118 : decode cX4_freezes 118 = .ok (.dup2, 1) := by decide +kernel
theorem dX4_freezes_119 : decode cX4_freezes 119 = .ok (.iaload, 1) := by decide +kernel
theorem dX4_freezes_120 : decode cX4_freezes 120 = .ok (.iload_n 3, 1) := by decide +kernel
theorem dX4_freezes_121 : decode cX4_freezes 121 = .ok (.ifCond .ge 7, 3) := by decide +kernel
theorem dX4_freezes_124 : decode cX4_freezes 124 = .ok (.iconst 0, 1) := by decide +kernel
theorem dX4_freezes_125 : decode cX4_freezes 125 = .ok (.goto 4, 3) := by decide +kernel
theorem dX4_freezes_128 : decode cX4_freezes 128 = .ok (.iload_n 3, 1) := by decide +kernel
theorem dX4_freezes_129 : decode cX4_freezes 129 = .ok (.iadd, 1) := by decide +kernel
theorem dX4_freezes_130 : decode cX4_freezes 130 = .ok (.iastore, 1) := by decide +kernel
theorem dX4_freezes_131 : decode cX4_freezes 131 = .ok (.aload_n 0, 1) := by decide +kernel
theorem dX4_freezes_132 : decode cX4_freezes 132 = .ok (.getfield 106, 3) := by decide +kernel
theorem dX4_freezes_135 : decode cX4_freezes 135 = .ok (.bipush 40, 2) := by decide +kernel
theorem dX4_freezes_137 : decode cX4_freezes 137 = .ok (.if_icmp .lt 31, 3) := by decide +kernel
theorem dX4_freezes_140 : decode cX4_freezes 140 = .ok (.aload_n 0, 1) := by decide +kernel
theorem dX4_freezes_141 : decode cX4_freezes 141 = .ok (.getfield 35, 3) := by decide +kernel
theorem dX4_freezes_144 : decode cX4_freezes 144 = .ok (.iload_n 1, 1) := by decide +kernel
theorem dX4_freezes_145 : decode cX4_freezes 145 = .ok (.aload_n 0, 1) := by decide +kernel
theorem dX4_freezes_146 : decode cX4_freezes 146 = .ok (.getfield 35, 3) := by decide +kernel
theorem dX4_freezes_149 : decode cX4_freezes 149 = .ok (.iload_n 1, 1) := by decide +kernel
theorem dX4_freezes_150 : decode cX4_freezes 150 = .ok (.iaload, 1) := by decide +kernel
theorem dX4_freezes_151 : decode cX4_freezes 151 = .ok (.ifCond .ne 7, 3) := by decide +kernel
theorem dX4_freezes_154 : decode cX4_freezes 154 = .ok (.iconst 1, 1) := by decide +kernel
theorem dX4_freezes_155 : decode cX4_freezes 155 = .ok (.goto 9, 3) := by decide +kernel
theorem dX4_freezes_158 : decode cX4_freezes 158 = .ok (.aload_n 0, 1) := by decide +kernel
theorem dX4_freezes_159 : decode cX4_freezes 159 = .ok (.getfield 35, 3) := by decide +kernel
theorem dX4_freezes_162 : decode cX4_freezes 162 = .ok (.iload_n 1, 1) := by decide +kernel
theorem dX4_freezes_163 : decode cX4_freezes 163 = .ok (.iaload, 1) := by decide +kernel
theorem dX4_freezes_164 : decode cX4_freezes 164 = .ok (.iastore, 1) := by decide +kernel
theorem dX4_freezes_165 : decode cX4_freezes 165 = .ok (.goto 33, 3) := by decide +kernel
theorem dX4_freezes_168 : decode cX4_freezes 168 = .ok (.aload_n 0, 1) := by decide +kernel
theorem dX4_freezes_169 : decode cX4_freezes 169 = .ok (.getfield 106, 3) := by decide +kernel
theorem dX4_freezes_172 : decode cX4_freezes 172 = .ok (.bipush 10, 2) := by decide +kernel
theorem dX4_freezes_174 : decode cX4_freezes 174 = .ok (.if_icmp .lt 24, 3) := by decide +kernel
theorem dX4_freezes_177 : decode cX4_freezes 177 = .ok (.aload_n 0, 1) := by decide +kernel
theorem dX4_freezes_178 : decode cX4_freezes 178 = .ok (.getfield 35, 3) := by decide +kernel
theorem dX4_freezes_181 : decode cX4_freezes 181 = .ok (.iload_n 1, 1) := by decide +kernel
theorem dX4_freezes_182 : decode cX4_freezes 182 = .ok (.aload_n 0, 1) := by decide +kernel
theorem dX4_freezes_183 : decode cX4_freezes 183 = .ok (.getfield 35, 3) := by decide +kernel
theorem dX4_freezes_186 : decode cX4_freezes 186 = .ok (.iload_n 1, 1) := by decide +kernel
theorem dX4_freezes_187 : decode cX4_freezes 187 = .ok (.iaload, 1) := by decide +kernel
theorem dX4_freezes_188 : decode cX4_freezes 188 = .ok (.iconst 2, 1) := by decide +kernel
theorem dX4_freezes_189 : decode cX4_freezes 189 = .ok (.if_icmp .ne 7, 3) := by decide +kernel
theorem dX4_freezes_192 : decode cX4_freezes 192 = .ok (.iconst 1, 1) := by decide +kernel
theorem dX4_freezes_193 : decode cX4_freezes 193 = .ok (.goto 4, 3) := by decide +kernel
theorem dX4_freezes_196 : decode cX4_freezes 196 = .ok (.iconst 0, 1) := by decide +kernel
theorem dX4_freezes_197 : decode cX4_freezes 197 = .ok (.iastore, 1) := by decide +kernel
theorem dX4_freezes_198 : decode cX4_freezes 198 = .ok (.return_, 1) := by decide +kernel
theorem dX4_thaws_0 : decode cX4_thaws 0 = .ok (.bipush (-6), 2) := by decide +kernel
theorem dX4_thaws_2 : decode cX4_thaws 2 = .ok (.aload_n 0, 1) := by decide +kernel
theorem dX4_thaws_3 : decode cX4_thaws 3 = .ok (.getfield 106, 3) := by decide +kernel
theorem dX4_thaws_6 : decode cX4_thaws 6 = .ok (.imul, 1) := by decide +kernel
theorem dX4_thaws_7 : decode cX4_thaws 7 = .ok (.istore_n 2, 1) := by decide +kernel
theorem dX4_thaws_8 : decode cX4_thaws 8 = .ok (.iload_n 2, 1) := by decide +kernel
theorem dX4_thaws_9 : decode cX4_thaws 9 = .ok (.aload_n 0, 1) := by decide +kernel
theorem dX4_thaws_10 : decode cX4_thaws 10 = .ok (.getfield 32, 3) := by decide +kernel
theorem dX4_thaws_13 : decode cX4_thaws 13 = .ok (.iload_n 1, 1) := by decide +kernel
theorem dX4_thaws_14 : decode cX4_thaws 14 = .ok (.iaload, 1) := by decide +kernel
theorem dX4_thaws_15 : decode cX4_thaws 15 = .ok (.if_icmp .ge 7, 3) := by decide +kernel
theorem dX4_thaws_18 : decode cX4_thaws 18 = .ok (.iload_n 2, 1) := by decide +kernel
theorem dX4_thaws_19 : decode cX4_thaws 19 = .ok (.goto 9, 3) := by decide +kernel
theorem dX4_thaws_22 : decode cX4_thaws 22 = .ok (.aload_n 0, 1) := by decide +kernel
theorem dX4_thaws_23 : decode cX4_thaws 23 = .ok (.getfield 32, 3) := by decide +kernel
theorem dX4_thaws_26 : decode cX4_thaws 26 = .ok (.iload_n 1, 1) := by decide +kernel
theorem dX4_thaws_27 : decode cX4_thaws 27 = .ok (.iaload, 1) := by decide +kernel
theorem dX4_thaws_28 : decode cX4_thaws 28 = .ok (.istore_n 3, 1) := by decide +kernel
theorem dX4_thaws_29 : decode cX4_thaws 29 = .ok (.aload_n 0, 1) := by decide +kernel
theorem dX4_thaws_30 : decode cX4_thaws 30 = .ok (.getfield 32, 3) := by decide +kernel
theorem dX4_thaws_33 : decode cX4_thaws 33 = .ok (.iload_n 1, 1) := by decide +kernel
theorem dX4_thaws_34 : decode cX4_thaws 34 = .ok (.dup2, 1) := by decide +kernel
theorem dX4_thaws_35 : decode cX4_thaws 35 = .ok (.iaload, 1) := by decide +kernel
theorem dX4_thaws_36 : decode cX4_thaws 36 = .ok (.iload_n 3, 1) := by decide +kernel
theorem dX4_thaws_37 : decode cX4_thaws 37 = .ok (.isub, 1) := by decide +kernel
theorem dX4_thaws_38 : decode cX4_thaws 38 = .ok (.iastore, 1) := by decide +kernel
theorem dX4_thaws_39 : decode cX4_thaws 39 = .ok (.iload_n 2, 1) := by decide +kernel
theorem dX4_thaws_40 : decode cX4_thaws 40 = .ok (.iload_n 3, 1) := by decide +kernel
theorem dX4_thaws_41 : decode cX4_thaws 41 = .ok (.isub, 1) := by decide +kernel
theorem dX4_thaws_42 : decode cX4_thaws 42 = .ok (.istore_n 2, 1) := by decide +kernel
theorem dX4_thaws_43 : decode cX4_thaws 43 = .ok (.iload_n 2, 1) := by decide +kernel
theorem dX4_thaws_44 : decode cX4_thaws 44 = .ok (.aload_n 0, 1) := by decide +kernel
theorem dX4_thaws_45 : decode cX4_thaws 45 = .ok (.getfield 26, 3) := by decide +kernel
theorem dX4_thaws_48 : decode cX4_thaws 48 = .ok (.iload_n 1, 1) := by decide +kernel
theorem dX4_thaws_49 : decode cX4_thaws 49 = .ok (.iaload, 1) := by decide +kernel
theorem dX4_thaws_50 : decode cX4_thaws 50 = .ok (.if_icmp .ge 7, 3) := by decide +kernel
theorem dX4_thaws_53 : decode cX4_thaws 53 = .ok (.iload_n 2, 1) := by decide +kernel
theorem dX4_thaws_54 : decode cX4_thaws 54 = .ok (.goto 9, 3) := by decide +kernel
theorem dX4_thaws_57 : decode cX4_thaws 57 = .ok (.aload_n 0, 1) := by decide +kernel
theorem dX4_thaws_58 : decode cX4_thaws 58 = .ok (.getfield 26, 3) := by decide +kernel
theorem dX4_thaws_61 : decode cX4_thaws 61 = .ok (.iload_n 1, 1) := by decide +kernel
theorem dX4_thaws_62 : decode cX4_thaws 62 = .ok (.iaload, 1) := by decide +kernel
theorem dX4_thaws_63 : decode cX4_thaws 63 = .ok (.istore 4, 2) := by decide +kernel
theorem dX4_thaws_65 : decode cX4_thaws 65 = .ok (.aload_n 0, 1) := by decide +kernel
theorem dX4_thaws_66 : decode cX4_thaws 66 = .ok (.getfield 26, 3) := by decide +kernel
theorem dX4_thaws_69 : decode cX4_thaws 69 = .ok (.iload_n 1, 1) := by decide +kernel
theorem dX4_thaws_70 : decode cX4_thaws 70 = .ok (.dup2, 1) := by decide +kernel
theorem dX4_thaws_71 : decode cX4_thaws 71 = .ok (.iaload, 1) := by decide +kernel
theorem dX4_thaws_72 : decode cX4_thaws 72 = .ok (.iload 4, 2) := by decide +kernel
theorem dX4_thaws_74 : decode cX4_thaws 74 = .ok (.isub, 1) := by decide +kernel
theorem dX4_thaws_75 : decode cX4_thaws 75 = .ok (.iastore, 1) := by decide +kernel
theorem dX4_thaws_76 : decode cX4_thaws 76 = .ok (.iload_n 2, 1) := by decide +kernel
theorem dX4_thaws_77 : decode cX4_thaws 77 = .ok (.iload 4, 2) := by decide +kernel
theorem dX4_thaws_79 : decode cX4_thaws 79 = .ok (.isub, 1) := by decide +kernel
theorem dX4_thaws_80 : decode cX4_thaws 80 = .ok (.istore_n 2, 1) := by decide +kernel
theorem dX4_thaws_81 : decode cX4_thaws 81 = .ok (.iload_n 2, 1) := by decide +kernel
theorem dX4_thaws_82 : decode cX4_thaws 82 = .ok (.aload_n 0, 1) := by decide +kernel
theorem dX4_thaws_83 : decode cX4_thaws 83 = .ok (.getfield 23, 3) := by decide +kernel
theorem dX4_thaws_86 : decode cX4_thaws 86 = .ok (.iload_n 1, 1) := by decide +kernel
theorem dX4_thaws_87 : decode cX4_thaws 87 = .ok (.iaload, 1) := by decide +kernel
theorem dX4_thaws_88 : decode cX4_thaws 88 = .ok (.if_icmp .ge 7, 3) := by decide +kernel
theorem dX4_thaws_91 : decode cX4_thaws 91 = .ok (.iload_n 2, 1) := by decide +kernel
theorem dX4_thaws_92 : decode cX4_thaws 92 = .ok (.goto 9, 3) := by decide +kernel
theorem dX4_thaws_95 : decode cX4_thaws 95 = .ok (.aload_n 0, 1) := by decide +kernel
theorem dX4_thaws_96 : decode cX4_thaws 96 = .ok (.getfield 23, 3) := by decide +kernel
theorem dX4_thaws_99 : decode cX4_thaws 99 = .ok (.iload_n 1, 1) := by decide +kernel
theorem dX4_thaws_100 : decode cX4_thaws 100 = .ok (.iaload, 1) := by decide +kernel
theorem dX4_thaws_101 : decode cX4_thaws 101 = .ok (.istore 5, 2) := by decide +kernel
theorem dX4_thaws_103 : decode cX4_thaws 103 = .ok (.aload_n 0, 1) := by decide +kernel
theorem dX4_thaws_104 : decode cX4_thaws 104 = .ok (.getfield 23, 3) := by decide +kernel
theorem dX4_thaws_107 : decode cX4_thaws 107 = .ok (.iload_n 1, 1) := by decide +kernel
theorem dX4_thaws_108 : decode cX4_thaws 108 = .ok (.dup2, 1) := by decide +kernel
theorem dX4_thaws_109 : decode cX4_thaws 109 = .ok (.iaload, 1) := by decide +kernel
theorem dX4_thaws_110 : decode cX4_thaws 110 = .ok (.iload 5, 2) := by decide +kernel
theorem dX4_thaws_112 : decode cX4_thaws 112 = .ok (.isub, 1) := by decide +kernel
theorem dX4_thaws_113 : decode cX4_thaws 113 = .ok (.iastore, 1) := by decide +kernel
theorem dX4_thaws_114 : decode cX4_thaws 114 = .ok (.aload_n 0, 1) := by decide +kernel
theorem dX4_thaws_115 : decode cX4_thaws 115 = .ok (.getfield 44, 3) := by decide +kernel
theorem dX4_thaws_118 : decode cX4_thaws 118 = .ok (.iload_n 1, 1) := by decide +kernel
theorem dX4_thaws_119 : decode cX4_thaws 119 = .ok (.daload, 1) := by decide +kernel
theorem dX4_thaws_120 : decode cX4_thaws 120 = .ok (.iload 5, 2) := by decide +kernel
theorem dX4_thaws_122 : decode cX4_thaws 122 = .ok (.i2d, 1) := by decide +kernel
theorem dX4_thaws_123 : decode cX4_thaws 123 = .ok (.ldc2_w 115, 3) := by decide +kernel
theorem dX4_thaws_126 : decode cX4_thaws 126 = .ok (.iload 4, 2) := by decide +kernel
theorem dX4_thaws_128 : decode cX4_thaws 128 = .ok (.i2d, 1) := by decide +kernel
theorem dX4_thaws_129 : decode cX4_thaws 129 = .ok (.dmul, 1) := by decide +kernel
theorem dX4_thaws_130 : decode cX4_thaws 130 = .ok (.dadd, 1) := by decide +kernel
theorem dX4_thaws_131 : decode cX4_thaws 131 = .ok (.dsub, 1) := by decide +kernel
theorem dX4_thaws_132 : decode cX4_thaws 132 = .ok (.dstore 6, 2) := by decide +kernel
theorem dX4_thaws_134 : decode cX4_thaws 134 = .ok (.aload_n 0, 1) := by decide +kernel
theorem dX4_thaws_135 : decode cX4_thaws 135 = .ok (.getfield 44, 3) := by decide +kernel
theorem dX4_thaws_138 : decode cX4_thaws 138 = .ok (.iload_n 1, 1) := by decide +kernel
theorem dX4_thaws_139 : decode cX4_thaws 139 = .ok (.dload 6, 2) := by decide +kernel
theorem dX4_thaws_141 : decode cX4_thaws 141 = .ok (.dconst 0, 1) := by decide +kernel
theorem dX4_thaws_142 : decode cX4_thaws 142 = .ok (.dcmp .g, 1) := by decide +kernel
theorem dX4_thaws_143 : decode cX4_thaws 143 = .ok (.ifCond .ge 7, 3) := by decide +kernel
theorem dX4_thaws_146 : decode cX4_thaws 146 = .ok (.dconst 0, 1) := by decide +kernel
theorem dX4_thaws_147 : decode cX4_thaws 147 = .ok (.goto 5, 3) := by decide +kernel
theorem dX4_thaws_150 : decode cX4_thaws 150 = .ok (.dload 6, 2) := by decide +kernel
theorem dX4_thaws_152 : decode cX4_thaws 152 = .ok (.dastore, 1) := by decide +kernel
theorem dX4_thaws_153 : decode cX4_thaws 153 = .ok (.aload_n 0, 1) := by decide +kernel
theorem dX4_thaws_154 : decode cX4_thaws 154 = .ok (.getfield 35, 3) := by decide +kernel
theorem dX4_thaws_157 : decode cX4_thaws 157 = .ok (.iload_n 1, 1) := by decide +kernel
theorem dX4_thaws_158 : decode cX4_thaws 158 = .ok (.aload_n 0, 1) := by decide +kernel
theorem dX4_thaws_159 : decode cX4_thaws 159 = .ok (.getfield 35, 3) := by decide +kernel
theorem dX4_thaws_162 : decode cX4_thaws 162 = .ok (.iload_n 1, 1) := by decide +kernel
theorem dX4_thaws_163 : decode cX4_thaws 163 = .ok (.iaload, 1) := by decide +kernel
theorem dX4_thaws_164 : decode cX4_thaws 164 = .ok (.iconst 1, 1) := by decide +kernel
theorem dX4_thaws_165 : decode cX4_thaws 165 = .ok (.if_icmp .ne 7, 3) := by decide +kernel
theorem dX4_thaws_168 : decode cX4_thaws 168 = .ok (.iconst 2, 1) := by decide +kernel
theorem dX4_thaws_169 : decode cX4_thaws 169 = .ok (.goto 9, 3) := by decide +kernel
theorem dX4_thaws_172 : decode cX4_thaws 172 = .ok (.aload_n 0, 1) := by decide +kernel
theorem dX4_thaws_173 : decode cX4_thaws 173 = .ok (.getfield 35, 3) := by decide +kernel
theorem dX4_thaws_176 : decode cX4_thaws 176 = .ok (.iload_n 1, 1) := by decide +kernel
theorem dX4_thaws_177 : decode cX4_thaws 177 = .ok (.iaload, 1) := by decide +kernel
theorem dX4_thaws_178 : decode cX4_thaws 178 = .ok (.iastore, 1) := by decide +kernel
theorem dX4_thaws_179 : decode cX4_thaws 179 = .ok (.return_, 1) := by decide +kernel
theorem dX4_ends_0 : decode cX4_ends 0 = .ok (.iconst 0, 1) := by decide +kernel
theorem dX4_ends_1 : decode cX4_ends 1 = .ok (.istore_n 1, 1) := by decide +kernel
theorem dX4_ends_2 : decode cX4_ends 2 = .ok (.iload_n 1, 1) := by decide +kernel
theorem dX4_ends_3 : decode cX4_ends 3 = .ok (.aload_n 0, 1) := by decide +kernel
theorem dX4_ends_4 : decode cX4_ends 4 = .ok (.getfield 91, 3) := by decide +kernel
theorem dX4_ends_7 : decode cX4_ends 7 = .ok (.if_icmp .ge 44, 3) := by decide +kernel
theorem dX4_ends_10 : decode cX4_ends 10 = .ok (.aload_n 0, 1) := by decide +kernel
theorem dX4_ends_11 : decode cX4_ends 11 = .ok (.getfield 106, 3) := by decide +kernel
theorem dX4_ends_14 : decode cX4_ends 14 = .ok (.ifCond .le 19, 3) := by decide +kernel
theorem dX4_ends_17 : decode cX4_ends 17 = .ok (.aload_n 0, 1) := by decide +kernel
theorem dX4_ends_18 : decode cX4_ends 18 = .ok (.iload_n 1, 1) := by decide +kernel
theorem dX4_ends_19 : decode cX4_ends 19 = .ok (.invokevirtual 112, 3) := by decide +kernel
theorem dX4_ends_22 : decode cX4_ends 22 = .ok (.ifCond .eq 11, 3) := by decide +kernel
theorem dX4_ends_25 : decode cX4_ends 25 = .ok (.aload_n 0, 1) := by decide +kernel
theorem dX4_ends_26 : decode cX4_ends 26 = .ok (.iload_n 1, 1) := by decide +kernel
theorem dX4_ends_27 : decode cX4_ends 27 = .ok (.invokevirtual 146, 3) := by decide +kernel
theorem dX4_ends_30 : decode cX4_ends 30 = .ok (.goto 15, 3) := by decide +kernel
theorem dX4_ends_33 : decode cX4_ends 33 = .ok (.aload_n 0, 1) := by decide +kernel
theorem dX4_ends_34 : decode cX4_ends 34 = .ok (.getfield 106, 3) := by decide +kernel
theorem dX4_ends_37 : decode cX4_ends 37 = .ok (.ifCond .ge 8, 3) := by decide +kernel
theorem dX4_ends_40 : decode cX4_ends 40 = .ok (.aload_n 0, 1) := by decide +kernel
theorem dX4_ends_41 : decode cX4_ends 41 = .ok (.iload_n 1, 1) := by decide +kernel
theorem dX4_ends_42 : decode cX4_ends 42 = .ok (.invokevirtual 149, 3) := by decide +kernel
theorem dX4_ends_45 : decode cX4_ends 45 = .ok (.iinc 1 1, 3) := by decide +kernel
theorem dX4_ends_48 : decode cX4_ends 48 = .ok (.goto (-46), 3) := by decide +kernel
theorem dX4_ends_51 : decode cX4_ends 51 = .ok (.return_, 1) := by decide +kernel
theorem dX4_bearsBy_0 : decode cX4_bearsBy 0 = .ok (.aload_n 0, 1) := by decide +kernel
theorem dX4_bearsBy_1 : decode cX4_bearsBy 1 = .ok (.iload_n 1, 1) := by decide +kernel
theorem dX4_bearsBy_2 : decode cX4_bearsBy 2 = .ok (.invokevirtual 112, 3) := by decide +kernel
theorem dX4_bearsBy_5 : decode cX4_bearsBy 5 = .ok (.ifCond .ne 21, 3) := by decide +kernel
theorem dX4_bearsBy_8 : decode cX4_bearsBy 8 = .ok (.aload_n 0, 1) := by decide +kernel
theorem dX4_bearsBy_9 : decode cX4_bearsBy 9 = .ok (.getfield 32, 3) := by decide +kernel
theorem dX4_bearsBy_12 : decode cX4_bearsBy 12 = .ok (.iload_n 1, 1) := by decide +kernel
theorem dX4_bearsBy_13 : decode cX4_bearsBy 13 = .ok (.iaload, 1) := by decide +kernel
theorem dX4_bearsBy_14 : decode cX4_bearsBy 14 = .ok (.bipush 100, 2) := by decide +kernel
theorem dX4_bearsBy_16 : decode cX4_bearsBy 16 = .ok (.if_icmp .lt 8, 3) := by decide +kernel
theorem dX4_bearsBy_19 : decode cX4_bearsBy 19 = .ok (.ldc 122, 2) := by decide +kernel
theorem dX4_bearsBy_21 : decode cX4_bearsBy 21 = .ok (.goto 4, 3) := by decide +kernel
theorem dX4_bearsBy_24 : decode cX4_bearsBy 24 = .ok (.iconst 0, 1) := by decide +kernel
theorem dX4_bearsBy_25 : decode cX4_bearsBy 25 = .ok (.ireturn, 1) := by decide +kernel
theorem dX4_bearsBy_26 : decode cX4_bearsBy 26 = .ok (.ldc2_w 152, 3) := by decide +kernel
theorem dX4_bearsBy_29 : decode cX4_bearsBy 29 = .ok (.dload_n 2, 1) := by decide +kernel
theorem dX4_bearsBy_30 : decode cX4_bearsBy 30 = .ok (.dmul, 1) := by decide +kernel
theorem dX4_bearsBy_31 : decode cX4_bearsBy 31 = .ok (.dload_n 2, 1) := by decide +kernel
theorem dX4_bearsBy_32 : decode cX4_bearsBy 32 = .ok (.dmul, 1) := by decide +kernel
theorem dX4_bearsBy_33 : decode cX4_bearsBy 33 = .ok (.aload_n 0, 1) := by decide +kernel
theorem dX4_bearsBy_34 : decode cX4_bearsBy 34 = .ok (.getfield 35, 3) := by decide +kernel
theorem dX4_bearsBy_37 : decode cX4_bearsBy 37 = .ok (.iload_n 1, 1) := by decide +kernel
theorem dX4_bearsBy_38 : decode cX4_bearsBy 38 = .ok (.iaload, 1) := by decide +kernel
theorem dX4_bearsBy_39 : decode cX4_bearsBy 39 = .ok (.ifCond .ne 7, 3) := by decide +kernel
theorem dX4_bearsBy_42 : decode cX4_bearsBy 42 = .ok (.dconst 1, 1) := by decide +kernel
theorem dX4_bearsBy_43 : decode cX4_bearsBy 43 = .ok (.goto 22, 3) := by decide +kernel
theorem dX4_bearsBy_46 : decode cX4_bearsBy 46 = .ok (.aload_n 0, 1) := by decide +kernel
theorem dX4_bearsBy_47 : decode cX4_bearsBy 47 = .ok (.getfield 35, 3) := by decide +kernel
theorem dX4_bearsBy_50 : decode cX4_bearsBy 50 = .ok (.iload_n 1, 1) := by decide +kernel
theorem dX4_bearsBy_51 : decode cX4_bearsBy 51 = .ok (.iaload, 1) := by decide +kernel
theorem dX4_bearsBy_52 : decode cX4_bearsBy 52 = .ok (.iconst 1, 1) := by decide +kernel
theorem dX4_bearsBy_53 : decode cX4_bearsBy 53 = .ok (.if_icmp .ne 9, 3) := by decide +kernel
theorem dX4_bearsBy_56 : decode cX4_bearsBy 56 = .ok (.ldc2_w 154, 3) := by decide +kernel
theorem dX4_bearsBy_59 : decode cX4_bearsBy 59 = .ok (.goto 6, 3) := by decide +kernel
theorem dX4_bearsBy_62 : decode cX4_bearsBy 62 = .ok (.ldc2_w 115, 3) := by decide +kernel
theorem dX4_bearsBy_65 : decode cX4_bearsBy 65 = .ok (.dmul, 1) := by decide +kernel
theorem dX4_bearsBy_66 : decode cX4_bearsBy 66 = .ok (.d2i, 1) := by decide +kernel
theorem dX4_bearsBy_67 : decode cX4_bearsBy 67 = .ok (.ireturn, 1) := by decide +kernel
theorem dX4_speedOn_0 : decode cX4_speedOn 0 = .ok (.aload_n 0, 1) := by decide +kernel
theorem dX4_speedOn_1 : decode cX4_speedOn 1 = .ok (.getfield 57, 3) := by decide +kernel
theorem dX4_speedOn_4 : decode cX4_speedOn 4 = .ok (.iload_n 1, 1) := by decide +kernel
theorem dX4_speedOn_5 : decode cX4_speedOn 5 = .ok (.iaload, 1) := by decide +kernel
theorem dX4_speedOn_6 : decode cX4_speedOn 6 = .ok (.aload_n 0, 1) := by decide +kernel
theorem dX4_speedOn_7 : decode cX4_speedOn 7 = .ok (.getfield 41, 3) := by decide +kernel
theorem dX4_speedOn_10 : decode cX4_speedOn 10 = .ok (.iload_n 2, 1) := by decide +kernel
theorem dX4_speedOn_11 : decode cX4_speedOn 11 = .ok (.iaload, 1) := by decide +kernel
theorem dX4_speedOn_12 : decode cX4_speedOn 12 = .ok (.if_icmp .ge 12, 3) := by decide +kernel
theorem dX4_speedOn_15 : decode cX4_speedOn 15 = .ok (.aload_n 0, 1) := by decide +kernel
theorem dX4_speedOn_16 : decode cX4_speedOn 16 = .ok (.getfield 57, 3) := by decide +kernel
theorem dX4_speedOn_19 : decode cX4_speedOn 19 = .ok (.iload_n 1, 1) := by decide +kernel
theorem dX4_speedOn_20 : decode cX4_speedOn 20 = .ok (.iaload, 1) := by decide +kernel
theorem dX4_speedOn_21 : decode cX4_speedOn 21 = .ok (.goto 9, 3) := by decide +kernel
theorem dX4_speedOn_24 : decode cX4_speedOn 24 = .ok (.aload_n 0, 1) := by decide +kernel
theorem dX4_speedOn_25 : decode cX4_speedOn 25 = .ok (.getfield 41, 3) := by decide +kernel
theorem dX4_speedOn_28 : decode cX4_speedOn 28 = .ok (.iload_n 2, 1) := by decide +kernel
theorem dX4_speedOn_29 : decode cX4_speedOn 29 = .ok (.iaload, 1) := by decide +kernel
theorem dX4_speedOn_30 : decode cX4_speedOn 30 = .ok (.istore_n 3, 1) := by decide +kernel
theorem dX4_speedOn_31 : decode cX4_speedOn 31 = .ok (.ldc2_w 156, 3) := by decide +kernel
theorem dX4_speedOn_34 : decode cX4_speedOn 34 = .ok (.aload_n 0, 1) := by decide +kernel
theorem dX4_speedOn_35 : decode cX4_speedOn 35 = .ok (.getfield 20, 3) := by decide +kernel
theorem dX4_speedOn_38 : decode cX4_speedOn 38 = .ok (.iload_n 2, 1) := by decide +kernel
theorem dX4_speedOn_39 : decode cX4_speedOn 39 = .ok (.iaload, 1) := by decide +kernel
theorem dX4_speedOn_40 : decode cX4_speedOn 40 = .ok (.i2d, 1) := by decide +kernel
theorem dX4_speedOn_41 : decode cX4_speedOn 41 = .ok (.dmul, 1) := by decide +kernel
theorem dX4_speedOn_42 : decode cX4_speedOn 42 = .ok (.dstore 4, 2) := by decide +kernel
theorem dX4_speedOn_44 : decode cX4_speedOn 44 = .ok (.ldc2_w 158, 3) := by decide +kernel
theorem dX4_speedOn_47 : decode cX4_speedOn 47 = .ok (.aload_n 0, 1) := by decide +kernel
theorem dX4_speedOn_48 : decode cX4_speedOn 48 = .ok (.getfield 20, 3) := by decide +kernel
theorem dX4_speedOn_51 : decode cX4_speedOn 51 = .ok (.iload_n 2, 1) := by decide +kernel
theorem dX4_speedOn_52 : decode cX4_speedOn 52 = .ok (.iaload, 1) := by decide +kernel
theorem dX4_speedOn_53 : decode cX4_speedOn 53 = .ok (.i2d, 1) := by decide +kernel
theorem dX4_speedOn_54 : decode cX4_speedOn 54 = .ok (.dmul, 1) := by decide +kernel
theorem dX4_speedOn_55 : decode cX4_speedOn 55 = .ok (.dstore 6, 2) := by decide +kernel
theorem dX4_speedOn_57 : decode cX4_speedOn 57 = .ok (.iload_n 3, 1) := by decide +kernel
theorem dX4_speedOn_58 : decode cX4_speedOn 58 = .ok (.iload_n 3, 1) := by decide +kernel
theorem dX4_speedOn_59 : decode cX4_speedOn 59 = .ok (.imul, 1) := by decide +kernel
theorem dX4_speedOn_60 : decode cX4_speedOn 60 = .ok (.i2d, 1) := by decide +kernel
theorem dX4_speedOn_61 : decode cX4_speedOn 61 = .ok (.dstore 8, 2) := by decide +kernel
theorem dX4_speedOn_63 : decode cX4_speedOn 63 = .ok (.aload_n 0, 1) := by decide +kernel
theorem dX4_speedOn_64 : decode cX4_speedOn 64 = .ok (.iload_n 2, 1) := by decide +kernel
theorem dX4_speedOn_65 : decode cX4_speedOn 65 = .ok (.invokevirtual 112, 3) := by decide +kernel
theorem dX4_speedOn_68 : decode cX4_speedOn 68 = .ok (.ifCond .eq 35, 3) := by decide +kernel
theorem dX4_speedOn_71 : decode cX4_speedOn 71 = .ok (.dload 8, 2) := by decide +kernel
theorem dX4_speedOn_73 : decode cX4_speedOn 73 = .ok (.dload 4, 2) := by decide +kernel
theorem dX4_speedOn_75 : decode cX4_speedOn 75 = .ok (.dcmp .l, 1) := by decide +kernel
theorem dX4_speedOn_76 : decode cX4_speedOn 76 = .ok (.ifCond .le 27, 3) := by decide +kernel
theorem dX4_speedOn_79 : decode cX4_speedOn 79 = .ok (.dload 8, 2) := by decide +kernel
theorem dX4_speedOn_81 : decode cX4_speedOn 81 = .ok (.dload 6, 2) := by decide +kernel
theorem dX4_speedOn_83 : decode cX4_speedOn 83 = .ok (.dcmp .g, 1) := by decide +kernel
theorem dX4_speedOn_84 : decode cX4_speedOn 84 = .ok (.ifCond .ge 19, 3) := by decide +kernel
theorem dX4_speedOn_87 : decode cX4_speedOn 87 = .ok (.iload_n 3, 1) := by decide +kernel
theorem dX4_speedOn_88 : decode cX4_speedOn 88 = .ok (.iload_n 3, 1) := by decide +kernel
theorem dX4_speedOn_89 : decode cX4_speedOn 89 = .ok (.imul, 1) := by decide +kernel
theorem dX4_speedOn_90 : decode cX4_speedOn 90 = .ok (.i2d, 1) := by decide +kernel
theorem dX4_speedOn_91 : decode cX4_speedOn 91 = .ok (.dload 4, 2) := by decide +kernel
theorem dX4_speedOn_93 : decode cX4_speedOn 93 = .ok (.dcmp .l, 1) := by decide +kernel
theorem dX4_speedOn_94 : decode cX4_speedOn 94 = .ok (.ifCond .le 9, 3) := by decide +kernel
theorem dX4_speedOn_97 : decode cX4_speedOn 97 = .ok (.iinc 3 (-1), 3) := by decide +kernel
theorem dX4_speedOn_100 : decode cX4_speedOn 100 = .ok (.goto (-13), 3) := by decide +kernel
theorem dX4_speedOn_103 : decode cX4_speedOn 103 = .ok (.iload_n 3, 1) := by decide +kernel
theorem dX4_speedOn_104 : decode cX4_speedOn 104 = .ok (.ireturn, 1) := by decide +kernel
theorem dX4_minutesOn_0 : decode cX4_minutesOn 0 = .ok (.bipush 6, 2) := by decide +kernel
theorem dX4_minutesOn_2 : decode cX4_minutesOn 2 = .ok (.aload_n 0, 1) := by decide +kernel
theorem dX4_minutesOn_3 : decode cX4_minutesOn 3 = .ok (.iload_n 1, 1) := by decide +kernel
theorem dX4_minutesOn_4 : decode cX4_minutesOn 4 = .ok (.iload_n 2, 1) := by decide +kernel
theorem dX4_minutesOn_5 : decode cX4_minutesOn 5 = .ok (.invokevirtual 160, 3) := by decide +kernel
theorem dX4_minutesOn_8 : decode cX4_minutesOn 8 = .ok (.imul, 1) := by decide +kernel
theorem dX4_minutesOn_9 : decode cX4_minutesOn 9 = .ok (.istore_n 3, 1) := by decide +kernel
theorem dX4_minutesOn_10 : decode cX4_minutesOn 10 = .ok (.aload_n 0, 1) := by decide +kernel
theorem dX4_minutesOn_11 : decode cX4_minutesOn 11 = .ok (.getfield 17, 3) := by decide +kernel
theorem dX4_minutesOn_14 : decode cX4_minutesOn 14 = .ok (.iload_n 2, 1) := by decide +kernel
theorem dX4_minutesOn_15 : decode cX4_minutesOn 15 = .ok (.iaload, 1) := by decide +kernel
theorem dX4_minutesOn_16 : decode cX4_minutesOn 16 = .ok (.iload_n 3, 1) := by decide +kernel
theorem dX4_minutesOn_17 : decode cX4_minutesOn 17 = .ok (.iadd, 1) := by decide +kernel
theorem dX4_minutesOn_18 : decode cX4_minutesOn 18 = .ok (.iconst 1, 1) := by decide +kernel
theorem dX4_minutesOn_19 : decode cX4_minutesOn 19 = .ok (.isub, 1) := by decide +kernel
theorem dX4_minutesOn_20 : decode cX4_minutesOn 20 = .ok (.iload_n 3, 1) := by decide +kernel
theorem dX4_minutesOn_21 : decode cX4_minutesOn 21 = .ok (.idiv, 1) := by decide +kernel
theorem dX4_minutesOn_22 : decode cX4_minutesOn 22 = .ok (.ireturn, 1) := by decide +kernel
theorem dX4_weights_0 : decode cX4_weights 0 = .ok (.iconst 0, 1) := by decide +kernel
theorem dX4_weights_1 : decode cX4_weights 1 = .ok (.istore_n 2, 1) := by decide +kernel
theorem dX4_weights_2 : decode cX4_weights 2 = .ok (.iconst 0, 1) := by decide +kernel
theorem dX4_weights_3 : decode cX4_weights 3 = .ok (.istore_n 3, 1) := by decide +kernel
theorem dX4_weights_4 : decode cX4_weights 4 = .ok (.iload_n 3, 1) := by decide +kernel
theorem dX4_weights_5 : decode cX4_weights 5 = .ok (.aload_n 0, 1) := by decide +kernel
theorem dX4_weights_6 : decode cX4_weights 6 = .ok (.getfield 98, 3) := by decide +kernel
theorem dX4_weights_9 : decode cX4_weights 9 = .ok (.if_icmp .ge 41, 3) := by decide +kernel
theorem dX4_weights_12 : decode cX4_weights 12 = .ok (.iload_n 2, 1) := by decide +kernel
theorem dX4_weights_13 : decode cX4_weights 13 = .ok (.aload_n 0, 1) := by decide +kernel
theorem dX4_weights_14 : decode cX4_weights 14 = .ok (.getfield 60, 3) := by decide +kernel
theorem dX4_weights_17 : decode cX4_weights 17 = .ok (.iload_n 3, 1) := by decide +kernel
theorem dX4_weights_18 : decode cX4_weights 18 = .ok (.iaload, 1) := by decide +kernel
theorem dX4_weights_19 : decode cX4_weights 19 = .ok (.iconst 1, 1) := by decide +kernel
theorem dX4_weights_20 : decode cX4_weights 20 = .ok (.if_icmp .ne 21, 3) := by decide +kernel
theorem dX4_weights_23 : decode cX4_weights 23 = .ok (.aload_n 0, 1) := by decide +kernel
theorem dX4_weights_24 : decode cX4_weights 24 = .ok (.getfield 63, 3) := by decide +kernel
theorem dX4_weights_27 : decode cX4_weights 27 = .ok (.iload_n 3, 1) := by decide +kernel
theorem dX4_weights_28 : decode cX4_weights 28 = .ok (.iaload, 1) := by decide +kernel
theorem dX4_weights_29 : decode cX4_weights 29 = .ok (.iload_n 1, 1) := by decide +kernel
theorem dX4_weights_30 : decode cX4_weights 30 = .ok (.if_icmp .ne 11, 3) := by decide +kernel
theorem dX4_weights_33 : decode cX4_weights 33 = .ok (.aload_n 0, 1) := by decide +kernel
theorem dX4_weights_34 : decode cX4_weights 34 = .ok (.iload_n 3, 1) := by decide +kernel
theorem dX4_weights_35 : decode cX4_weights 35 = .ok (.invokevirtual 129, 3) := by decide +kernel
theorem dX4_weights_38 : decode cX4_weights 38 = .ok (.goto 4, 3) := by decide +kernel
theorem dX4_weights_41 : decode cX4_weights 41 = .ok (.iconst 0, 1) := by decide +kernel
theorem dX4_weights_42 : decode cX4_weights 42 = .ok (.iadd, 1) := by decide +kernel
theorem dX4_weights_43 : decode cX4_weights 43 = .ok (.istore_n 2, 1) := by decide +kernel
theorem dX4_weights_44 : decode cX4_weights 44 = .ok (.iinc 3 1, 3) := by decide +kernel
theorem dX4_weights_47 : decode cX4_weights 47 = .ok (.goto (-43), 3) := by decide +kernel
theorem dX4_weights_50 : decode cX4_weights 50 = .ok (.iload_n 2, 1) := by decide +kernel
theorem dX4_weights_51 : decode cX4_weights 51 = .ok (.ireturn, 1) := by decide +kernel
theorem dX4_isMet_0 : decode cX4_isMet 0 = .ok (.iconst 0, 1) := by decide +kernel
theorem dX4_isMet_1 : decode cX4_isMet 1 = .ok (.istore_n 3, 1) := by decide +kernel
theorem dX4_isMet_2 : decode cX4_isMet 2 = .ok (.iconst 0, 1) := by decide +kernel
theorem dX4_isMet_3 : decode cX4_isMet 3 = .ok (.istore 4, 2) := by decide +kernel
theorem dX4_isMet_5 : decode cX4_isMet 5 = .ok (.iload 4, 2) := by decide +kernel
theorem dX4_isMet_7 : decode cX4_isMet 7 = .ok (.aload_n 0, 1) := by decide +kernel
theorem dX4_isMet_8 : decode cX4_isMet 8 = .ok (.getfield 98, 3) := by decide +kernel
theorem dX4_isMet_11 : decode cX4_isMet 11 = .ok (.if_icmp .ge 57, 3) := by decide +kernel
theorem dX4_isMet_14 : decode cX4_isMet 14 = .ok (.iload_n 3, 1) := by decide +kernel
theorem dX4_isMet_15 : decode cX4_isMet 15 = .ok (.ifCond .ne 41, 3) := by decide +kernel
theorem dX4_isMet_18 : decode cX4_isMet 18 = .ok (.aload_n 0, 1) := by decide +kernel
theorem dX4_isMet_19 : decode cX4_isMet 19 = .ok (.getfield 60, 3) := by decide +kernel
theorem dX4_isMet_22 : decode cX4_isMet 22 = .ok (.iload 4, 2) := by decide +kernel
theorem dX4_isMet_24 : decode cX4_isMet 24 = .ok (.iaload, 1) := by decide +kernel
theorem dX4_isMet_25 : decode cX4_isMet 25 = .ok (.iconst 1, 1) := by decide +kernel
theorem dX4_isMet_26 : decode cX4_isMet 26 = .ok (.if_icmp .ne 34, 3) := by decide +kernel
theorem dX4_isMet_29 : decode cX4_isMet 29 = .ok (.aload_n 0, 1) := by decide +kernel
theorem dX4_isMet_30 : decode cX4_isMet 30 = .ok (.getfield 63, 3) := by decide +kernel
theorem dX4_isMet_33 : decode cX4_isMet 33 = .ok (.iload 4, 2) := by decide +kernel
theorem dX4_isMet_35 : decode cX4_isMet 35 = .ok (.iaload, 1) := by decide +kernel
theorem dX4_isMet_36 : decode cX4_isMet 36 = .ok (.iload_n 2, 1) := by decide +kernel
theorem dX4_isMet_37 : decode cX4_isMet 37 = .ok (.if_icmp .ne 23, 3) := by decide +kernel
theorem dX4_isMet_40 : decode cX4_isMet 40 = .ok (.aload_n 0, 1) := by decide +kernel
theorem dX4_isMet_41 : decode cX4_isMet 41 = .ok (.getfield 66, 3) := by decide +kernel
theorem dX4_isMet_44 : decode cX4_isMet 44 = .ok (.iload 4, 2) := by decide +kernel
theorem dX4_isMet_46 : decode cX4_isMet 46 = .ok (.baload, 1) := by decide +kernel
theorem dX4_isMet_47 : decode cX4_isMet 47 = .ok (.aload_n 0, 1) := by decide +kernel
theorem dX4_isMet_48 : decode cX4_isMet 48 = .ok (.getfield 66, 3) := by decide +kernel
theorem dX4_isMet_51 : decode cX4_isMet 51 = .ok (.iload_n 1, 1) := by decide +kernel
theorem dX4_isMet_52 : decode cX4_isMet 52 = .ok (.baload, 1) := by decide +kernel
theorem dX4_isMet_53 : decode cX4_isMet 53 = .ok (.if_icmp .eq 7, 3) := by decide +kernel
theorem dX4_isMet_56 : decode cX4_isMet 56 = .ok (.iconst 1, 1) := by decide +kernel
theorem dX4_isMet_57 : decode cX4_isMet 57 = .ok (.goto 4, 3) := by decide +kernel
theorem dX4_isMet_60 : decode cX4_isMet 60 = .ok (.iconst 0, 1) := by decide +kernel
theorem dX4_isMet_61 : decode cX4_isMet 61 = .ok (.istore_n 3, 1) := by decide +kernel
theorem dX4_isMet_62 : decode cX4_isMet 62 = .ok (.iinc 4 1, 3) := by decide +kernel
theorem dX4_isMet_65 : decode cX4_isMet 65 = .ok (.goto (-60), 3) := by decide +kernel
theorem dX4_isMet_68 : decode cX4_isMet 68 = .ok (.iload_n 3, 1) := by decide +kernel
theorem dX4_isMet_69 : decode cX4_isMet 69 = .ok (.ireturn, 1) := by decide +kernel
theorem dX4_nextPiece_0 : decode cX4_nextPiece 0 = .ok (.aload_n 0, 1) := by decide +kernel
theorem dX4_nextPiece_1 : decode cX4_nextPiece 1 = .ok (.getfield 66, 3) := by decide +kernel
theorem dX4_nextPiece_4 : decode cX4_nextPiece 4 = .ok (.iload_n 1, 1) := by decide +kernel
theorem dX4_nextPiece_5 : decode cX4_nextPiece 5 = .ok (.baload, 1) := by decide +kernel
theorem dX4_nextPiece_6 : decode cX4_nextPiece 6 = .ok (.ifCond .eq 12, 3) := by decide +kernel
theorem dX4_nextPiece_9 : decode cX4_nextPiece 9 = .ok (.aload_n 0, 1) := by decide +kernel
theorem dX4_nextPiece_10 : decode cX4_nextPiece 10 = .ok (.getfield 63, 3) := by decide +kernel
theorem dX4_nextPiece_13 : decode cX4_nextPiece 13 = .ok (.iload_n 1, 1) := by decide +kernel
theorem dX4_nextPiece_14 : decode cX4_nextPiece 14 = .ok (.iaload, 1) := by decide +kernel
theorem dX4_nextPiece_15 : decode cX4_nextPiece 15 = .ok (.goto 11, 3) := by decide +kernel
theorem dX4_nextPiece_18 : decode cX4_nextPiece 18 = .ok (.aload_n 0, 1) := by decide +kernel
theorem dX4_nextPiece_19 : decode cX4_nextPiece 19 = .ok (.getfield 63, 3) := by decide +kernel
theorem dX4_nextPiece_22 : decode cX4_nextPiece 22 = .ok (.iload_n 1, 1) := by decide +kernel
theorem dX4_nextPiece_23 : decode cX4_nextPiece 23 = .ok (.iaload, 1) := by decide +kernel
theorem dX4_nextPiece_24 : decode cX4_nextPiece 24 = .ok (.iconst 1, 1) := by decide +kernel
theorem dX4_nextPiece_25 : decode cX4_nextPiece 25 = .ok (.isub, 1) := by decide +kernel
theorem dX4_nextPiece_26 : decode cX4_nextPiece 26 = .ok (.ireturn, 1) := by decide +kernel
theorem dX4_against_0 : decode cX4_against 0 = .ok (.aload_n 0, 1) := by decide +kernel
theorem dX4_against_1 : decode cX4_against 1 = .ok (.iload_n 1, 1) := by decide +kernel
theorem dX4_against_2 : decode cX4_against 2 = .ok (.invokevirtual 164, 3) := by decide +kernel
theorem dX4_against_5 : decode cX4_against 5 = .ok (.istore_n 2, 1) := by decide +kernel
theorem dX4_against_6 : decode cX4_against 6 = .ok (.aload_n 0, 1) := by decide +kernel
theorem dX4_against_7 : decode cX4_against 7 = .ok (.getfield 38, 3) := by decide +kernel
theorem dX4_against_10 : decode cX4_against 10 = .ok (.iload_n 2, 1) := by decide +kernel
theorem dX4_against_11 : decode cX4_against 11 = .ok (.iaload, 1) := by decide +kernel
theorem dX4_against_12 : decode cX4_against 12 = .ok (.ifCond .ne 5, 3) := by decide +kernel
theorem dX4_against_15 : decode cX4_against 15 = .ok (.iconst 1, 1) := by decide +kernel
theorem dX4_against_16 : decode cX4_against 16 = .ok (.ireturn, 1) := by decide +kernel
theorem dX4_against_17 : decode cX4_against 17 = .ok (.aload_n 0, 1) := by decide +kernel
theorem dX4_against_18 : decode cX4_against 18 = .ok (.iload_n 2, 1) := by decide +kernel
theorem dX4_against_19 : decode cX4_against 19 = .ok (.invokevirtual 112, 3) := by decide +kernel
theorem dX4_against_22 : decode cX4_against 22 = .ok (.ifCond .eq 32, 3) := by decide +kernel
theorem dX4_against_25 : decode cX4_against 25 = .ok (.aload_n 0, 1) := by decide +kernel
theorem dX4_against_26 : decode cX4_against 26 = .ok (.getfield 106, 3) := by decide +kernel
theorem dX4_against_29 : decode cX4_against 29 = .ok (.ifCond .ge 25, 3) := by decide +kernel
theorem dX4_against_32 : decode cX4_against 32 = .ok (.aload_n 0, 1) := by decide +kernel
theorem dX4_against_33 : decode cX4_against 33 = .ok (.getfield 167, 3) := by decide +kernel
theorem dX4_against_36 : decode cX4_against 36 = .ok (.sipush 1440, 3) := by decide +kernel
theorem dX4_against_39 : decode cX4_against 39 = .ok (.irem, 1) := by decide +kernel
theorem dX4_against_40 : decode cX4_against 40 = .ok (.sipush 480, 3) := by decide +kernel
theorem dX4_against_43 : decode cX4_against 43 = .ok (.sipush 1199, 3) := by decide +kernel
theorem dX4_against_46 : decode cX4_against 46 = .ok (.invokestatic 94, 3) := by decide +kernel
theorem dX4_against_49 : decode cX4_against 49 = .ok (.ifCond .eq 5, 3) := by decide +kernel
theorem dX4_against_52 : decode cX4_against 52 = .ok (.iconst 2, 1) := by decide +kernel
theorem dX4_against_53 : decode cX4_against 53 = .ok (.ireturn, 1) := by decide +kernel
theorem dX4_against_54 : decode cX4_against 54 = .ok (.aload_n 0, 1) := by decide +kernel
theorem dX4_against_55 : decode cX4_against 55 = .ok (.getfield 38, 3) := by decide +kernel
theorem dX4_against_58 : decode cX4_against 58 = .ok (.iload_n 2, 1) := by decide +kernel
theorem dX4_against_59 : decode cX4_against 59 = .ok (.iaload, 1) := by decide +kernel
theorem dX4_against_60 : decode cX4_against 60 = .ok (.iconst 1, 1) := by decide +kernel
theorem dX4_against_61 : decode cX4_against 61 = .ok (.if_icmp .ne 16, 3) := by decide +kernel
theorem dX4_against_64 : decode cX4_against 64 = .ok (.aload_n 0, 1) := by decide +kernel
theorem dX4_against_65 : decode cX4_against 65 = .ok (.iload_n 1, 1) := by decide +kernel
theorem dX4_against_66 : decode cX4_against 66 = .ok (.invokevirtual 129, 3) := by decide +kernel
theorem dX4_against_69 : decode cX4_against 69 = .ok (.sipush 5000, 3) := by decide +kernel
theorem dX4_against_72 : decode cX4_against 72 = .ok (.if_icmp .le 5, 3) := by decide +kernel
theorem dX4_against_75 : decode cX4_against 75 = .ok (.iconst 3, 1) := by decide +kernel
theorem dX4_against_76 : decode cX4_against 76 = .ok (.ireturn, 1) := by decide +kernel
theorem dX4_against_77 : decode cX4_against 77 = .ok (.aload_n 0, 1) := by decide +kernel
theorem dX4_against_78 : decode cX4_against 78 = .ok (.getfield 167, 3) := by decide +kernel
theorem dX4_against_81 : decode cX4_against 81 = .ok (.aload_n 0, 1) := by decide +kernel
theorem dX4_against_82 : decode cX4_against 82 = .ok (.getfield 48, 3) := by decide +kernel
theorem dX4_against_85 : decode cX4_against 85 = .ok (.iconst 2, 1) := by decide +kernel
theorem dX4_against_86 : decode cX4_against 86 = .ok (.iload_n 2, 1) := by decide +kernel
theorem dX4_against_87 : decode cX4_against 87 = .ok (.imul, 1) := by decide +kernel
theorem dX4_against_88 : decode cX4_against 88 = .ok (.aload_n 0, 1) := by decide +kernel
theorem dX4_against_89 : decode cX4_against 89 = .ok (.getfield 66, 3) := by decide +kernel
theorem dX4_against_92 : decode cX4_against 92 = .ok (.iload_n 1, 1) := by decide +kernel
theorem dX4_against_93 : decode cX4_against 93 = .ok (.baload, 1) := by decide +kernel
theorem dX4_against_94 : decode cX4_against 94 = .ok (.ifCond .eq 7, 3) := by decide +kernel
theorem dX4_against_97 : decode cX4_against 97 = .ok (.iconst 1, 1) := by decide +kernel
theorem dX4_against_98 : decode cX4_against 98 = .ok (.goto 4, 3) := by decide +kernel
theorem dX4_against_101 : decode cX4_against 101 = .ok (.iconst 0, 1) := by decide +kernel
theorem dX4_against_102 : decode cX4_against 102 = .ok (.iadd, 1) := by decide +kernel
theorem dX4_against_103 : decode cX4_against 103 = .ok (.iaload, 1) := by decide +kernel
theorem dX4_against_104 : decode cX4_against 104 = .ok (.isub, 1) := by decide +kernel
theorem dX4_against_105 : decode cX4_against 105 = .ok (.aload_n 0, 1) := by decide +kernel
theorem dX4_against_106 : decode cX4_against 106 = .ok (.getfield 7, 3) := by decide +kernel
theorem dX4_against_109 : decode cX4_against 109 = .ok (.if_icmp .ge 5, 3) := by decide +kernel
theorem dX4_against_112 : decode cX4_against 112 = .ok (.iconst 4, 1) := by decide +kernel
theorem dX4_against_113 : decode cX4_against 113 = .ok (.ireturn, 1) := by decide +kernel
theorem dX4_against_114 : decode cX4_against 114 = .ok (.aload_n 0, 1) := by decide +kernel
theorem dX4_against_115 : decode cX4_against 115 = .ok (.getfield 13, 3) := by decide +kernel
theorem dX4_against_118 : decode cX4_against 118 = .ok (.iload_n 2, 1) := by decide +kernel
theorem dX4_against_119 : decode cX4_against 119 = .ok (.iaload, 1) := by decide +kernel
theorem dX4_against_120 : decode cX4_against 120 = .ok (.ifCond .eq 14, 3) := by decide +kernel
theorem dX4_against_123 : decode cX4_against 123 = .ok (.aload_n 0, 1) := by decide +kernel
theorem dX4_against_124 : decode cX4_against 124 = .ok (.iload_n 1, 1) := by decide +kernel
theorem dX4_against_125 : decode cX4_against 125 = .ok (.iload_n 2, 1) := by decide +kernel
theorem dX4_against_126 : decode cX4_against 126 = .ok (.invokevirtual 170, 3) := by decide +kernel
theorem dX4_against_129 : decode cX4_against 129 = .ok (.ifCond .eq 5, 3) := by decide +kernel
theorem dX4_against_132 : decode cX4_against 132 = .ok (.iconst 5, 1) := by decide +kernel
theorem dX4_against_133 : decode cX4_against 133 = .ok (.ireturn, 1) := by decide +kernel
theorem dX4_against_134 : decode cX4_against 134 = .ok (.aload_n 0, 1) := by decide +kernel
theorem dX4_against_135 : decode cX4_against 135 = .ok (.iload_n 1, 1) := by decide +kernel
theorem dX4_against_136 : decode cX4_against 136 = .ok (.invokevirtual 129, 3) := by decide +kernel
theorem dX4_against_139 : decode cX4_against 139 = .ok (.aload_n 0, 1) := by decide +kernel
theorem dX4_against_140 : decode cX4_against 140 = .ok (.iload_n 2, 1) := by decide +kernel
theorem dX4_against_141 : decode cX4_against 141 = .ok (.invokevirtual 174, 3) := by decide +kernel
theorem dX4_against_144 : decode cX4_against 144 = .ok (.iadd, 1) := by decide +kernel
theorem dX4_against_145 : decode cX4_against 145 = .ok (.aload_n 0, 1) := by decide +kernel
theorem dX4_against_146 : decode cX4_against 146 = .ok (.iload_n 2, 1) := by decide +kernel
theorem dX4_against_147 : decode cX4_against 147 = .ok (.aload_n 0, 1) := by decide +kernel
theorem dX4_against_148 : decode cX4_against 148 = .ok (.getfield 44, 3) := by decide +kernel
theorem dX4_against_151 : decode cX4_against 151 = .ok (.iload_n 2, 1) := by decide +kernel
theorem dX4_against_152 : decode cX4_against 152 = .ok (.daload, 1) := by decide +kernel
theorem dX4_against_153 : decode cX4_against 153 = .ok (.invokevirtual 177, 3) := by decide +kernel
theorem dX4_against_156 : decode cX4_against 156 = .ok (.if_icmp .le 8, 3) := by decide +kernel
theorem dX4_against_159 : decode cX4_against 159 = .ok (.bipush 6, 2) := by decide +kernel
theorem dX4_against_161 : decode cX4_against 161 = .ok (.goto 4, 3) := by decide +kernel
theorem dX4_against_164 : decode cX4_against 164 = .ok (.iconst 0, 1) := by decide +kernel
theorem dX4_against_165 : decode cX4_against 165 = .ok (.ireturn, 1) := by decide +kernel
theorem dX4_leaves_0 : decode cX4_leaves 0 = .ok (.aload_n 0, 1) := by decide +kernel
theorem dX4_leaves_1 : decode cX4_leaves 1 = .ok (.getfield 63, 3) := by decide +kernel
theorem dX4_leaves_4 : decode cX4_leaves 4 = .ok (.iload_n 1, 1) := by decide +kernel
theorem dX4_leaves_5 : decode cX4_leaves 5 = .ok (.iaload, 1) := by decide +kernel
theorem dX4_leaves_6 : decode cX4_leaves 6 = .ok (.istore_n 2, 1) := by decide +kernel
theorem dX4_leaves_7 : decode cX4_leaves 7 = .ok (.aload_n 0, 1) := by decide +kernel
theorem dX4_leaves_8 : decode cX4_leaves 8 = .ok (.iload_n 2, 1) := by decide +kernel
theorem dX4_leaves_9 : decode cX4_leaves 9 = .ok (.invokevirtual 112, 3) := by decide +kernel
theorem dX4_leaves_12 : decode cX4_leaves 12 = .ok (.ifCond .eq 35, 3) := by decide +kernel
theorem dX4_leaves_15 : decode cX4_leaves 15 = .ok (.aload_n 0, 1) := by decide +kernel
theorem dX4_leaves_16 : decode cX4_leaves 16 = .ok (.getfield 23, 3) := by decide +kernel
theorem dX4_leaves_19 : decode cX4_leaves 19 = .ok (.iload_n 2, 1) := by decide +kernel
theorem dX4_leaves_20 : decode cX4_leaves 20 = .ok (.iaload, 1) := by decide +kernel
theorem dX4_leaves_21 : decode cX4_leaves 21 = .ok (.aload_n 0, 1) := by decide +kernel
theorem dX4_leaves_22 : decode cX4_leaves 22 = .ok (.iload_n 1, 1) := by decide +kernel
theorem dX4_leaves_23 : decode cX4_leaves 23 = .ok (.invokevirtual 129, 3) := by decide +kernel
theorem dX4_leaves_26 : decode cX4_leaves 26 = .ok (.sipush 20000, 3) := by decide +kernel
theorem dX4_leaves_29 : decode cX4_leaves 29 = .ok (.idiv, 1) := by decide +kernel
theorem dX4_leaves_30 : decode cX4_leaves 30 = .ok (.isub, 1) := by decide +kernel
theorem dX4_leaves_31 : decode cX4_leaves 31 = .ok (.istore_n 3, 1) := by decide +kernel
theorem dX4_leaves_32 : decode cX4_leaves 32 = .ok (.aload_n 0, 1) := by decide +kernel
theorem dX4_leaves_33 : decode cX4_leaves 33 = .ok (.getfield 23, 3) := by decide +kernel
theorem dX4_leaves_36 : decode cX4_leaves 36 = .ok (.iload_n 2, 1) := by decide +kernel
theorem dX4_leaves_37 : decode cX4_leaves 37 = .ok (.iload_n 3, 1) := by decide +kernel
theorem dX4_leaves_38 : decode cX4_leaves 38 = .ok (.ifCond .ge 7, 3) := by decide +kernel
theorem dX4_leaves_41 : decode cX4_leaves 41 = .ok (.iconst 0, 1) := by decide +kernel
theorem dX4_leaves_42 : decode cX4_leaves 42 = .ok (.goto 4, 3) := by decide +kernel
theorem dX4_leaves_45 : decode cX4_leaves 45 = .ok (.iload_n 3, 1) := by decide +kernel
theorem dX4_leaves_46 : decode cX4_leaves 46 = .ok (.iastore, 1) := by decide +kernel
theorem dX4_leaves_47 : decode cX4_leaves 47 = .ok (.aload_n 0, 1) := by decide +kernel
theorem dX4_leaves_48 : decode cX4_leaves 48 = .ok (.getfield 63, 3) := by decide +kernel
theorem dX4_leaves_51 : decode cX4_leaves 51 = .ok (.iload_n 1, 1) := by decide +kernel
theorem dX4_leaves_52 : decode cX4_leaves 52 = .ok (.aload_n 0, 1) := by decide +kernel
theorem dX4_leaves_53 : decode cX4_leaves 53 = .ok (.getfield 66, 3) := by decide +kernel
theorem dX4_leaves_56 : decode cX4_leaves 56 = .ok (.iload_n 1, 1) := by decide +kernel
theorem dX4_leaves_57 : decode cX4_leaves 57 = .ok (.baload, 1) := by decide +kernel
theorem dX4_leaves_58 : decode cX4_leaves 58 = .ok (.ifCond .eq 9, 3) := by decide +kernel
theorem dX4_leaves_61 : decode cX4_leaves 61 = .ok (.iload_n 2, 1) := by decide +kernel
theorem dX4_leaves_62 : decode cX4_leaves 62 = .ok (.iconst 1, 1) := by decide +kernel
theorem dX4_leaves_63 : decode cX4_leaves 63 = .ok (.iadd, 1) := by decide +kernel
theorem dX4_leaves_64 : decode cX4_leaves 64 = .ok (.goto 4, 3) := by decide +kernel
theorem dX4_leaves_67 : decode cX4_leaves 67 = .ok (.iload_n 2, 1) := by decide +kernel
theorem dX4_leaves_68 : decode cX4_leaves 68 = .ok (.iastore, 1) := by decide +kernel
theorem dX4_leaves_69 : decode cX4_leaves 69 = .ok (.aload_n 0, 1) := by decide +kernel
theorem dX4_leaves_70 : decode cX4_leaves 70 = .ok (.getfield 60, 3) := by decide +kernel
theorem dX4_leaves_73 : decode cX4_leaves 73 = .ok (.iload_n 1, 1) := by decide +kernel
theorem dX4_leaves_74 : decode cX4_leaves 74 = .ok (.iconst 2, 1) := by decide +kernel
theorem dX4_leaves_75 : decode cX4_leaves 75 = .ok (.iastore, 1) := by decide +kernel
theorem dX4_leaves_76 : decode cX4_leaves 76 = .ok (.aload_n 0, 1) := by decide +kernel
theorem dX4_leaves_77 : decode cX4_leaves 77 = .ok (.iload_n 1, 1) := by decide +kernel
theorem dX4_leaves_78 : decode cX4_leaves 78 = .ok (.invokevirtual 137, 3) := by decide +kernel
theorem dX4_leaves_81 : decode cX4_leaves 81 = .ok (.ifCond .eq 8, 3) := by decide +kernel
theorem dX4_leaves_84 : decode cX4_leaves 84 = .ok (.aload_n 0, 1) := by decide +kernel
theorem dX4_leaves_85 : decode cX4_leaves 85 = .ok (.iload_n 1, 1) := by decide +kernel
theorem dX4_leaves_86 : decode cX4_leaves 86 = .ok (.invokevirtual 140, 3) := by decide +kernel
theorem dX4_leaves_89 : decode cX4_leaves 89 = .ok (.return_, 1) := by decide +kernel
theorem dX4_comes_0 : decode cX4_comes 0 = .ok (.aload_n 0, 1) := by decide +kernel
theorem dX4_comes_1 : decode cX4_comes 1 = .ok (.iload_n 1, 1) := by decide +kernel
theorem dX4_comes_2 : decode cX4_comes 2 = .ok (.invokevirtual 164, 3) := by decide +kernel
theorem dX4_comes_5 : decode cX4_comes 5 = .ok (.istore_n 2, 1) := by decide +kernel
theorem dX4_comes_6 : decode cX4_comes 6 = .ok (.aload_n 0, 1) := by decide +kernel
theorem dX4_comes_7 : decode cX4_comes 7 = .ok (.iload_n 1, 1) := by decide +kernel
theorem dX4_comes_8 : decode cX4_comes 8 = .ok (.invokevirtual 129, 3) := by decide +kernel
theorem dX4_comes_11 : decode cX4_comes 11 = .ok (.aload_n 0, 1) := by decide +kernel
theorem dX4_comes_12 : decode cX4_comes 12 = .ok (.iload_n 2, 1) := by decide +kernel
theorem dX4_comes_13 : decode cX4_comes 13 = .ok (.invokevirtual 174, 3) := by decide +kernel
theorem dX4_comes_16 : decode cX4_comes 16 = .ok (.iadd, 1) := by decide +kernel
theorem dX4_comes_17 : decode cX4_comes 17 = .ok (.aload_n 0, 1) := by decide +kernel
theorem dX4_comes_18 : decode cX4_comes 18 = .ok (.iload_n 2, 1) := by decide +kernel
theorem dX4_comes_19 : decode cX4_comes 19 = .ok (.aload_n 0, 1) := by decide +kernel
theorem dX4_comes_20 : decode cX4_comes 20 = .ok (.iload_n 2, 1) := by decide +kernel
theorem dX4_comes_21 : decode cX4_comes 21 = .ok (.invokevirtual 117, 3) := by decide +kernel
theorem dX4_comes_24 : decode cX4_comes 24 = .ok (.invokevirtual 177, 3) := by decide +kernel
theorem dX4_comes_27 : decode cX4_comes 27 = .ok (.if_icmp .le 7, 3) := by decide +kernel
theorem dX4_comes_30 : decode cX4_comes 30 = .ok (.iconst 1, 1) := by decide +kernel
theorem dX4_comes_31 : decode cX4_comes 31 = .ok (.goto 4, 3) := by decide +kernel
theorem dX4_comes_34 : decode cX4_comes 34 = .ok (.iconst 0, 1) := by decide +kernel
theorem dX4_comes_35 : decode cX4_comes 35 = .ok (.istore_n 3, 1) := by decide +kernel
theorem dX4_comes_36 : decode cX4_comes 36 = .ok (.aload_n 0, 1) := by decide +kernel
theorem dX4_comes_37 : decode cX4_comes 37 = .ok (.getfield 48, 3) := by decide +kernel
theorem dX4_comes_40 : decode cX4_comes 40 = .ok (.iconst 2, 1) := by decide +kernel
theorem dX4_comes_41 : decode cX4_comes 41 = .ok (.iload_n 2, 1) := by decide +kernel
theorem dX4_comes_42 : decode cX4_comes 42 = .ok (.imul, 1) := by decide +kernel
theorem dX4_comes_43 : decode cX4_comes 43 = .ok (.aload_n 0, 1) := by decide +kernel
theorem dX4_comes_44 : decode cX4_comes 44 = .ok (.getfield 66, 3) := by decide +kernel
theorem dX4_comes_47 : decode cX4_comes 47 = .ok (.iload_n 1, 1) := by decide +kernel
theorem dX4_comes_48 : decode cX4_comes 48 = .ok (.baload, 1) := by decide +kernel
theorem dX4_comes_49 : decode cX4_comes 49 = .ok (.ifCond .eq 7, 3) := by decide +kernel
theorem dX4_comes_52 : decode cX4_comes 52 = .ok (.iconst 1, 1) := by decide +kernel
theorem dX4_comes_53 : decode cX4_comes 53 = .ok (.goto 4, 3) := by decide +kernel
theorem dX4_comes_56 : decode cX4_comes 56 = .ok (.iconst 0, 1) := by decide +kernel
theorem dX4_comes_57 : decode cX4_comes 57 = .ok (.iadd, 1) := by decide +kernel
theorem dX4_comes_58 : decode cX4_comes 58 = .ok (.aload_n 0, 1) := by decide +kernel
theorem dX4_comes_59 : decode cX4_comes 59 = .ok (.getfield 167, 3) := by decide +kernel
theorem dX4_comes_62 : decode cX4_comes 62 = .ok (.iastore, 1) := by decide +kernel
theorem dX4_comes_63 : decode cX4_comes 63 = .ok (.aload_n 0, 1) := by decide +kernel
theorem dX4_comes_64 : decode cX4_comes 64 = .ok (.getfield 63, 3) := by decide +kernel
theorem dX4_comes_67 : decode cX4_comes 67 = .ok (.iload_n 1, 1) := by decide +kernel
theorem dX4_comes_68 : decode cX4_comes 68 = .ok (.iload_n 2, 1) := by decide +kernel
theorem dX4_comes_69 : decode cX4_comes 69 = .ok (.iastore, 1) := by decide +kernel
theorem dX4_comes_70 : decode cX4_comes 70 = .ok (.aload_n 0, 1) := by decide +kernel
theorem dX4_comes_71 : decode cX4_comes 71 = .ok (.getfield 60, 3) := by decide +kernel
theorem dX4_comes_74 : decode cX4_comes 74 = .ok (.iload_n 1, 1) := by decide +kernel
theorem dX4_comes_75 : decode cX4_comes 75 = .ok (.iload_n 3, 1) := by decide +kernel
theorem dX4_comes_76 : decode cX4_comes 76 = .ok (.ifCond .eq 7, 3) := by decide +kernel
theorem dX4_comes_79 : decode cX4_comes 79 = .ok (.iconst 4, 1) := by decide +kernel
theorem dX4_comes_80 : decode cX4_comes 80 = .ok (.goto 4, 3) := by decide +kernel
theorem dX4_comes_83 : decode cX4_comes 83 = .ok (.iconst 1, 1) := by decide +kernel
theorem dX4_comes_84 : decode cX4_comes 84 = .ok (.iastore, 1) := by decide +kernel
theorem dX4_comes_85 : decode cX4_comes 85 = .ok (.aload_n 0, 1) := by decide +kernel
theorem dX4_comes_86 : decode cX4_comes 86 = .ok (.getfield 70, 3) := by decide +kernel
theorem dX4_comes_89 : decode cX4_comes 89 = .ok (.iload_n 1, 1) := by decide +kernel
theorem dX4_comes_90 : decode cX4_comes 90 = .ok (.aload_n 0, 1) := by decide +kernel
theorem dX4_comes_91 : decode cX4_comes 91 = .ok (.getfield 167, 3) := by decide +kernel
theorem dX4_comes_94 : decode cX4_comes 94 = .ok (.aload_n 0, 1) := by decide +kernel
theorem dX4_comes_95 : decode cX4_comes 95 = .ok (.iload_n 1, 1) := by decide +kernel
theorem dX4_comes_96 : decode cX4_comes 96 = .ok (.iload_n 2, 1) := by decide +kernel
theorem dX4_comes_97 : decode cX4_comes 97 = .ok (.invokevirtual 181, 3) := by decide +kernel
theorem dX4_comes_100 : decode cX4_comes 100 = .ok (.iadd, 1) := by decide +kernel
theorem dX4_comes_101 : decode cX4_comes 101 = .ok (.iastore, 1) := by decide +kernel
theorem dX4_comes_102 : decode cX4_comes 102 = .ok (.iload_n 3, 1) := by decide +kernel
theorem dX4_comes_103 : decode cX4_comes 103 = .ok (.ifCond .eq 34, 3) := by decide +kernel
theorem dX4_comes_106 : decode cX4_comes 106 = .ok (.aload_n 0, 1) := by decide +kernel
theorem dX4_comes_107 : decode cX4_comes 107 = .ok (.getfield 38, 3) := by decide +kernel
theorem dX4_comes_110 : decode cX4_comes 110 = .ok (.iload_n 2, 1) := by decide +kernel
theorem dX4_comes_111 : decode cX4_comes 111 = .ok (.iconst 0, 1) := by decide +kernel
theorem dX4_comes_112 : decode cX4_comes 112 = .ok (.iastore, 1) := by decide +kernel
theorem dX4_comes_113 : decode cX4_comes 113 = .ok (.aload_n 0, 1) := by decide +kernel
theorem dX4_comes_114 : decode cX4_comes 114 = .ok (.getfield 35, 3) := by decide +kernel
theorem dX4_comes_117 : decode cX4_comes 117 = .ok (.iload_n 2, 1) := by decide +kernel
theorem dX4_comes_118 : decode cX4_comes 118 = .ok (.aload_n 0, 1) := by decide +kernel
theorem dX4_comes_119 : decode cX4_comes 119 = .ok (.iload_n 2, 1) := by decide +kernel
theorem dX4_comes_120 : decode cX4_comes 120 = .ok (.invokevirtual 112, 3) := by decide +kernel
theorem dX4_comes_123 : decode cX4_comes 123 = .ok (.ifCond .eq 7, 3) := by decide +kernel
theorem dX4_comes_126 : decode cX4_comes 126 = .ok (.iconst 2, 1) := by decide +kernel
theorem dX4_comes_127 : decode cX4_comes 127 = .ok (.goto 9, 3) := by decide +kernel
theorem dX4_comes_130 : decode cX4_comes 130 = .ok (.aload_n 0, 1) := by decide +kernel
theorem dX4_comes_131 : decode cX4_comes 131 = .ok (.getfield 35, 3) := by decide +kernel
theorem dX4_comes_134 : decode cX4_comes 134 = .ok (.iload_n 2, 1) := by decide +kernel
theorem dX4_comes_135 : decode cX4_comes 135 = .ok (.iaload, 1) := by decide +kernel
theorem dX4_comes_136 : decode cX4_comes 136 = .ok (.iastore, 1) := by decide +kernel
theorem dX4_comes_137 : decode cX4_comes 137 = .ok (.return_, 1) := by decide +kernel
theorem dX4_passes_0 : decode cX4_passes 0 = .ok (.aload_n 0, 1) := by decide +kernel
theorem dX4_passes_1 : decode cX4_passes 1 = .ok (.dup, 1) := by decide +kernel
theorem dX4_passes_2 : decode cX4_passes 2 = .ok (.getfield 167, 3) := by decide +kernel
theorem dX4_passes_5 : decode cX4_passes 5 = .ok (.iconst 1, 1) := by decide +kernel
theorem dX4_passes_6 : decode cX4_passes 6 = .ok (.iadd, 1) := by decide +kernel
theorem dX4_passes_7 : decode cX4_passes 7 = .ok (.putfield 167, 3) := by decide +kernel
theorem dX4_passes_10 : decode cX4_passes 10 = .ok (.aload_n 0, 1) := by decide +kernel
theorem dX4_passes_11 : decode cX4_passes 11 = .ok (.getfield 167, 3) := by decide +kernel
theorem dX4_passes_14 : decode cX4_passes 14 = .ok (.sipush 1440, 3) := by decide +kernel
theorem dX4_passes_17 : decode cX4_passes 17 = .ok (.irem, 1) := by decide +kernel
theorem dX4_passes_18 : decode cX4_passes 18 = .ok (.ifCond .ne 7, 3) := by decide +kernel
theorem dX4_passes_21 : decode cX4_passes 21 = .ok (.aload_n 0, 1) := by decide +kernel
theorem dX4_passes_22 : decode cX4_passes 22 = .ok (.invokevirtual 184, 3) := by decide +kernel
theorem dX4_passes_25 : decode cX4_passes 25 = .ok (.iconst 0, 1) := by decide +kernel
theorem dX4_passes_26 : decode cX4_passes 26 = .ok (.istore_n 1, 1) := by decide +kernel
theorem dX4_passes_27 : decode cX4_passes 27 = .ok (.iload_n 1, 1) := by decide +kernel
theorem dX4_passes_28 : decode cX4_passes 28 = .ok (.aload_n 0, 1) := by decide +kernel
theorem dX4_passes_29 : decode cX4_passes 29 = .ok (.getfield 98, 3) := by decide +kernel
theorem dX4_passes_32 : decode cX4_passes 32 = .ok (.if_icmp .ge 60, 3) := by decide +kernel
theorem dX4_passes_35 : decode cX4_passes 35 = .ok (.aload_n 0, 1) := by decide +kernel
theorem dX4_passes_36 : decode cX4_passes 36 = .ok (.getfield 60, 3) := by decide +kernel
theorem dX4_passes_39 : decode cX4_passes 39 = .ok (.iload_n 1, 1) := by decide +kernel
theorem dX4_passes_40 : decode cX4_passes 40 = .ok (.iaload, 1) := by decide +kernel
theorem dX4_passes_41 : decode cX4_passes 41 = .ok (.iconst 1, 1) := by decide +kernel
theorem dX4_passes_42 : decode cX4_passes 42 = .ok (.if_icmp .ne 21, 3) := by decide +kernel
theorem dX4_passes_45 : decode cX4_passes 45 = .ok (.aload_n 0, 1) := by decide +kernel
theorem dX4_passes_46 : decode cX4_passes 46 = .ok (.getfield 70, 3) := by decide +kernel
theorem dX4_passes_49 : decode cX4_passes 49 = .ok (.iload_n 1, 1) := by decide +kernel
theorem dX4_passes_50 : decode cX4_passes 50 = .ok (.iaload, 1) := by decide +kernel
theorem dX4_passes_51 : decode cX4_passes 51 = .ok (.aload_n 0, 1) := by decide +kernel
theorem dX4_passes_52 : decode cX4_passes 52 = .ok (.getfield 167, 3) := by decide +kernel
theorem dX4_passes_55 : decode cX4_passes 55 = .ok (.if_icmp .gt 8, 3) := by decide +kernel
theorem dX4_passes_58 : decode cX4_passes 58 = .ok (.aload_n 0, 1) := by decide +kernel
theorem dX4_passes_59 : decode cX4_passes 59 = .ok (.iload_n 1, 1) := by decide +kernel
theorem dX4_passes_60 : decode cX4_passes 60 = .ok (.invokevirtual 187, 3) := by decide +kernel
theorem dX4_passes_63 : decode cX4_passes 63 = .ok (.aload_n 0, 1) := by decide +kernel
theorem dX4_passes_64 : decode cX4_passes 64 = .ok (.getfield 60, 3) := by decide +kernel
theorem dX4_passes_67 : decode cX4_passes 67 = .ok (.iload_n 1, 1) := by decide +kernel
theorem dX4_passes_68 : decode cX4_passes 68 = .ok (.iaload, 1) := by decide +kernel
theorem dX4_passes_69 : decode cX4_passes 69 = .ok (.iconst 2, 1) := by decide +kernel
theorem dX4_passes_70 : decode cX4_passes 70 = .ok (.if_icmp .ne 16, 3) := by decide +kernel
theorem dX4_passes_73 : decode cX4_passes 73 = .ok (.aload_n 0, 1) := by decide +kernel
theorem dX4_passes_74 : decode cX4_passes 74 = .ok (.iload_n 1, 1) := by decide +kernel
theorem dX4_passes_75 : decode cX4_passes 75 = .ok (.invokevirtual 190, 3) := by decide +kernel
theorem dX4_passes_78 : decode cX4_passes 78 = .ok (.ifCond .ne 8, 3) := by decide +kernel
theorem dX4_passes_81 : decode cX4_passes 81 = .ok (.aload_n 0, 1) := by decide +kernel
theorem dX4_passes_82 : decode cX4_passes 82 = .ok (.iload_n 1, 1) := by decide +kernel
theorem dX4_passes_83 : decode cX4_passes 83 = .ok (.invokevirtual 193, 3) := by decide +kernel
theorem dX4_passes_86 : decode cX4_passes 86 = .ok (.iinc 1 1, 3) := by decide +kernel
theorem dX4_passes_89 : decode cX4_passes 89 = .ok (.goto (-62), 3) := by decide +kernel
theorem dX4_passes_92 : decode cX4_passes 92 = .ok (.return_, 1) := by decide +kernel
theorem dX4_pass_0 : decode cX4_pass 0 = .ok (.aload_n 0, 1) := by decide +kernel
theorem dX4_pass_1 : decode cX4_pass 1 = .ok (.iload_n 1, 1) := by decide +kernel
theorem dX4_pass_2 : decode cX4_pass 2 = .ok (.iconst 1, 1) := by decide +kernel
theorem dX4_pass_3 : decode cX4_pass 3 = .ok (.sipush 3000, 3) := by decide +kernel
theorem dX4_pass_6 : decode cX4_pass 6 = .ok (.invokestatic 94, 3) := by decide +kernel
theorem dX4_pass_9 : decode cX4_pass 9 = .ok (.ifCond .ne 7, 3) := by decide +kernel
theorem dX4_pass_12 : decode cX4_pass 12 = .ok (.iconst 1, 1) := by decide +kernel
theorem dX4_pass_13 : decode cX4_pass 13 = .ok (.goto 19, 3) := by decide +kernel
theorem dX4_pass_16 : decode cX4_pass 16 = .ok (.aload_n 0, 1) := by decide +kernel
theorem dX4_pass_17 : decode cX4_pass 17 = .ok (.getfield 167, 3) := by decide +kernel
theorem dX4_pass_20 : decode cX4_pass 20 = .ok (.iload_n 1, 1) := by decide +kernel
theorem dX4_pass_21 : decode cX4_pass 21 = .ok (.iadd, 1) := by decide +kernel
theorem dX4_pass_22 : decode cX4_pass 22 = .ok (.ldc 196, 2) := by decide +kernel
theorem dX4_pass_24 : decode cX4_pass 24 = .ok (.if_icmp .le 7, 3) := by decide +kernel
theorem dX4_pass_27 : decode cX4_pass 27 = .ok (.iconst 2, 1) := by decide +kernel
theorem dX4_pass_28 : decode cX4_pass 28 = .ok (.goto 4, 3) := by decide +kernel
theorem dX4_pass_31 : decode cX4_pass 31 = .ok (.iconst 0, 1) := by decide +kernel
theorem dX4_pass_32 : decode cX4_pass 32 = .ok (.invokevirtual 101, 3) := by decide +kernel
theorem dX4_pass_35 : decode cX4_pass 35 = .ok (.ifCond .eq 5, 3) := by decide +kernel
theorem dX4_pass_38 : decode cX4_pass 38 = .ok (.iconst 0, 1) := by decide +kernel
theorem dX4_pass_39 : decode cX4_pass 39 = .ok (.ireturn, 1) := by decide +kernel
theorem dX4_pass_40 : decode cX4_pass 40 = .ok (.iconst 0, 1) := by decide +kernel
theorem dX4_pass_41 : decode cX4_pass 41 = .ok (.istore_n 2, 1) := by decide +kernel
theorem dX4_pass_42 : decode cX4_pass 42 = .ok (.iload_n 2, 1) := by decide +kernel
theorem dX4_pass_43 : decode cX4_pass 43 = .ok (.iload_n 1, 1) := by decide +kernel
theorem dX4_pass_44 : decode cX4_pass 44 = .ok (.if_icmp .ge 13, 3) := by decide +kernel
theorem dX4_pass_47 : decode cX4_pass 47 = .ok (.aload_n 0, 1) := by decide +kernel
theorem dX4_pass_48 : decode cX4_pass 48 = .ok (.invokevirtual 197, 3) := by decide +kernel
theorem dX4_pass_51 : decode cX4_pass 51 = .ok (.iinc 2 1, 3) := by decide +kernel
theorem dX4_pass_54 : decode cX4_pass 54 = .ok (.goto (-12), 3) := by decide +kernel
theorem dX4_pass_57 : decode cX4_pass 57 = .ok (.aload_n 0, 1) := by decide +kernel
theorem dX4_pass_58 : decode cX4_pass 58 = .ok (.getfield 167, 3) := by decide +kernel
theorem dX4_pass_61 : decode cX4_pass 61 = .ok (.ireturn, 1) := by decide +kernel
theorem dX4_minute_0 : decode cX4_minute 0 = .ok (.aload_n 0, 1) := by decide +kernel
theorem dX4_minute_1 : decode cX4_minute 1 = .ok (.iconst 0, 1) := by decide +kernel
theorem dX4_minute_2 : decode cX4_minute 2 = .ok (.putfield 88, 3) := by decide +kernel
theorem dX4_minute_5 : decode cX4_minute 5 = .ok (.aload_n 0, 1) := by decide +kernel
theorem dX4_minute_6 : decode cX4_minute 6 = .ok (.getfield 167, 3) := by decide +kernel
theorem dX4_minute_9 : decode cX4_minute 9 = .ok (.ireturn, 1) := by decide +kernel
theorem dX4_told_0 : decode cX4_told 0 = .ok (.aload_n 0, 1) := by decide +kernel
theorem dX4_told_1 : decode cX4_told 1 = .ok (.aload_n 0, 1) := by decide +kernel
theorem dX4_told_2 : decode cX4_told 2 = .ok (.iload_n 1, 1) := by decide +kernel
theorem dX4_told_3 : decode cX4_told 3 = .ok (.invokevirtual 109, 3) := by decide +kernel
theorem dX4_told_6 : decode cX4_told 6 = .ok (.ifCond .ne 7, 3) := by decide +kernel
theorem dX4_told_9 : decode cX4_told 9 = .ok (.iconst 1, 1) := by decide +kernel
theorem dX4_told_10 : decode cX4_told 10 = .ok (.goto 18, 3) := by decide +kernel
theorem dX4_told_13 : decode cX4_told 13 = .ok (.iload_n 2, 1) := by decide +kernel
theorem dX4_told_14 : decode cX4_told 14 = .ok (.iconst 0, 1) := by decide +kernel
theorem dX4_told_15 : decode cX4_told 15 = .ok (.bipush 7, 2) := by decide +kernel
theorem dX4_told_17 : decode cX4_told 17 = .ok (.invokestatic 94, 3) := by decide +kernel
theorem dX4_told_20 : decode cX4_told 20 = .ok (.ifCond .eq 7, 3) := by decide +kernel
theorem dX4_told_23 : decode cX4_told 23 = .ok (.iconst 0, 1) := by decide +kernel
theorem dX4_told_24 : decode cX4_told 24 = .ok (.goto 4, 3) := by decide +kernel
theorem dX4_told_27 : decode cX4_told 27 = .ok (.iconst 2, 1) := by decide +kernel
theorem dX4_told_28 : decode cX4_told 28 = .ok (.invokevirtual 101, 3) := by decide +kernel
theorem dX4_told_31 : decode cX4_told 31 = .ok (.ifCond .eq 5, 3) := by decide +kernel
theorem dX4_told_34 : decode cX4_told 34 = .ok (.iconst 0, 1) := by decide +kernel
theorem dX4_told_35 : decode cX4_told 35 = .ok (.ireturn, 1) := by decide +kernel
theorem dX4_told_36 : decode cX4_told 36 = .ok (.iload_n 2, 1) := by decide +kernel
theorem dX4_told_37 : decode cX4_told 37 = .ok (.tableswitch 92 0 6 #[43, 50, 57, 64, 71, 78, 85], 43) := by decide +kernel
theorem dX4_told_80 : decode cX4_told 80 = .ok (.aload_n 0, 1) := by decide +kernel
theorem dX4_told_81 : decode cX4_told 81 = .ok (.getfield 23, 3) := by decide +kernel
theorem dX4_told_84 : decode cX4_told 84 = .ok (.iload_n 1, 1) := by decide +kernel
theorem dX4_told_85 : decode cX4_told 85 = .ok (.iaload, 1) := by decide +kernel
theorem dX4_told_86 : decode cX4_told 86 = .ok (.ireturn, 1) := by decide +kernel
theorem dX4_told_87 : decode cX4_told 87 = .ok (.aload_n 0, 1) := by decide +kernel
theorem dX4_told_88 : decode cX4_told 88 = .ok (.getfield 26, 3) := by decide +kernel
theorem dX4_told_91 : decode cX4_told 91 = .ok (.iload_n 1, 1) := by decide +kernel
theorem dX4_told_92 : decode cX4_told 92 = .ok (.iaload, 1) := by decide +kernel
theorem dX4_told_93 : decode cX4_told 93 = .ok (.ireturn, 1) := by decide +kernel
theorem dX4_told_94 : decode cX4_told 94 = .ok (.aload_n 0, 1) := by decide +kernel
theorem dX4_told_95 : decode cX4_told 95 = .ok (.getfield 29, 3) := by decide +kernel
theorem dX4_told_98 : decode cX4_told 98 = .ok (.iload_n 1, 1) := by decide +kernel
theorem dX4_told_99 : decode cX4_told 99 = .ok (.iaload, 1) := by decide +kernel
theorem dX4_told_100 : decode cX4_told 100 = .ok (.ireturn, 1) := by decide +kernel
theorem dX4_told_101 : decode cX4_told 101 = .ok (.aload_n 0, 1) := by decide +kernel
theorem dX4_told_102 : decode cX4_told 102 = .ok (.getfield 32, 3) := by decide +kernel
theorem dX4_told_105 : decode cX4_told 105 = .ok (.iload_n 1, 1) := by decide +kernel
theorem dX4_told_106 : decode cX4_told 106 = .ok (.iaload, 1) := by decide +kernel
theorem dX4_told_107 : decode cX4_told 107 = .ok (.ireturn, 1) := by decide +kernel
theorem dX4_told_108 : decode cX4_told 108 = .ok (.aload_n 0, 1) := by decide +kernel
theorem dX4_told_109 : decode cX4_told 109 = .ok (.getfield 35, 3) := by decide +kernel
theorem dX4_told_112 : decode cX4_told 112 = .ok (.iload_n 1, 1) := by decide +kernel
theorem dX4_told_113 : decode cX4_told 113 = .ok (.iaload, 1) := by decide +kernel
theorem dX4_told_114 : decode cX4_told 114 = .ok (.ireturn, 1) := by decide +kernel
theorem dX4_told_115 : decode cX4_told 115 = .ok (.aload_n 0, 1) := by decide +kernel
theorem dX4_told_116 : decode cX4_told 116 = .ok (.getfield 38, 3) := by decide +kernel
theorem dX4_told_119 : decode cX4_told 119 = .ok (.iload_n 1, 1) := by decide +kernel
theorem dX4_told_120 : decode cX4_told 120 = .ok (.iaload, 1) := by decide +kernel
theorem dX4_told_121 : decode cX4_told 121 = .ok (.ireturn, 1) := by decide +kernel
theorem dX4_told_122 : decode cX4_told 122 = .ok (.aload_n 0, 1) := by decide +kernel
theorem dX4_told_123 : decode cX4_told 123 = .ok (.getfield 41, 3) := by decide +kernel
theorem dX4_told_126 : decode cX4_told 126 = .ok (.iload_n 1, 1) := by decide +kernel
theorem dX4_told_127 : decode cX4_told 127 = .ok (.iaload, 1) := by decide +kernel
theorem dX4_told_128 : decode cX4_told 128 = .ok (.ireturn, 1) := by decide +kernel
theorem dX4_told_129 : decode cX4_told 129 = .ok (.aload_n 0, 1) := by decide +kernel
theorem dX4_told_130 : decode cX4_told 130 = .ok (.iload_n 1, 1) := by decide +kernel
theorem dX4_told_131 : decode cX4_told 131 = .ok (.invokevirtual 200, 3) := by decide +kernel
theorem dX4_told_134 : decode cX4_told 134 = .ok (.ireturn, 1) := by decide +kernel
theorem dX4_many_0 : decode cX4_many 0 = .ok (.iconst 0, 1) := by decide +kernel
theorem dX4_many_1 : decode cX4_many 1 = .ok (.istore_n 2, 1) := by decide +kernel
theorem dX4_many_2 : decode cX4_many 2 = .ok (.iconst 0, 1) := by decide +kernel
theorem dX4_many_3 : decode cX4_many 3 = .ok (.istore_n 3, 1) := by decide +kernel
theorem dX4_many_4 : decode cX4_many 4 = .ok (.iload_n 3, 1) := by decide +kernel
theorem dX4_many_5 : decode cX4_many 5 = .ok (.aload_n 0, 1) := by decide +kernel
theorem dX4_many_6 : decode cX4_many 6 = .ok (.getfield 98, 3) := by decide +kernel
theorem dX4_many_9 : decode cX4_many 9 = .ok (.if_icmp .ge 37, 3) := by decide +kernel
theorem dX4_many_12 : decode cX4_many 12 = .ok (.iload_n 2, 1) := by decide +kernel
theorem dX4_many_13 : decode cX4_many 13 = .ok (.aload_n 0, 1) := by decide +kernel
theorem dX4_many_14 : decode cX4_many 14 = .ok (.getfield 60, 3) := by decide +kernel
theorem dX4_many_17 : decode cX4_many 17 = .ok (.iload_n 3, 1) := by decide +kernel
theorem dX4_many_18 : decode cX4_many 18 = .ok (.iaload, 1) := by decide +kernel
theorem dX4_many_19 : decode cX4_many 19 = .ok (.iconst 1, 1) := by decide +kernel
theorem dX4_many_20 : decode cX4_many 20 = .ok (.if_icmp .ne 17, 3) := by decide +kernel
theorem dX4_many_23 : decode cX4_many 23 = .ok (.aload_n 0, 1) := by decide +kernel
theorem dX4_many_24 : decode cX4_many 24 = .ok (.getfield 63, 3) := by decide +kernel
theorem dX4_many_27 : decode cX4_many 27 = .ok (.iload_n 3, 1) := by decide +kernel
theorem dX4_many_28 : decode cX4_many 28 = .ok (.iaload, 1) := by decide +kernel
theorem dX4_many_29 : decode cX4_many 29 = .ok (.iload_n 1, 1) := by decide +kernel
theorem dX4_many_30 : decode cX4_many 30 = .ok (.if_icmp .ne 7, 3) := by decide +kernel
theorem dX4_many_33 : decode cX4_many 33 = .ok (.iconst 1, 1) := by decide +kernel
theorem dX4_many_34 : decode cX4_many 34 = .ok (.goto 4, 3) := by decide +kernel
theorem dX4_many_37 : decode cX4_many 37 = .ok (.iconst 0, 1) := by decide +kernel
theorem dX4_many_38 : decode cX4_many 38 = .ok (.iadd, 1) := by decide +kernel
theorem dX4_many_39 : decode cX4_many 39 = .ok (.istore_n 2, 1) := by decide +kernel
theorem dX4_many_40 : decode cX4_many 40 = .ok (.iinc 3 1, 3) := by decide +kernel
theorem dX4_many_43 : decode cX4_many 43 = .ok (.goto (-39), 3) := by decide +kernel
theorem dX4_many_46 : decode cX4_many 46 = .ok (.iload_n 2, 1) := by decide +kernel
theorem dX4_many_47 : decode cX4_many 47 = .ok (.ireturn, 1) := by decide +kernel
theorem dX4_thickness_0 : decode cX4_thickness 0 = .ok (.aload_n 0, 1) := by decide +kernel
theorem dX4_thickness_1 : decode cX4_thickness 1 = .ok (.aload_n 0, 1) := by decide +kernel
theorem dX4_thickness_2 : decode cX4_thickness 2 = .ok (.iload_n 1, 1) := by decide +kernel
theorem dX4_thickness_3 : decode cX4_thickness 3 = .ok (.invokevirtual 109, 3) := by decide +kernel
theorem dX4_thickness_6 : decode cX4_thickness 6 = .ok (.ifCond .eq 7, 3) := by decide +kernel
theorem dX4_thickness_9 : decode cX4_thickness 9 = .ok (.iconst 0, 1) := by decide +kernel
theorem dX4_thickness_10 : decode cX4_thickness 10 = .ok (.goto 4, 3) := by decide +kernel
theorem dX4_thickness_13 : decode cX4_thickness 13 = .ok (.iconst 1, 1) := by decide +kernel
theorem dX4_thickness_14 : decode cX4_thickness 14 = .ok (.invokevirtual 101, 3) := by decide +kernel
theorem dX4_thickness_17 : decode cX4_thickness 17 = .ok (.ifCond .eq 7, 3) := by decide +kernel
theorem dX4_thickness_20 : decode cX4_thickness 20 = .ok (.dconst 0, 1) := by decide +kernel
theorem dX4_thickness_21 : decode cX4_thickness 21 = .ok (.goto 21, 3) := by decide +kernel
theorem dX4_thickness_24 : decode cX4_thickness 24 = .ok (.iload_n 2, 1) := by decide +kernel
theorem dX4_thickness_25 : decode cX4_thickness 25 = .ok (.ifCond .eq 12, 3) := by decide +kernel
theorem dX4_thickness_28 : decode cX4_thickness 28 = .ok (.aload_n 0, 1) := by decide +kernel
theorem dX4_thickness_29 : decode cX4_thickness 29 = .ok (.getfield 44, 3) := by decide +kernel
theorem dX4_thickness_32 : decode cX4_thickness 32 = .ok (.iload_n 1, 1) := by decide +kernel
theorem dX4_thickness_33 : decode cX4_thickness 33 = .ok (.daload, 1) := by decide +kernel
theorem dX4_thickness_34 : decode cX4_thickness 34 = .ok (.goto 8, 3) := by decide +kernel
theorem dX4_thickness_37 : decode cX4_thickness 37 = .ok (.aload_n 0, 1) := by decide +kernel
theorem dX4_thickness_38 : decode cX4_thickness 38 = .ok (.iload_n 1, 1) := by decide +kernel
theorem dX4_thickness_39 : decode cX4_thickness 39 = .ok (.invokevirtual 117, 3) := by decide +kernel
theorem dX4_thickness_42 : decode cX4_thickness 42 = .ok (.dreturn, 1) := by decide +kernel
theorem dX4_bears_0 : decode cX4_bears 0 = .ok (.aload_n 0, 1) := by decide +kernel
theorem dX4_bears_1 : decode cX4_bears 1 = .ok (.aload_n 0, 1) := by decide +kernel
theorem dX4_bears_2 : decode cX4_bears 2 = .ok (.iload_n 1, 1) := by decide +kernel
theorem dX4_bears_3 : decode cX4_bears 3 = .ok (.invokevirtual 109, 3) := by decide +kernel
theorem dX4_bears_6 : decode cX4_bears 6 = .ok (.ifCond .eq 7, 3) := by decide +kernel
theorem dX4_bears_9 : decode cX4_bears 9 = .ok (.iconst 0, 1) := by decide +kernel
theorem dX4_bears_10 : decode cX4_bears 10 = .ok (.goto 4, 3) := by decide +kernel
theorem dX4_bears_13 : decode cX4_bears 13 = .ok (.iconst 1, 1) := by decide +kernel
theorem dX4_bears_14 : decode cX4_bears 14 = .ok (.invokevirtual 101, 3) := by decide +kernel
theorem dX4_bears_17 : decode cX4_bears 17 = .ok (.ifCond .eq 7, 3) := by decide +kernel
theorem dX4_bears_20 : decode cX4_bears 20 = .ok (.iconst 0, 1) := by decide +kernel
theorem dX4_bears_21 : decode cX4_bears 21 = .ok (.goto 26, 3) := by decide +kernel
theorem dX4_bears_24 : decode cX4_bears 24 = .ok (.aload_n 0, 1) := by decide +kernel
theorem dX4_bears_25 : decode cX4_bears 25 = .ok (.iload_n 1, 1) := by decide +kernel
theorem dX4_bears_26 : decode cX4_bears 26 = .ok (.iload_n 2, 1) := by decide +kernel
theorem dX4_bears_27 : decode cX4_bears 27 = .ok (.ifCond .eq 12, 3) := by decide +kernel
theorem dX4_bears_30 : decode cX4_bears 30 = .ok (.aload_n 0, 1) := by decide +kernel
theorem dX4_bears_31 : decode cX4_bears 31 = .ok (.getfield 44, 3) := by decide +kernel
theorem dX4_bears_34 : decode cX4_bears 34 = .ok (.iload_n 1, 1) := by decide +kernel
theorem dX4_bears_35 : decode cX4_bears 35 = .ok (.daload, 1) := by decide +kernel
theorem dX4_bears_36 : decode cX4_bears 36 = .ok (.goto 8, 3) := by decide +kernel
theorem dX4_bears_39 : decode cX4_bears 39 = .ok (.aload_n 0, 1) := by decide +kernel
theorem dX4_bears_40 : decode cX4_bears 40 = .ok (.iload_n 1, 1) := by decide +kernel
theorem dX4_bears_41 : decode cX4_bears 41 = .ok (.invokevirtual 117, 3) := by decide +kernel
theorem dX4_bears_44 : decode cX4_bears 44 = .ok (.invokevirtual 177, 3) := by decide +kernel
theorem dX4_bears_47 : decode cX4_bears 47 = .ok (.ireturn, 1) := by decide +kernel
theorem dX4_ofVehicle_0 : decode cX4_ofVehicle 0 = .ok (.aload_n 0, 1) := by decide +kernel
theorem dX4_ofVehicle_1 : decode cX4_ofVehicle 1 = .ok (.aload_n 0, 1) := by decide +kernel
theorem dX4_ofVehicle_2 : decode cX4_ofVehicle 2 = .ok (.iload_n 1, 1) := by decide +kernel
theorem dX4_ofVehicle_3 : decode cX4_ofVehicle 3 = .ok (.invokevirtual 123, 3) := by decide +kernel
theorem dX4_ofVehicle_6 : decode cX4_ofVehicle 6 = .ok (.ifCond .ne 7, 3) := by decide +kernel
theorem dX4_ofVehicle_9 : decode cX4_ofVehicle 9 = .ok (.iconst 1, 1) := by decide +kernel
theorem dX4_ofVehicle_10 : decode cX4_ofVehicle 10 = .ok (.goto 18, 3) := by decide +kernel
theorem dX4_ofVehicle_13 : decode cX4_ofVehicle 13 = .ok (.iload_n 2, 1) := by decide +kernel
theorem dX4_ofVehicle_14 : decode cX4_ofVehicle 14 = .ok (.iconst 0, 1) := by decide +kernel
theorem dX4_ofVehicle_15 : decode cX4_ofVehicle 15 = .ok (.bipush 6, 2) := by decide +kernel
theorem dX4_ofVehicle_17 : decode cX4_ofVehicle 17 = .ok (.invokestatic 94, 3) := by decide +kernel
theorem dX4_ofVehicle_20 : decode cX4_ofVehicle 20 = .ok (.ifCond .eq 7, 3) := by decide +kernel
theorem dX4_ofVehicle_23 : decode cX4_ofVehicle 23 = .ok (.iconst 0, 1) := by decide +kernel
theorem dX4_ofVehicle_24 : decode cX4_ofVehicle 24 = .ok (.goto 4, 3) := by decide +kernel
theorem dX4_ofVehicle_27 : decode cX4_ofVehicle 27 = .ok (.iconst 2, 1) := by decide +kernel
theorem dX4_ofVehicle_28 : decode cX4_ofVehicle 28 = .ok (.invokevirtual 101, 3) := by decide +kernel
theorem dX4_ofVehicle_31 : decode cX4_ofVehicle 31 = .ok (.ifCond .eq 5, 3) := by decide +kernel
theorem dX4_ofVehicle_34 : decode cX4_ofVehicle 34 = .ok (.iconst 0, 1) := by decide +kernel
theorem dX4_ofVehicle_35 : decode cX4_ofVehicle 35 = .ok (.ireturn, 1) := by decide +kernel
theorem dX4_ofVehicle_36 : decode cX4_ofVehicle 36 = .ok (.iload_n 2, 1) := by decide +kernel
theorem dX4_ofVehicle_37 : decode cX4_ofVehicle 37 = .ok (.tableswitch 88 0 5 #[39, 46, 52, 59, 66, 73], 39) := by decide +kernel
theorem dX4_ofVehicle_76 : decode cX4_ofVehicle 76 = .ok (.aload_n 0, 1) := by decide +kernel
theorem dX4_ofVehicle_77 : decode cX4_ofVehicle 77 = .ok (.getfield 60, 3) := by decide +kernel
theorem dX4_ofVehicle_80 : decode cX4_ofVehicle 80 = .ok (.iload_n 1, 1) := by decide +kernel
theorem dX4_ofVehicle_81 : decode cX4_ofVehicle 81 = .ok (.iaload, 1) := by decide +kernel
theorem dX4_ofVehicle_82 : decode cX4_ofVehicle 82 = .ok (.ireturn, 1) := by decide +kernel
theorem dX4_ofVehicle_83 : decode cX4_ofVehicle 83 = .ok (.aload_n 0, 1) := by decide +kernel
theorem dX4_ofVehicle_84 : decode cX4_ofVehicle 84 = .ok (.iload_n 1, 1) := by decide +kernel
theorem dX4_ofVehicle_85 : decode cX4_ofVehicle 85 = .ok (.invokevirtual 129, 3) := by decide +kernel
theorem dX4_ofVehicle_88 : decode cX4_ofVehicle 88 = .ok (.ireturn, 1) := by decide +kernel
theorem dX4_ofVehicle_89 : decode cX4_ofVehicle 89 = .ok (.aload_n 0, 1) := by decide +kernel
theorem dX4_ofVehicle_90 : decode cX4_ofVehicle 90 = .ok (.getfield 73, 3) := by decide +kernel
theorem dX4_ofVehicle_93 : decode cX4_ofVehicle 93 = .ok (.iload_n 1, 1) := by decide +kernel
theorem dX4_ofVehicle_94 : decode cX4_ofVehicle 94 = .ok (.iaload, 1) := by decide +kernel
theorem dX4_ofVehicle_95 : decode cX4_ofVehicle 95 = .ok (.ireturn, 1) := by decide +kernel
theorem dX4_ofVehicle_96 : decode cX4_ofVehicle 96 = .ok (.aload_n 0, 1) := by decide +kernel
theorem dX4_ofVehicle_97 : decode cX4_ofVehicle 97 = .ok (.getfield 76, 3) := by decide +kernel
theorem dX4_ofVehicle_100 : decode cX4_ofVehicle 100 = .ok (.iload_n 1, 1) := by decide +kernel
theorem dX4_ofVehicle_101 : decode cX4_ofVehicle 101 = .ok (.iaload, 1) := by decide +kernel
theorem dX4_ofVehicle_102 : decode cX4_ofVehicle 102 = .ok (.ireturn, 1) := by decide +kernel
theorem dX4_ofVehicle_103 : decode cX4_ofVehicle 103 = .ok (.aload_n 0, 1) := by decide +kernel
theorem dX4_ofVehicle_104 : decode cX4_ofVehicle 104 = .ok (.getfield 63, 3) := by decide +kernel
theorem dX4_ofVehicle_107 : decode cX4_ofVehicle 107 = .ok (.iload_n 1, 1) := by decide +kernel
theorem dX4_ofVehicle_108 : decode cX4_ofVehicle 108 = .ok (.iaload, 1) := by decide +kernel
theorem dX4_ofVehicle_109 : decode cX4_ofVehicle 109 = .ok (.ireturn, 1) := by decide +kernel
theorem dX4_ofVehicle_110 : decode cX4_ofVehicle 110 = .ok (.aload_n 0, 1) := by decide +kernel
theorem dX4_ofVehicle_111 : decode cX4_ofVehicle 111 = .ok (.getfield 66, 3) := by decide +kernel
theorem dX4_ofVehicle_114 : decode cX4_ofVehicle 114 = .ok (.iload_n 1, 1) := by decide +kernel
theorem dX4_ofVehicle_115 : decode cX4_ofVehicle 115 = .ok (.baload, 1) := by decide +kernel
theorem dX4_ofVehicle_116 : decode cX4_ofVehicle 116 = .ok (.ifCond .eq 7, 3) := by decide +kernel
theorem dX4_ofVehicle_119 : decode cX4_ofVehicle 119 = .ok (.iconst 1, 1) := by decide +kernel
theorem dX4_ofVehicle_120 : decode cX4_ofVehicle 120 = .ok (.goto 4, 3) := by decide +kernel
theorem dX4_ofVehicle_123 : decode cX4_ofVehicle 123 = .ok (.iconst 0, 1) := by decide +kernel
theorem dX4_ofVehicle_124 : decode cX4_ofVehicle 124 = .ok (.ireturn, 1) := by decide +kernel
theorem dX4_ofVehicle_125 : decode cX4_ofVehicle 125 = .ok (.aload_n 0, 1) := by decide +kernel
theorem dX4_ofVehicle_126 : decode cX4_ofVehicle 126 = .ok (.getfield 60, 3) := by decide +kernel
theorem dX4_ofVehicle_129 : decode cX4_ofVehicle 129 = .ok (.iload_n 1, 1) := by decide +kernel
theorem dX4_ofVehicle_130 : decode cX4_ofVehicle 130 = .ok (.iaload, 1) := by decide +kernel
theorem dX4_ofVehicle_131 : decode cX4_ofVehicle 131 = .ok (.iconst 1, 1) := by decide +kernel
theorem dX4_ofVehicle_132 : decode cX4_ofVehicle 132 = .ok (.if_icmp .ne 12, 3) := by decide +kernel
theorem dX4_ofVehicle_135 : decode cX4_ofVehicle 135 = .ok (.aload_n 0, 1) := by decide +kernel
theorem dX4_ofVehicle_136 : decode cX4_ofVehicle 136 = .ok (.getfield 70, 3) := by decide +kernel
theorem dX4_ofVehicle_139 : decode cX4_ofVehicle 139 = .ok (.iload_n 1, 1) := by decide +kernel
theorem dX4_ofVehicle_140 : decode cX4_ofVehicle 140 = .ok (.iaload, 1) := by decide +kernel
theorem dX4_ofVehicle_141 : decode cX4_ofVehicle 141 = .ok (.goto 4, 3) := by decide +kernel
theorem dX4_ofVehicle_144 : decode cX4_ofVehicle 144 = .ok (.iconst (-1), 1) := by decide +kernel
theorem dX4_ofVehicle_145 : decode cX4_ofVehicle 145 = .ok (.ireturn, 1) := by decide +kernel
theorem dX4_why_0 : decode cX4_why 0 = .ok (.aload_n 0, 1) := by decide +kernel
theorem dX4_why_1 : decode cX4_why 1 = .ok (.aload_n 0, 1) := by decide +kernel
theorem dX4_why_2 : decode cX4_why 2 = .ok (.iload_n 1, 1) := by decide +kernel
theorem dX4_why_3 : decode cX4_why 3 = .ok (.invokevirtual 123, 3) := by decide +kernel
theorem dX4_why_6 : decode cX4_why 6 = .ok (.ifCond .eq 7, 3) := by decide +kernel
theorem dX4_why_9 : decode cX4_why 9 = .ok (.iconst 0, 1) := by decide +kernel
theorem dX4_why_10 : decode cX4_why 10 = .ok (.goto 4, 3) := by decide +kernel
theorem dX4_why_13 : decode cX4_why 13 = .ok (.iconst 1, 1) := by decide +kernel
theorem dX4_why_14 : decode cX4_why 14 = .ok (.invokevirtual 101, 3) := by decide +kernel
theorem dX4_why_17 : decode cX4_why 17 = .ok (.ifCond .eq 7, 3) := by decide +kernel
theorem dX4_why_20 : decode cX4_why 20 = .ok (.iconst 0, 1) := by decide +kernel
theorem dX4_why_21 : decode cX4_why 21 = .ok (.goto 22, 3) := by decide +kernel
theorem dX4_why_24 : decode cX4_why 24 = .ok (.aload_n 0, 1) := by decide +kernel
theorem dX4_why_25 : decode cX4_why 25 = .ok (.getfield 60, 3) := by decide +kernel
theorem dX4_why_28 : decode cX4_why 28 = .ok (.iload_n 1, 1) := by decide +kernel
theorem dX4_why_29 : decode cX4_why 29 = .ok (.iaload, 1) := by decide +kernel
theorem dX4_why_30 : decode cX4_why 30 = .ok (.iconst 2, 1) := by decide +kernel
theorem dX4_why_31 : decode cX4_why 31 = .ok (.if_icmp .ne 11, 3) := by decide +kernel
theorem dX4_why_34 : decode cX4_why 34 = .ok (.aload_n 0, 1) := by decide +kernel
theorem dX4_why_35 : decode cX4_why 35 = .ok (.iload_n 1, 1) := by decide +kernel
theorem dX4_why_36 : decode cX4_why 36 = .ok (.invokevirtual 190, 3) := by decide +kernel
theorem dX4_why_39 : decode cX4_why 39 = .ok (.goto 4, 3) := by decide +kernel
theorem dX4_why_42 : decode cX4_why 42 = .ok (.iconst (-1), 1) := by decide +kernel
theorem dX4_why_43 : decode cX4_why 43 = .ok (.ireturn, 1) := by decide +kernel
theorem dX4_speed_0 : decode cX4_speed 0 = .ok (.aload_n 0, 1) := by decide +kernel
theorem dX4_speed_1 : decode cX4_speed 1 = .ok (.aload_n 0, 1) := by decide +kernel
theorem dX4_speed_2 : decode cX4_speed 2 = .ok (.iload_n 1, 1) := by decide +kernel
theorem dX4_speed_3 : decode cX4_speed 3 = .ok (.invokevirtual 123, 3) := by decide +kernel
theorem dX4_speed_6 : decode cX4_speed 6 = .ok (.ifCond .eq 15, 3) := by decide +kernel
theorem dX4_speed_9 : decode cX4_speed 9 = .ok (.aload_n 0, 1) := by decide +kernel
theorem dX4_speed_10 : decode cX4_speed 10 = .ok (.iload_n 2, 1) := by decide +kernel
theorem dX4_speed_11 : decode cX4_speed 11 = .ok (.invokevirtual 109, 3) := by decide +kernel
theorem dX4_speed_14 : decode cX4_speed 14 = .ok (.ifCond .eq 7, 3) := by decide +kernel
theorem dX4_speed_17 : decode cX4_speed 17 = .ok (.iconst 0, 1) := by decide +kernel
theorem dX4_speed_18 : decode cX4_speed 18 = .ok (.goto 4, 3) := by decide +kernel
theorem dX4_speed_21 : decode cX4_speed 21 = .ok (.iconst 1, 1) := by decide +kernel
theorem dX4_speed_22 : decode cX4_speed 22 = .ok (.invokevirtual 101, 3) := by decide +kernel
theorem dX4_speed_25 : decode cX4_speed 25 = .ok (.ifCond .eq 7, 3) := by decide +kernel
theorem dX4_speed_28 : decode cX4_speed 28 = .ok (.iconst 0, 1) := by decide +kernel
theorem dX4_speed_29 : decode cX4_speed 29 = .ok (.goto 9, 3) := by decide +kernel
theorem dX4_speed_32 : decode cX4_speed 32 = .ok (.aload_n 0, 1) := by decide +kernel
theorem dX4_speed_33 : decode cX4_speed 33 = .ok (.iload_n 1, 1) := by decide +kernel
theorem dX4_speed_34 : decode cX4_speed 34 = .ok (.iload_n 2, 1) := by decide +kernel
theorem dX4_speed_35 : decode cX4_speed 35 = .ok (.invokevirtual 160, 3) := by decide +kernel
theorem dX4_speed_38 : decode cX4_speed 38 = .ok (.ireturn, 1) := by decide +kernel
theorem dX4_minutes_0 : decode cX4_minutes 0 = .ok (.aload_n 0, 1) := by decide +kernel
theorem dX4_minutes_1 : decode cX4_minutes 1 = .ok (.aload_n 0, 1) := by decide +kernel
theorem dX4_minutes_2 : decode cX4_minutes 2 = .ok (.iload_n 1, 1) := by decide +kernel
theorem dX4_minutes_3 : decode cX4_minutes 3 = .ok (.invokevirtual 123, 3) := by decide +kernel
theorem dX4_minutes_6 : decode cX4_minutes 6 = .ok (.ifCond .eq 15, 3) := by decide +kernel
theorem dX4_minutes_9 : decode cX4_minutes 9 = .ok (.aload_n 0, 1) := by decide +kernel
theorem dX4_minutes_10 : decode cX4_minutes 10 = .ok (.iload_n 2, 1) := by decide +kernel
theorem dX4_minutes_11 : decode cX4_minutes 11 = .ok (.invokevirtual 109, 3) := by decide +kernel
theorem dX4_minutes_14 : decode cX4_minutes 14 = .ok (.ifCond .eq 7, 3) := by decide +kernel
theorem dX4_minutes_17 : decode cX4_minutes 17 = .ok (.iconst 0, 1) := by decide +kernel
theorem dX4_minutes_18 : decode cX4_minutes 18 = .ok (.goto 4, 3) := by decide +kernel
theorem dX4_minutes_21 : decode cX4_minutes 21 = .ok (.iconst 1, 1) := by decide +kernel
theorem dX4_minutes_22 : decode cX4_minutes 22 = .ok (.invokevirtual 101, 3) := by decide +kernel
theorem dX4_minutes_25 : decode cX4_minutes 25 = .ok (.ifCond .eq 7, 3) := by decide +kernel
theorem dX4_minutes_28 : decode cX4_minutes 28 = .ok (.iconst 0, 1) := by decide +kernel
theorem dX4_minutes_29 : decode cX4_minutes 29 = .ok (.goto 9, 3) := by decide +kernel
theorem dX4_minutes_32 : decode cX4_minutes 32 = .ok (.aload_n 0, 1) := by decide +kernel
theorem dX4_minutes_33 : decode cX4_minutes 33 = .ok (.iload_n 1, 1) := by decide +kernel
theorem dX4_minutes_34 : decode cX4_minutes 34 = .ok (.iload_n 2, 1) := by decide +kernel
theorem dX4_minutes_35 : decode cX4_minutes 35 = .ok (.invokevirtual 181, 3) := by decide +kernel
theorem dX4_minutes_38 : decode cX4_minutes 38 = .ok (.ireturn, 1) := by decide +kernel
theorem dX4_minutesAnew_0 : decode cX4_minutesAnew 0 = .ok (.aload_n 0, 1) := by decide +kernel
theorem dX4_minutesAnew_1 : decode cX4_minutesAnew 1 = .ok (.iload_n 1, 1) := by decide +kernel
theorem dX4_minutesAnew_2 : decode cX4_minutesAnew 2 = .ok (.iload_n 2, 1) := by decide +kernel
theorem dX4_minutesAnew_3 : decode cX4_minutesAnew 3 = .ok (.invokevirtual 203, 3) := by decide +kernel
theorem dX4_minutesAnew_6 : decode cX4_minutesAnew 6 = .ok (.ireturn, 1) := by decide +kernel
theorem dX4_carried_0 : decode cX4_carried 0 = .ok (.iconst 0, 1) := by decide +kernel
theorem dX4_carried_1 : decode cX4_carried 1 = .ok (.istore_n 3, 1) := by decide +kernel
theorem dX4_carried_2 : decode cX4_carried 2 = .ok (.iconst 0, 1) := by decide +kernel
theorem dX4_carried_3 : decode cX4_carried 3 = .ok (.istore 4, 2) := by decide +kernel
theorem dX4_carried_5 : decode cX4_carried 5 = .ok (.iload 4, 2) := by decide +kernel
theorem dX4_carried_7 : decode cX4_carried 7 = .ok (.aload_n 0, 1) := by decide +kernel
theorem dX4_carried_8 : decode cX4_carried 8 = .ok (.getfield 98, 3) := by decide +kernel
theorem dX4_carried_11 : decode cX4_carried 11 = .ok (.if_icmp .ge 54, 3) := by decide +kernel
theorem dX4_carried_14 : decode cX4_carried 14 = .ok (.iload_n 3, 1) := by decide +kernel
theorem dX4_carried_15 : decode cX4_carried 15 = .ok (.aload_n 0, 1) := by decide +kernel
theorem dX4_carried_16 : decode cX4_carried 16 = .ok (.getfield 76, 3) := by decide +kernel
theorem dX4_carried_19 : decode cX4_carried 19 = .ok (.iload 4, 2) := by decide +kernel
theorem dX4_carried_21 : decode cX4_carried 21 = .ok (.iaload, 1) := by decide +kernel
theorem dX4_carried_22 : decode cX4_carried 22 = .ok (.iload_n 1, 1) := by decide +kernel
theorem dX4_carried_23 : decode cX4_carried 23 = .ok (.if_icmp .ne 33, 3) := by decide +kernel
theorem dX4_carried_26 : decode cX4_carried 26 = .ok (.aload_n 0, 1) := by decide +kernel
theorem dX4_carried_27 : decode cX4_carried 27 = .ok (.getfield 60, 3) := by decide +kernel
theorem dX4_carried_30 : decode cX4_carried 30 = .ok (.iload 4, 2) := by decide +kernel
theorem dX4_carried_32 : decode cX4_carried 32 = .ok (.iaload, 1) := by decide +kernel
theorem dX4_carried_33 : decode cX4_carried 33 = .ok (.iconst 4, 1) := by decide +kernel
theorem dX4_carried_34 : decode cX4_carried 34 = .ok (.if_icmp .ne 7, 3) := by decide +kernel
theorem dX4_carried_37 : decode cX4_carried 37 = .ok (.iconst 1, 1) := by decide +kernel
theorem dX4_carried_38 : decode cX4_carried 38 = .ok (.goto 4, 3) := by decide +kernel
theorem dX4_carried_41 : decode cX4_carried 41 = .ok (.iconst 0, 1) := by decide +kernel
theorem dX4_carried_42 : decode cX4_carried 42 = .ok (.iload_n 2, 1) := by decide +kernel
theorem dX4_carried_43 : decode cX4_carried 43 = .ok (.if_icmp .ne 13, 3) := by decide +kernel
theorem dX4_carried_46 : decode cX4_carried 46 = .ok (.aload_n 0, 1) := by decide +kernel
theorem dX4_carried_47 : decode cX4_carried 47 = .ok (.getfield 73, 3) := by decide +kernel
theorem dX4_carried_50 : decode cX4_carried 50 = .ok (.iload 4, 2) := by decide +kernel
theorem dX4_carried_52 : decode cX4_carried 52 = .ok (.iaload, 1) := by decide +kernel
theorem dX4_carried_53 : decode cX4_carried 53 = .ok (.goto 4, 3) := by decide +kernel
theorem dX4_carried_56 : decode cX4_carried 56 = .ok (.iconst 0, 1) := by decide +kernel
theorem dX4_carried_57 : decode cX4_carried 57 = .ok (.iadd, 1) := by decide +kernel
theorem dX4_carried_58 : decode cX4_carried 58 = .ok (.istore_n 3, 1) := by decide +kernel
theorem dX4_carried_59 : decode cX4_carried 59 = .ok (.iinc 4 1, 3) := by decide +kernel
theorem dX4_carried_62 : decode cX4_carried 62 = .ok (.goto (-57), 3) := by decide +kernel
theorem dX4_carried_65 : decode cX4_carried 65 = .ok (.iload_n 3, 1) := by decide +kernel
theorem dX4_carried_66 : decode cX4_carried 66 = .ok (.ireturn, 1) := by decide +kernel
theorem dX4_missing_0 : decode cX4_missing 0 = .ok (.aload_n 0, 1) := by decide +kernel
theorem dX4_missing_1 : decode cX4_missing 1 = .ok (.getfield 85, 3) := by decide +kernel
theorem dX4_missing_4 : decode cX4_missing 4 = .ok (.iload_n 1, 1) := by decide +kernel
theorem dX4_missing_5 : decode cX4_missing 5 = .ok (.iaload, 1) := by decide +kernel
theorem dX4_missing_6 : decode cX4_missing 6 = .ok (.aload_n 0, 1) := by decide +kernel
theorem dX4_missing_7 : decode cX4_missing 7 = .ok (.getfield 82, 3) := by decide +kernel
theorem dX4_missing_10 : decode cX4_missing 10 = .ok (.iload_n 1, 1) := by decide +kernel
theorem dX4_missing_11 : decode cX4_missing 11 = .ok (.iaload, 1) := by decide +kernel
theorem dX4_missing_12 : decode cX4_missing 12 = .ok (.if_icmp .le 19, 3) := by decide +kernel
theorem dX4_missing_15 : decode cX4_missing 15 = .ok (.aload_n 0, 1) := by decide +kernel
theorem dX4_missing_16 : decode cX4_missing 16 = .ok (.getfield 85, 3) := by decide +kernel
theorem dX4_missing_19 : decode cX4_missing 19 = .ok (.iload_n 1, 1) := by decide +kernel
theorem dX4_missing_20 : decode cX4_missing 20 = .ok (.iaload, 1) := by decide +kernel
theorem dX4_missing_21 : decode cX4_missing 21 = .ok (.aload_n 0, 1) := by decide +kernel
theorem dX4_missing_22 : decode cX4_missing 22 = .ok (.getfield 82, 3) := by decide +kernel
theorem dX4_missing_25 : decode cX4_missing 25 = .ok (.iload_n 1, 1) := by decide +kernel
theorem dX4_missing_26 : decode cX4_missing 26 = .ok (.iaload, 1) := by decide +kernel
theorem dX4_missing_27 : decode cX4_missing 27 = .ok (.isub, 1) := by decide +kernel
theorem dX4_missing_28 : decode cX4_missing 28 = .ok (.goto 4, 3) := by decide +kernel
theorem dX4_missing_31 : decode cX4_missing 31 = .ok (.iconst 0, 1) := by decide +kernel
theorem dX4_missing_32 : decode cX4_missing 32 = .ok (.ireturn, 1) := by decide +kernel
theorem dX4_kilos_0 : decode cX4_kilos 0 = .ok (.aload_n 0, 1) := by decide +kernel
theorem dX4_kilos_1 : decode cX4_kilos 1 = .ok (.iload_n 1, 1) := by decide +kernel
theorem dX4_kilos_2 : decode cX4_kilos 2 = .ok (.invokestatic 126, 3) := by decide +kernel
theorem dX4_kilos_5 : decode cX4_kilos 5 = .ok (.ifCond .ne 7, 3) := by decide +kernel
theorem dX4_kilos_8 : decode cX4_kilos 8 = .ok (.iconst 1, 1) := by decide +kernel
theorem dX4_kilos_9 : decode cX4_kilos 9 = .ok (.goto 17, 3) := by decide +kernel
theorem dX4_kilos_12 : decode cX4_kilos 12 = .ok (.iload_n 2, 1) := by decide +kernel
theorem dX4_kilos_13 : decode cX4_kilos 13 = .ok (.iconst 0, 1) := by decide +kernel
theorem dX4_kilos_14 : decode cX4_kilos 14 = .ok (.iconst 4, 1) := by decide +kernel
theorem dX4_kilos_15 : decode cX4_kilos 15 = .ok (.invokestatic 94, 3) := by decide +kernel
theorem dX4_kilos_18 : decode cX4_kilos 18 = .ok (.ifCond .eq 7, 3) := by decide +kernel
theorem dX4_kilos_21 : decode cX4_kilos 21 = .ok (.iconst 0, 1) := by decide +kernel
theorem dX4_kilos_22 : decode cX4_kilos 22 = .ok (.goto 4, 3) := by decide +kernel
theorem dX4_kilos_25 : decode cX4_kilos 25 = .ok (.iconst 2, 1) := by decide +kernel
theorem dX4_kilos_26 : decode cX4_kilos 26 = .ok (.invokevirtual 101, 3) := by decide +kernel
theorem dX4_kilos_29 : decode cX4_kilos 29 = .ok (.ifCond .eq 5, 3) := by decide +kernel
theorem dX4_kilos_32 : decode cX4_kilos 32 = .ok (.iconst 0, 1) := by decide +kernel
theorem dX4_kilos_33 : decode cX4_kilos 33 = .ok (.ireturn, 1) := by decide +kernel
theorem dX4_kilos_34 : decode cX4_kilos 34 = .ok (.iload_n 2, 1) := by decide +kernel
theorem dX4_kilos_35 : decode cX4_kilos 35 = .ok (.ifCond .ne 12, 3) := by decide +kernel
theorem dX4_kilos_38 : decode cX4_kilos 38 = .ok (.aload_n 0, 1) := by decide +kernel
theorem dX4_kilos_39 : decode cX4_kilos 39 = .ok (.getfield 79, 3) := by decide +kernel
theorem dX4_kilos_42 : decode cX4_kilos 42 = .ok (.iload_n 1, 1) := by decide +kernel
theorem dX4_kilos_43 : decode cX4_kilos 43 = .ok (.iaload, 1) := by decide +kernel
theorem dX4_kilos_44 : decode cX4_kilos 44 = .ok (.goto 45, 3) := by decide +kernel
theorem dX4_kilos_47 : decode cX4_kilos 47 = .ok (.iload_n 2, 1) := by decide +kernel
theorem dX4_kilos_48 : decode cX4_kilos 48 = .ok (.iconst 1, 1) := by decide +kernel
theorem dX4_kilos_49 : decode cX4_kilos 49 = .ok (.if_icmp .ne 12, 3) := by decide +kernel
theorem dX4_kilos_52 : decode cX4_kilos 52 = .ok (.aload_n 0, 1) := by decide +kernel
theorem dX4_kilos_53 : decode cX4_kilos 53 = .ok (.getfield 82, 3) := by decide +kernel
theorem dX4_kilos_56 : decode cX4_kilos 56 = .ok (.iload_n 1, 1) := by decide +kernel
theorem dX4_kilos_57 : decode cX4_kilos 57 = .ok (.iaload, 1) := by decide +kernel
theorem dX4_kilos_58 : decode cX4_kilos 58 = .ok (.goto 31, 3) := by decide +kernel
theorem dX4_kilos_61 : decode cX4_kilos 61 = .ok (.iload_n 2, 1) := by decide +kernel
theorem dX4_kilos_62 : decode cX4_kilos 62 = .ok (.iconst 4, 1) := by decide +kernel
theorem dX4_kilos_63 : decode cX4_kilos 63 = .ok (.if_icmp .ne 11, 3) := by decide +kernel
theorem dX4_kilos_66 : decode cX4_kilos 66 = .ok (.aload_n 0, 1) := by decide +kernel
theorem dX4_kilos_67 : decode cX4_kilos 67 = .ok (.iload_n 1, 1) := by decide +kernel
theorem dX4_kilos_68 : decode cX4_kilos 68 = .ok (.invokevirtual 206, 3) := by decide +kernel
theorem dX4_kilos_71 : decode cX4_kilos 71 = .ok (.goto 18, 3) := by decide +kernel
theorem dX4_kilos_74 : decode cX4_kilos 74 = .ok (.aload_n 0, 1) := by decide +kernel
theorem dX4_kilos_75 : decode cX4_kilos 75 = .ok (.iload_n 1, 1) := by decide +kernel
theorem dX4_kilos_76 : decode cX4_kilos 76 = .ok (.iload_n 2, 1) := by decide +kernel
theorem dX4_kilos_77 : decode cX4_kilos 77 = .ok (.iconst 3, 1) := by decide +kernel
theorem dX4_kilos_78 : decode cX4_kilos 78 = .ok (.if_icmp .ne 7, 3) := by decide +kernel
theorem dX4_kilos_81 : decode cX4_kilos 81 = .ok (.iconst 1, 1) := by decide +kernel
theorem dX4_kilos_82 : decode cX4_kilos 82 = .ok (.goto 4, 3) := by decide +kernel
theorem dX4_kilos_85 : decode cX4_kilos 85 = .ok (.iconst 0, 1) := by decide +kernel
theorem dX4_kilos_86 : decode cX4_kilos 86 = .ok (.invokevirtual 209, 3) := by decide +kernel
theorem dX4_kilos_89 : decode cX4_kilos 89 = .ok (.ireturn, 1) := by decide +kernel
theorem dX4_kilosAnew_0 : decode cX4_kilosAnew 0 = .ok (.aload_n 0, 1) := by decide +kernel
theorem dX4_kilosAnew_1 : decode cX4_kilosAnew 1 = .ok (.iload_n 1, 1) := by decide +kernel
theorem dX4_kilosAnew_2 : decode cX4_kilosAnew 2 = .ok (.invokestatic 126, 3) := by decide +kernel
theorem dX4_kilosAnew_5 : decode cX4_kilosAnew 5 = .ok (.ifCond .eq 7, 3) := by decide +kernel
theorem dX4_kilosAnew_8 : decode cX4_kilosAnew 8 = .ok (.iconst 0, 1) := by decide +kernel
theorem dX4_kilosAnew_9 : decode cX4_kilosAnew 9 = .ok (.goto 4, 3) := by decide +kernel
theorem dX4_kilosAnew_12 : decode cX4_kilosAnew 12 = .ok (.iconst 1, 1) := by decide +kernel
theorem dX4_kilosAnew_13 : decode cX4_kilosAnew 13 = .ok (.invokevirtual 101, 3) := by decide +kernel
theorem dX4_kilosAnew_16 : decode cX4_kilosAnew 16 = .ok (.ifCond .eq 7, 3) := by decide +kernel
theorem dX4_kilosAnew_19 : decode cX4_kilosAnew 19 = .ok (.iconst 0, 1) := by decide +kernel
theorem dX4_kilosAnew_20 : decode cX4_kilosAnew 20 = .ok (.goto 9, 3) := by decide +kernel
theorem dX4_kilosAnew_23 : decode cX4_kilosAnew 23 = .ok (.aload_n 0, 1) := by decide +kernel
theorem dX4_kilosAnew_24 : decode cX4_kilosAnew 24 = .ok (.getfield 79, 3) := by decide +kernel
theorem dX4_kilosAnew_27 : decode cX4_kilosAnew 27 = .ok (.iload_n 1, 1) := by decide +kernel
theorem dX4_kilosAnew_28 : decode cX4_kilosAnew 28 = .ok (.iaload, 1) := by decide +kernel
theorem dX4_kilosAnew_29 : decode cX4_kilosAnew 29 = .ok (.ireturn, 1) := by decide +kernel
theorem dX4_bill_0 : decode cX4_bill 0 = .ok (.aload_n 0, 1) := by decide +kernel
theorem dX4_bill_1 : decode cX4_bill 1 = .ok (.iconst 0, 1) := by decide +kernel
theorem dX4_bill_2 : decode cX4_bill 2 = .ok (.putfield 88, 3) := by decide +kernel
theorem dX4_bill_5 : decode cX4_bill 5 = .ok (.lconst 0, 1) := by decide +kernel
theorem dX4_bill_6 : decode cX4_bill 6 = .ok (.lstore_n 1, 1) := by decide +kernel
theorem dX4_bill_7 : decode cX4_bill 7 = .ok (.iconst 0, 1) := by decide +kernel
theorem dX4_bill_8 : decode cX4_bill 8 = .ok (.istore_n 3, 1) := by decide +kernel
theorem dX4_bill_9 : decode cX4_bill 9 = .ok (.iload_n 3, 1) := by decide +kernel
theorem dX4_bill_10 : decode cX4_bill 10 = .ok (.iconst 3, 1) := by decide +kernel
theorem dX4_bill_11 : decode cX4_bill 11 = .ok (.if_icmp .ge 30, 3) := by decide +kernel
theorem dX4_bill_14 : decode cX4_bill 14 = .ok (.lload_n 1, 1) := by decide +kernel
theorem dX4_bill_15 : decode cX4_bill 15 = .ok (.aload_n 0, 1) := by decide +kernel
theorem dX4_bill_16 : decode cX4_bill 16 = .ok (.getfield 82, 3) := by decide +kernel
theorem dX4_bill_19 : decode cX4_bill 19 = .ok (.iload_n 3, 1) := by decide +kernel
theorem dX4_bill_20 : decode cX4_bill 20 = .ok (.iaload, 1) := by decide +kernel
theorem dX4_bill_21 : decode cX4_bill 21 = .ok (.i2l, 1) := by decide +kernel
theorem dX4_bill_22 : decode cX4_bill 22 = .ok (.ldc2_w 213, 3) := by decide +kernel
theorem dX4_bill_25 : decode cX4_bill 25 = .ok (.aload_n 0, 1) := by decide +kernel
theorem dX4_bill_26 : decode cX4_bill 26 = .ok (.iload_n 3, 1) := by decide +kernel
theorem dX4_bill_27 : decode cX4_bill 27 = .ok (.invokevirtual 206, 3) := by decide +kernel
theorem dX4_bill_30 : decode cX4_bill 30 = .ok (.i2l, 1) := by decide +kernel
theorem dX4_bill_31 : decode cX4_bill 31 = .ok (.lmul, 1) := by decide +kernel
theorem dX4_bill_32 : decode cX4_bill 32 = .ok (.ladd, 1) := by decide +kernel
theorem dX4_bill_33 : decode cX4_bill 33 = .ok (.ladd, 1) := by decide +kernel
theorem dX4_bill_34 : decode cX4_bill 34 = .ok (.lstore_n 1, 1) := by decide +kernel
theorem dX4_bill_35 : decode cX4_bill 35 = .ok (.iinc 3 1, 3) := by decide +kernel
theorem dX4_bill_38 : decode cX4_bill 38 = .ok (.goto (-29), 3) := by decide +kernel
theorem dX4_bill_41 : decode cX4_bill 41 = .ok (.lload_n 1, 1) := by decide +kernel
theorem dX4_bill_42 : decode cX4_bill 42 = .ok (.lreturn, 1) := by decide +kernel
