theorem dX4_init_0 : decode cX4_init 0 = .ok (.aload_n 0, 1) := by decide +kernel
theorem dX4_init_1 : decode cX4_init 1 = .ok (.invokespecial 1, 3) := by decide +kernel
theorem dX4_init_4 : decode cX4_init 4 = .ok (.aload_n 0, 1) := by decide +kernel
theorem dX4_init_5 : decode cX4_init 5 = .ok (.iconst 3, 1) := by decide +kernel
theorem dX4_init_6 : decode cX4_init 6 = .ok (.newarray .int, 2) := by decide +kernel
theorem dX4_init_8 : decode cX4_init 8 = .ok (.putfield 7, 3) := by decide +kernel
theorem dX4_init_11 : decode cX4_init 11 = .ok (.aload_n 0, 1) := by decide +kernel
theorem dX4_init_12 : decode cX4_init 12 = .ok (.bipush 12, 2) := by decide +kernel
theorem dX4_init_14 : decode cX4_init 14 = .ok (.newarray .int, 2) := by decide +kernel
theorem dX4_init_16 : decode cX4_init 16 = .ok (.putfield 13, 3) := by decide +kernel
theorem dX4_init_19 : decode cX4_init 19 = .ok (.aload_n 0, 1) := by decide +kernel
theorem dX4_init_20 : decode cX4_init 20 = .ok (.bipush 12, 2) := by decide +kernel
theorem dX4_init_22 : decode cX4_init 22 = .ok (.newarray .int, 2) := by decide +kernel
theorem dX4_init_24 : decode cX4_init 24 = .ok (.putfield 16, 3) := by decide +kernel
theorem dX4_init_27 : decode cX4_init 27 = .ok (.aload_n 0, 1) := by decide +kernel
theorem dX4_init_28 : decode cX4_init 28 = .ok (.bipush 12, 2) := by decide +kernel
theorem dX4_init_30 : decode cX4_init 30 = .ok (.newarray .int, 2) := by decide +kernel
theorem dX4_init_32 : decode cX4_init 32 = .ok (.putfield 19, 3) := by decide +kernel
theorem dX4_init_35 : decode cX4_init 35 = .ok (.aload_n 0, 1) := by decide +kernel
theorem dX4_init_36 : decode cX4_init 36 = .ok (.bipush 12, 2) := by decide +kernel
theorem dX4_init_38 : decode cX4_init 38 = .ok (.newarray .boolean, 2) := by decide +kernel
theorem dX4_init_40 : decode cX4_init 40 = .ok (.putfield 22, 3) := by decide +kernel
theorem dX4_init_43 : decode cX4_init 43 = .ok (.aload_n 0, 1) := by decide +kernel
theorem dX4_init_44 : decode cX4_init 44 = .ok (.bipush 12, 2) := by decide +kernel
theorem dX4_init_46 : decode cX4_init 46 = .ok (.newarray .int, 2) := by decide +kernel
theorem dX4_init_48 : decode cX4_init 48 = .ok (.putfield 26, 3) := by decide +kernel
theorem dX4_init_51 : decode cX4_init 51 = .ok (.aload_n 0, 1) := by decide +kernel
theorem dX4_init_52 : decode cX4_init 52 = .ok (.bipush 120, 2) := by decide +kernel
theorem dX4_init_54 : decode cX4_init 54 = .ok (.newarray .int, 2) := by decide +kernel
theorem dX4_init_56 : decode cX4_init 56 = .ok (.putfield 29, 3) := by decide +kernel
theorem dX4_init_59 : decode cX4_init 59 = .ok (.aload_n 0, 1) := by decide +kernel
theorem dX4_init_60 : decode cX4_init 60 = .ok (.bipush 120, 2) := by decide +kernel
theorem dX4_init_62 : decode cX4_init 62 = .ok (.newarray .int, 2) := by decide +kernel
theorem dX4_init_64 : decode cX4_init 64 = .ok (.putfield 32, 3) := by decide +kernel
theorem dX4_init_67 : decode cX4_init 67 = .ok (.aload_n 0, 1) := by decide +kernel
theorem dX4_init_68 : decode cX4_init 68 = .ok (.bipush 120, 2) := by decide +kernel
theorem dX4_init_70 : decode cX4_init 70 = .ok (.newarray .int, 2) := by decide +kernel
theorem dX4_init_72 : decode cX4_init 72 = .ok (.putfield 35, 3) := by decide +kernel
theorem dX4_init_75 : decode cX4_init 75 = .ok (.aload_n 0, 1) := by decide +kernel
theorem dX4_init_76 : decode cX4_init 76 = .ok (.bipush 120, 2) := by decide +kernel
theorem dX4_init_78 : decode cX4_init 78 = .ok (.newarray .int, 2) := by decide +kernel
theorem dX4_init_80 : decode cX4_init 80 = .ok (.putfield 38, 3) := by decide +kernel
theorem dX4_init_83 : decode cX4_init 83 = .ok (.aload_n 0, 1) := by decide +kernel
theorem dX4_init_84 : decode cX4_init 84 = .ok (.bipush 120, 2) := by decide +kernel
theorem dX4_init_86 : decode cX4_init 86 = .ok (.newarray .int, 2) := by decide +kernel
theorem dX4_init_88 : decode cX4_init 88 = .ok (.putfield 41, 3) := by decide +kernel
theorem dX4_init_91 : decode cX4_init 91 = .ok (.aload_n 0, 1) := by decide +kernel
theorem dX4_init_92 : decode cX4_init 92 = .ok (.sipush 540, 3) := by decide +kernel
theorem dX4_init_95 : decode cX4_init 95 = .ok (.newarray .int, 2) := by decide +kernel
theorem dX4_init_97 : decode cX4_init 97 = .ok (.putfield 44, 3) := by decide +kernel
theorem dX4_init_100 : decode cX4_init 100 = .ok (.aload_n 0, 1) := by decide +kernel
theorem dX4_init_101 : decode cX4_init 101 = .ok (.iconst 3, 1) := by decide +kernel
theorem dX4_init_102 : decode cX4_init 102 = .ok (.newarray .int, 2) := by decide +kernel
theorem dX4_init_104 : decode cX4_init 104 = .ok (.dup, 1) := by decide +kernel
theorem dX4_init_105 : decode cX4_init 105 = .ok (.iconst 0, 1) := by decide +kernel
theorem dX4_init_106 : decode cX4_init 106 = .ok (.iconst 0, 1) := by decide +kernel
theorem dX4_init_107 : decode cX4_init 107 = .ok (.iastore, 1) := by decide +kernel
theorem dX4_init_108 : decode cX4_init 108 = .ok (.dup, 1) := by decide +kernel
theorem dX4_init_109 : decode cX4_init 109 = .ok (.iconst 1, 1) := by decide +kernel
theorem dX4_init_110 : decode cX4_init 110 = .ok (.iconst 1, 1) := by decide +kernel
theorem dX4_init_111 : decode cX4_init 111 = .ok (.iastore, 1) := by decide +kernel
theorem dX4_init_112 : decode cX4_init 112 = .ok (.dup, 1) := by decide +kernel
theorem dX4_init_113 : decode cX4_init 113 = .ok (.iconst 2, 1) := by decide +kernel
theorem dX4_init_114 : decode cX4_init 114 = .ok (.iconst 2, 1) := by decide +kernel
theorem dX4_init_115 : decode cX4_init 115 = .ok (.iastore, 1) := by decide +kernel
theorem dX4_init_116 : decode cX4_init 116 = .ok (.putfield 47, 3) := by decide +kernel
theorem dX4_init_119 : decode cX4_init 119 = .ok (.aload_n 0, 1) := by decide +kernel
theorem dX4_init_120 : decode cX4_init 120 = .ok (.bipush 10, 2) := by decide +kernel
theorem dX4_init_122 : decode cX4_init 122 = .ok (.newarray .int, 2) := by decide +kernel
theorem dX4_init_124 : decode cX4_init 124 = .ok (.putfield 50, 3) := by decide +kernel
theorem dX4_init_127 : decode cX4_init 127 = .ok (.aload_n 0, 1) := by decide +kernel
theorem dX4_init_128 : decode cX4_init 128 = .ok (.bipush 6, 2) := by decide +kernel
theorem dX4_init_130 : decode cX4_init 130 = .ok (.newarray .boolean, 2) := by decide +kernel
theorem dX4_init_132 : decode cX4_init 132 = .ok (.putfield 53, 3) := by decide +kernel
theorem dX4_init_135 : decode cX4_init 135 = .ok (.aload_n 0, 1) := by decide +kernel
theorem dX4_init_136 : decode cX4_init 136 = .ok (.bipush 120, 2) := by decide +kernel
theorem dX4_init_138 : decode cX4_init 138 = .ok (.newarray .boolean, 2) := by decide +kernel
theorem dX4_init_140 : decode cX4_init 140 = .ok (.putfield 56, 3) := by decide +kernel
theorem dX4_init_143 : decode cX4_init 143 = .ok (.iconst 0, 1) := by decide +kernel
theorem dX4_init_144 : decode cX4_init 144 = .ok (.istore_n 1, 1) := by decide +kernel
theorem dX4_init_145 : decode cX4_init 145 = .ok (.iload_n 1, 1) := by decide +kernel
theorem dX4_init_146 : decode cX4_init 146 = .ok (.bipush 120, 2) := by decide +kernel
theorem dX4_init_148 : decode cX4_init 148 = .ok (.if_icmp .ge 16, 3) := by decide +kernel
theorem dX4_init_151 : decode cX4_init 151 = .ok (.aload_n 0, 1) := by decide +kernel
theorem dX4_init_152 : decode cX4_init 152 = .ok (.getfield 41, 3) := by decide +kernel
theorem dX4_init_155 : decode cX4_init 155 = .ok (.iload_n 1, 1) := by decide +kernel
theorem dX4_init_156 : decode cX4_init 156 = .ok (.iconst (-1), 1) := by decide +kernel
theorem dX4_init_157 : decode cX4_init 157 = .ok (.iastore, 1) := by decide +kernel
theorem dX4_init_158 : decode cX4_init 158 = .ok (.iinc 1 1, 3) := by decide +kernel
theorem dX4_init_161 : decode cX4_init 161 = .ok (.goto (-16), 3) := by decide +kernel
theorem dX4_init_164 : decode cX4_init 164 = .ok (.iconst 1, 1) := by decide +kernel
theorem dX4_init_165 : decode cX4_init 165 = .ok (.istore_n 1, 1) := by decide +kernel
theorem dX4_init_166 : decode cX4_init 166 = .ok (.iload_n 1, 1) := by decide +kernel
theorem dX4_init_167 : decode cX4_init 167 = .ok (.sipush 540, 3) := by decide +kernel
theorem dX4_init_170 : decode cX4_init 170 = .ok (.if_icmp .ge 16, 3) := by decide +kernel
theorem dX4_init_173 : decode cX4_init 173 = .ok (.aload_n 0, 1) := by decide +kernel
theorem dX4_init_174 : decode cX4_init 174 = .ok (.getfield 44, 3) := by decide +kernel
theorem dX4_init_177 : decode cX4_init 177 = .ok (.iload_n 1, 1) := by decide +kernel
theorem dX4_init_178 : decode cX4_init 178 = .ok (.iconst (-1), 1) := by decide +kernel
theorem dX4_init_179 : decode cX4_init 179 = .ok (.iastore, 1) := by decide +kernel
theorem dX4_init_180 : decode cX4_init 180 = .ok (.iinc 1 3, 3) := by decide +kernel
theorem dX4_init_183 : decode cX4_init 183 = .ok (.goto (-17), 3) := by decide +kernel
theorem dX4_init_186 : decode cX4_init 186 = .ok (.return_, 1) := by decide +kernel
theorem dX4_thrown_0 : decode cX4_thrown 0 = .ok (.aload_n 0, 1) := by decide +kernel
theorem dX4_thrown_1 : decode cX4_thrown 1 = .ok (.getfield 59, 3) := by decide +kernel
theorem dX4_thrown_4 : decode cX4_thrown 4 = .ok (.ireturn, 1) := by decide +kernel
theorem dX4_in_0 : decode cX4_in 0 = .ok (.iload_n 0, 1) := by decide +kernel
theorem dX4_in_1 : decode cX4_in 1 = .ok (.iload_n 1, 1) := by decide +kernel
theorem dX4_in_2 : decode cX4_in 2 = .ok (.if_icmp .lt 12, 3) := by decide +kernel
theorem dX4_in_5 : decode cX4_in 5 = .ok (.iload_n 0, 1) := by decide +kernel
theorem dX4_in_6 : decode cX4_in 6 = .ok (.iload_n 2, 1) := by decide +kernel
theorem dX4_in_7 : decode cX4_in 7 = .ok (.if_icmp .gt 7, 3) := by decide +kernel
theorem dX4_in_10 : decode cX4_in 10 = .ok (.iconst 1, 1) := by decide +kernel
theorem dX4_in_11 : decode cX4_in 11 = .ok (.goto 4, 3) := by decide +kernel
theorem dX4_in_14 : decode cX4_in 14 = .ok (.iconst 0, 1) := by decide +kernel
theorem dX4_in_15 : decode cX4_in 15 = .ok (.ireturn, 1) := by decide +kernel
theorem dX4_isPupil_0 : decode cX4_isPupil 0 = .ok (.iload_n 1, 1) := by decide +kernel
theorem dX4_isPupil_1 : decode cX4_isPupil 1 = .ok (.iconst 0, 1) := by decide +kernel
theorem dX4_isPupil_2 : decode cX4_isPupil 2 = .ok (.aload_n 0, 1) := by decide +kernel
theorem dX4_isPupil_3 : decode cX4_isPupil 3 = .ok (.getfield 63, 3) := by decide +kernel
theorem dX4_isPupil_6 : decode cX4_isPupil 6 = .ok (.iconst 1, 1) := by decide +kernel
theorem dX4_isPupil_7 : decode cX4_isPupil 7 = .ok (.isub, 1) := by decide +kernel
theorem dX4_isPupil_8 : decode cX4_isPupil 8 = .ok (.invokestatic 66, 3) := by decide +kernel
theorem dX4_isPupil_11 : decode cX4_isPupil 11 = .ok (.ireturn, 1) := by decide +kernel
theorem dX4_isExam_0 : decode cX4_isExam 0 = .ok (.iload_n 1, 1) := by decide +kernel
theorem dX4_isExam_1 : decode cX4_isExam 1 = .ok (.iconst 0, 1) := by decide +kernel
theorem dX4_isExam_2 : decode cX4_isExam 2 = .ok (.aload_n 0, 1) := by decide +kernel
theorem dX4_isExam_3 : decode cX4_isExam 3 = .ok (.getfield 70, 3) := by decide +kernel
theorem dX4_isExam_6 : decode cX4_isExam 6 = .ok (.iconst 1, 1) := by decide +kernel
theorem dX4_isExam_7 : decode cX4_isExam 7 = .ok (.isub, 1) := by decide +kernel
theorem dX4_isExam_8 : decode cX4_isExam 8 = .ok (.invokestatic 66, 3) := by decide +kernel
theorem dX4_isExam_11 : decode cX4_isExam 11 = .ok (.ireturn, 1) := by decide +kernel
theorem dX4_isOffer_0 : decode cX4_isOffer 0 = .ok (.iload_n 1, 1) := by decide +kernel
theorem dX4_isOffer_1 : decode cX4_isOffer 1 = .ok (.iconst 0, 1) := by decide +kernel
theorem dX4_isOffer_2 : decode cX4_isOffer 2 = .ok (.aload_n 0, 1) := by decide +kernel
theorem dX4_isOffer_3 : decode cX4_isOffer 3 = .ok (.getfield 73, 3) := by decide +kernel
theorem dX4_isOffer_6 : decode cX4_isOffer 6 = .ok (.iconst 1, 1) := by decide +kernel
theorem dX4_isOffer_7 : decode cX4_isOffer 7 = .ok (.isub, 1) := by decide +kernel
theorem dX4_isOffer_8 : decode cX4_isOffer 8 = .ok (.invokestatic 66, 3) := by decide +kernel
theorem dX4_isOffer_11 : decode cX4_isOffer 11 = .ok (.ireturn, 1) := by decide +kernel
theorem dX4_isStore_0 : decode cX4_isStore 0 = .ok (.iload_n 0, 1) := by decide +kernel
theorem dX4_isStore_1 : decode cX4_isStore 1 = .ok (.iconst 0, 1) := by decide +kernel
theorem dX4_isStore_2 : decode cX4_isStore 2 = .ok (.iconst 2, 1) := by decide +kernel
theorem dX4_isStore_3 : decode cX4_isStore 3 = .ok (.invokestatic 66, 3) := by decide +kernel
theorem dX4_isStore_6 : decode cX4_isStore 6 = .ok (.ireturn, 1) := by decide +kernel
theorem dX4_isSlot_0 : decode cX4_isSlot 0 = .ok (.iload_n 0, 1) := by decide +kernel
theorem dX4_isSlot_1 : decode cX4_isSlot 1 = .ok (.iconst 0, 1) := by decide +kernel
theorem dX4_isSlot_2 : decode cX4_isSlot 2 = .ok (.iconst 5, 1) := by decide +kernel
theorem dX4_isSlot_3 : decode cX4_isSlot 3 = .ok (.invokestatic 66, 3) := by decide +kernel
theorem dX4_isSlot_6 : decode cX4_isSlot 6 = .ok (.ireturn, 1) := by decide +kernel
theorem dX4_fieldOf_0 : decode cX4_fieldOf 0 = .ok (.iload_n 0, 1) := by decide +kernel
theorem dX4_fieldOf_1 : decode cX4_fieldOf 1 = .ok (.bipush 114, 2) := by decide +kernel
theorem dX4_fieldOf_3 : decode cX4_fieldOf 3 = .ok (.if_icmp .ne 7, 3) := by decide +kernel
theorem dX4_fieldOf_6 : decode cX4_fieldOf 6 = .ok (.iconst 0, 1) := by decide +kernel
theorem dX4_fieldOf_7 : decode cX4_fieldOf 7 = .ok (.goto 24, 3) := by decide +kernel
theorem dX4_fieldOf_10 : decode cX4_fieldOf 10 = .ok (.iload_n 0, 1) := by decide +kernel
theorem dX4_fieldOf_11 : decode cX4_fieldOf 11 = .ok (.bipush 109, 2) := by decide +kernel
theorem dX4_fieldOf_13 : decode cX4_fieldOf 13 = .ok (.if_icmp .ne 7, 3) := by decide +kernel
theorem dX4_fieldOf_16 : decode cX4_fieldOf 16 = .ok (.iconst 1, 1) := by decide +kernel
theorem dX4_fieldOf_17 : decode cX4_fieldOf 17 = .ok (.goto 14, 3) := by decide +kernel
theorem dX4_fieldOf_20 : decode cX4_fieldOf 20 = .ok (.iload_n 0, 1) := by decide +kernel
theorem dX4_fieldOf_21 : decode cX4_fieldOf 21 = .ok (.bipush 120, 2) := by decide +kernel
theorem dX4_fieldOf_23 : decode cX4_fieldOf 23 = .ok (.if_icmp .ne 7, 3) := by decide +kernel
theorem dX4_fieldOf_26 : decode cX4_fieldOf 26 = .ok (.iconst 2, 1) := by decide +kernel
theorem dX4_fieldOf_27 : decode cX4_fieldOf 27 = .ok (.goto 4, 3) := by decide +kernel
theorem dX4_fieldOf_30 : decode cX4_fieldOf 30 = .ok (.iconst (-1), 1) := by decide +kernel
theorem dX4_fieldOf_31 : decode cX4_fieldOf 31 = .ok (.ireturn, 1) := by decide +kernel
theorem dX4_cell_0 : decode cX4_cell 0 = .ok (.iload_n 0, 1) := by decide +kernel
theorem dX4_cell_1 : decode cX4_cell 1 = .ok (.bipush 10, 2) := by decide +kernel
theorem dX4_cell_3 : decode cX4_cell 3 = .ok (.imul, 1) := by decide +kernel
theorem dX4_cell_4 : decode cX4_cell 4 = .ok (.iload_n 1, 1) := by decide +kernel
theorem dX4_cell_5 : decode cX4_cell 5 = .ok (.iadd, 1) := by decide +kernel
theorem dX4_cell_6 : decode cX4_cell 6 = .ok (.bipush 6, 2) := by decide +kernel
theorem dX4_cell_8 : decode cX4_cell 8 = .ok (.imul, 1) := by decide +kernel
theorem dX4_cell_9 : decode cX4_cell 9 = .ok (.iload_n 2, 1) := by decide +kernel
theorem dX4_cell_10 : decode cX4_cell 10 = .ok (.iadd, 1) := by decide +kernel
theorem dX4_cell_11 : decode cX4_cell 11 = .ok (.iconst 3, 1) := by decide +kernel
theorem dX4_cell_12 : decode cX4_cell 12 = .ok (.imul, 1) := by decide +kernel
theorem dX4_cell_13 : decode cX4_cell 13 = .ok (.iload_n 3, 1) := by decide +kernel
theorem dX4_cell_14 : decode cX4_cell 14 = .ok (.iadd, 1) := by decide +kernel
theorem dX4_cell_15 : decode cX4_cell 15 = .ok (.ireturn, 1) := by decide +kernel
theorem dX4_pair_0 : decode cX4_pair 0 = .ok (.iload_n 0, 1) := by decide +kernel
theorem dX4_pair_1 : decode cX4_pair 1 = .ok (.bipush 12, 2) := by decide +kernel
theorem dX4_pair_3 : decode cX4_pair 3 = .ok (.imul, 1) := by decide +kernel
theorem dX4_pair_4 : decode cX4_pair 4 = .ok (.iload_n 1, 1) := by decide +kernel
theorem dX4_pair_5 : decode cX4_pair 5 = .ok (.iadd, 1) := by decide +kernel
theorem dX4_pair_6 : decode cX4_pair 6 = .ok (.ireturn, 1) := by decide +kernel
theorem dX4_room_0 : decode cX4_room 0 = .ok (.aload_n 0, 1) := by decide +kernel
theorem dX4_room_1 : decode cX4_room 1 = .ok (.iload_n 1, 1) := by decide +kernel
theorem dX4_room_2 : decode cX4_room 2 = .ok (.iconst 1, 1) := by decide +kernel
theorem dX4_room_3 : decode cX4_room 3 = .ok (.bipush 6, 2) := by decide +kernel
theorem dX4_room_5 : decode cX4_room 5 = .ok (.invokestatic 66, 3) := by decide +kernel
theorem dX4_room_8 : decode cX4_room 8 = .ok (.ifCond .ne 7, 3) := by decide +kernel
theorem dX4_room_11 : decode cX4_room 11 = .ok (.iconst 1, 1) := by decide +kernel
theorem dX4_room_12 : decode cX4_room 12 = .ok (.goto 16, 3) := by decide +kernel
theorem dX4_room_15 : decode cX4_room 15 = .ok (.aload_n 0, 1) := by decide +kernel
theorem dX4_room_16 : decode cX4_room 16 = .ok (.getfield 76, 3) := by decide +kernel
theorem dX4_room_19 : decode cX4_room 19 = .ok (.iconst 3, 1) := by decide +kernel
theorem dX4_room_20 : decode cX4_room 20 = .ok (.if_icmp .ne 7, 3) := by decide +kernel
theorem dX4_room_23 : decode cX4_room 23 = .ok (.iconst 2, 1) := by decide +kernel
theorem dX4_room_24 : decode cX4_room 24 = .ok (.goto 4, 3) := by decide +kernel
theorem dX4_room_27 : decode cX4_room 27 = .ok (.iconst 0, 1) := by decide +kernel
theorem dX4_room_28 : decode cX4_room 28 = .ok (.putfield 59, 3) := by decide +kernel
theorem dX4_room_31 : decode cX4_room 31 = .ok (.aload_n 0, 1) := by decide +kernel
theorem dX4_room_32 : decode cX4_room 32 = .ok (.getfield 59, 3) := by decide +kernel
theorem dX4_room_35 : decode cX4_room 35 = .ok (.ifCond .le 5, 3) := by decide +kernel
theorem dX4_room_38 : decode cX4_room 38 = .ok (.iconst 0, 1) := by decide +kernel
theorem dX4_room_39 : decode cX4_room 39 = .ok (.ireturn, 1) := by decide +kernel
theorem dX4_room_40 : decode cX4_room 40 = .ok (.aload_n 0, 1) := by decide +kernel
theorem dX4_room_41 : decode cX4_room 41 = .ok (.getfield 7, 3) := by decide +kernel
theorem dX4_room_44 : decode cX4_room 44 = .ok (.aload_n 0, 1) := by decide +kernel
theorem dX4_room_45 : decode cX4_room 45 = .ok (.getfield 76, 3) := by decide +kernel
theorem dX4_room_48 : decode cX4_room 48 = .ok (.iload_n 1, 1) := by decide +kernel
theorem dX4_room_49 : decode cX4_room 49 = .ok (.iastore, 1) := by decide +kernel
theorem dX4_room_50 : decode cX4_room 50 = .ok (.aload_n 0, 1) := by decide +kernel
theorem dX4_room_51 : decode cX4_room 51 = .ok (.dup, 1) := by decide +kernel
theorem dX4_room_52 : decode cX4_room 52 = .ok (.getfield 76, 3) := by decide +kernel
theorem dX4_room_55 : decode cX4_room 55 = .ok (.iconst 1, 1) := by decide +kernel
theorem dX4_room_56 : decode cX4_room 56 = .ok (.iadd, 1) := by decide +kernel
theorem dX4_room_57 : decode cX4_room 57 = .ok (.putfield 76, 3) := by decide +kernel
theorem dX4_room_60 : decode cX4_room 60 = .ok (.aload_n 0, 1) := by decide +kernel
theorem dX4_room_61 : decode cX4_room 61 = .ok (.getfield 76, 3) := by decide +kernel
theorem dX4_room_64 : decode cX4_room 64 = .ok (.iconst 1, 1) := by decide +kernel
theorem dX4_room_65 : decode cX4_room 65 = .ok (.isub, 1) := by decide +kernel
theorem dX4_room_66 : decode cX4_room 66 = .ok (.ireturn, 1) := by decide +kernel
theorem dX4_exam_0 : decode cX4_exam 0 = .ok (.aload_n 0, 1) := by decide +kernel
theorem dX4_exam_1 : decode cX4_exam 1 = .ok (.aload_n 0, 1) := by decide +kernel
theorem dX4_exam_2 : decode cX4_exam 2 = .ok (.getfield 70, 3) := by decide +kernel
theorem dX4_exam_5 : decode cX4_exam 5 = .ok (.bipush 6, 2) := by decide +kernel
theorem dX4_exam_7 : decode cX4_exam 7 = .ok (.if_icmp .ne 7, 3) := by decide +kernel
theorem dX4_exam_10 : decode cX4_exam 10 = .ok (.iconst 1, 1) := by decide +kernel
theorem dX4_exam_11 : decode cX4_exam 11 = .ok (.goto 4, 3) := by decide +kernel
theorem dX4_exam_14 : decode cX4_exam 14 = .ok (.iconst 0, 1) := by decide +kernel
theorem dX4_exam_15 : decode cX4_exam 15 = .ok (.putfield 59, 3) := by decide +kernel
theorem dX4_exam_18 : decode cX4_exam 18 = .ok (.aload_n 0, 1) := by decide +kernel
theorem dX4_exam_19 : decode cX4_exam 19 = .ok (.getfield 59, 3) := by decide +kernel
theorem dX4_exam_22 : decode cX4_exam 22 = .ok (.ifCond .le 5, 3) := by decide +kernel
theorem dX4_exam_25 : decode cX4_exam 25 = .ok (.iconst 0, 1) := by decide +kernel
theorem dX4_exam_26 : decode cX4_exam 26 = .ok (.ireturn, 1) := by decide +kernel
theorem dX4_exam_27 : decode cX4_exam 27 = .ok (.aload_n 0, 1) := by decide +kernel
theorem dX4_exam_28 : decode cX4_exam 28 = .ok (.dup, 1) := by decide +kernel
theorem dX4_exam_29 : decode cX4_exam 29 = .ok (.getfield 70, 3) := by decide +kernel
theorem dX4_exam_32 : decode cX4_exam 32 = .ok (.iconst 1, 1) := by decide +kernel
theorem dX4_exam_33 : decode cX4_exam 33 = .ok (.iadd, 1) := by decide +kernel
theorem dX4_exam_34 : decode cX4_exam 34 = .ok (.putfield 70, 3) := by decide +kernel
theorem dX4_exam_37 : decode cX4_exam 37 = .ok (.aload_n 0, 1) := by decide +kernel
theorem dX4_exam_38 : decode cX4_exam 38 = .ok (.getfield 70, 3) := by decide +kernel
theorem dX4_exam_41 : decode cX4_exam 41 = .ok (.iconst 1, 1) := by decide +kernel
theorem dX4_exam_42 : decode cX4_exam 42 = .ok (.isub, 1) := by decide +kernel
theorem dX4_exam_43 : decode cX4_exam 43 = .ok (.ireturn, 1) := by decide +kernel
theorem dX4_pupil_0 : decode cX4_pupil 0 = .ok (.aload_n 0, 1) := by decide +kernel
theorem dX4_pupil_1 : decode cX4_pupil 1 = .ok (.aload_n 0, 1) := by decide +kernel
theorem dX4_pupil_2 : decode cX4_pupil 2 = .ok (.getfield 63, 3) := by decide +kernel
theorem dX4_pupil_5 : decode cX4_pupil 5 = .ok (.bipush 10, 2) := by decide +kernel
theorem dX4_pupil_7 : decode cX4_pupil 7 = .ok (.if_icmp .ne 7, 3) := by decide +kernel
theorem dX4_pupil_10 : decode cX4_pupil 10 = .ok (.iconst 1, 1) := by decide +kernel
theorem dX4_pupil_11 : decode cX4_pupil 11 = .ok (.goto 4, 3) := by decide +kernel
theorem dX4_pupil_14 : decode cX4_pupil 14 = .ok (.iconst 0, 1) := by decide +kernel
theorem dX4_pupil_15 : decode cX4_pupil 15 = .ok (.putfield 59, 3) := by decide +kernel
theorem dX4_pupil_18 : decode cX4_pupil 18 = .ok (.aload_n 0, 1) := by decide +kernel
theorem dX4_pupil_19 : decode cX4_pupil 19 = .ok (.getfield 59, 3) := by decide +kernel
theorem dX4_pupil_22 : decode cX4_pupil 22 = .ok (.ifCond .le 5, 3) := by decide +kernel
theorem dX4_pupil_25 : decode cX4_pupil 25 = .ok (.iconst 0, 1) := by decide +kernel
theorem dX4_pupil_26 : decode cX4_pupil 26 = .ok (.ireturn, 1) := by decide +kernel
theorem dX4_pupil_27 : decode cX4_pupil 27 = .ok (.aload_n 0, 1) := by decide +kernel
theorem dX4_pupil_28 : decode cX4_pupil 28 = .ok (.getfield 50, 3) := by decide +kernel
theorem dX4_pupil_31 : decode cX4_pupil 31 = .ok (.aload_n 0, 1) := by decide +kernel
theorem dX4_pupil_32 : decode cX4_pupil 32 = .ok (.getfield 63, 3) := by decide +kernel
theorem dX4_pupil_35 : decode cX4_pupil 35 = .ok (.bipush 100, 2) := by decide +kernel
theorem dX4_pupil_37 : decode cX4_pupil 37 = .ok (.iastore, 1) := by decide +kernel
theorem dX4_pupil_38 : decode cX4_pupil 38 = .ok (.aload_n 0, 1) := by decide +kernel
theorem dX4_pupil_39 : decode cX4_pupil 39 = .ok (.dup, 1) := by decide +kernel
theorem dX4_pupil_40 : decode cX4_pupil 40 = .ok (.getfield 63, 3) := by decide +kernel
theorem dX4_pupil_43 : decode cX4_pupil 43 = .ok (.iconst 1, 1) := by decide +kernel
theorem dX4_pupil_44 : decode cX4_pupil 44 = .ok (.iadd, 1) := by decide +kernel
theorem dX4_pupil_45 : decode cX4_pupil 45 = .ok (.putfield 63, 3) := by decide +kernel
theorem dX4_pupil_48 : decode cX4_pupil 48 = .ok (.aload_n 0, 1) := by decide +kernel
theorem dX4_pupil_49 : decode cX4_pupil 49 = .ok (.getfield 63, 3) := by decide +kernel
theorem dX4_pupil_52 : decode cX4_pupil 52 = .ok (.iconst 1, 1) := by decide +kernel
theorem dX4_pupil_53 : decode cX4_pupil 53 = .ok (.isub, 1) := by decide +kernel
theorem dX4_pupil_54 : decode cX4_pupil 54 = .ok (.ireturn, 1) := by decide +kernel
theorem dX4_isTaken_0 : decode cX4_isTaken 0 = .ok (.iconst 0, 1) := by decide +kernel
theorem dX4_isTaken_1 : decode cX4_isTaken 1 = .ok (.istore_n 3, 1) := by decide +kernel
theorem dX4_isTaken_2 : decode cX4_isTaken 2 = .ok (.iconst 0, 1) := by decide +kernel
theorem dX4_isTaken_3 : decode cX4_isTaken 3 = .ok (.istore 4, 2) := by decide +kernel
theorem dX4_isTaken_5 : decode cX4_isTaken 5 = .ok (.iload 4, 2) := by decide +kernel
theorem dX4_isTaken_7 : decode cX4_isTaken 7 = .ok (.aload_n 0, 1) := by decide +kernel
theorem dX4_isTaken_8 : decode cX4_isTaken 8 = .ok (.getfield 73, 3) := by decide +kernel
theorem dX4_isTaken_11 : decode cX4_isTaken 11 = .ok (.if_icmp .ge 41, 3) := by decide +kernel
theorem dX4_isTaken_14 : decode cX4_isTaken 14 = .ok (.iload_n 3, 1) := by decide +kernel
theorem dX4_isTaken_15 : decode cX4_isTaken 15 = .ok (.ifCond .ne 25, 3) := by decide +kernel
theorem dX4_isTaken_18 : decode cX4_isTaken 18 = .ok (.aload_n 0, 1) := by decide +kernel
theorem dX4_isTaken_19 : decode cX4_isTaken 19 = .ok (.getfield 19, 3) := by decide +kernel
theorem dX4_isTaken_22 : decode cX4_isTaken 22 = .ok (.iload 4, 2) := by decide +kernel
theorem dX4_isTaken_24 : decode cX4_isTaken 24 = .ok (.iaload, 1) := by decide +kernel
theorem dX4_isTaken_25 : decode cX4_isTaken 25 = .ok (.iload_n 1, 1) := by decide +kernel
theorem dX4_isTaken_26 : decode cX4_isTaken 26 = .ok (.if_icmp .ne 18, 3) := by decide +kernel
theorem dX4_isTaken_29 : decode cX4_isTaken 29 = .ok (.aload_n 0, 1) := by decide +kernel
theorem dX4_isTaken_30 : decode cX4_isTaken 30 = .ok (.getfield 16, 3) := by decide +kernel
theorem dX4_isTaken_33 : decode cX4_isTaken 33 = .ok (.iload 4, 2) := by decide +kernel
theorem dX4_isTaken_35 : decode cX4_isTaken 35 = .ok (.iaload, 1) := by decide +kernel
theorem dX4_isTaken_36 : decode cX4_isTaken 36 = .ok (.iload_n 2, 1) := by decide +kernel
theorem dX4_isTaken_37 : decode cX4_isTaken 37 = .ok (.if_icmp .ne 7, 3) := by decide +kernel
theorem dX4_isTaken_40 : decode cX4_isTaken 40 = .ok (.iconst 1, 1) := by decide +kernel
theorem dX4_isTaken_41 : decode cX4_isTaken 41 = .ok (.goto 4, 3) := by decide +kernel
theorem dX4_isTaken_44 : decode cX4_isTaken 44 = .ok (.iconst 0, 1) := by decide +kernel
theorem dX4_isTaken_45 : decode cX4_isTaken 45 = .ok (.istore_n 3, 1) := by decide +kernel
theorem dX4_isTaken_46 : decode cX4_isTaken 46 = .ok (.iinc 4 1, 3) := by decide +kernel
theorem dX4_isTaken_49 : decode cX4_isTaken 49 = .ok (.goto (-44), 3) := by decide +kernel
theorem dX4_isTaken_52 : decode cX4_isTaken 52 = .ok (.iload_n 3, 1) := by decide +kernel
theorem dX4_isTaken_53 : decode cX4_isTaken 53 = .ok (.ireturn, 1) := by decide +kernel
theorem dX4_offer_0 : decode cX4_offer 0 = .ok (.aload_n 0, 1) := by decide +kernel
theorem dX4_offer_1 : decode cX4_offer 1 = .ok (.aload_n 0, 1) := by decide +kernel
theorem dX4_offer_2 : decode cX4_offer 2 = .ok (.iload_n 1, 1) := by decide +kernel
theorem dX4_offer_3 : decode cX4_offer 3 = .ok (.invokevirtual 79, 3) := by decide +kernel
theorem dX4_offer_6 : decode cX4_offer 6 = .ok (.ifCond .eq 17, 3) := by decide +kernel
theorem dX4_offer_9 : decode cX4_offer 9 = .ok (.iload_n 3, 1) := by decide +kernel
theorem dX4_offer_10 : decode cX4_offer 10 = .ok (.iconst 0, 1) := by decide +kernel
theorem dX4_offer_11 : decode cX4_offer 11 = .ok (.aload_n 0, 1) := by decide +kernel
theorem dX4_offer_12 : decode cX4_offer 12 = .ok (.getfield 76, 3) := by decide +kernel
theorem dX4_offer_15 : decode cX4_offer 15 = .ok (.iconst 1, 1) := by decide +kernel
theorem dX4_offer_16 : decode cX4_offer 16 = .ok (.isub, 1) := by decide +kernel
theorem dX4_offer_17 : decode cX4_offer 17 = .ok (.invokestatic 66, 3) := by decide +kernel
theorem dX4_offer_20 : decode cX4_offer 20 = .ok (.ifCond .ne 7, 3) := by decide +kernel
theorem dX4_offer_23 : decode cX4_offer 23 = .ok (.iconst 1, 1) := by decide +kernel
theorem dX4_offer_24 : decode cX4_offer 24 = .ok (.goto 15, 3) := by decide +kernel
theorem dX4_offer_27 : decode cX4_offer 27 = .ok (.iload_n 2, 1) := by decide +kernel
theorem dX4_offer_28 : decode cX4_offer 28 = .ok (.invokestatic 83, 3) := by decide +kernel
theorem dX4_offer_31 : decode cX4_offer 31 = .ok (.ifCond .ne 7, 3) := by decide +kernel
theorem dX4_offer_34 : decode cX4_offer 34 = .ok (.iconst 2, 1) := by decide +kernel
theorem dX4_offer_35 : decode cX4_offer 35 = .ok (.goto 4, 3) := by decide +kernel
theorem dX4_offer_38 : decode cX4_offer 38 = .ok (.iconst 0, 1) := by decide +kernel
theorem dX4_offer_39 : decode cX4_offer 39 = .ok (.putfield 59, 3) := by decide +kernel
theorem dX4_offer_42 : decode cX4_offer 42 = .ok (.aload_n 0, 1) := by decide +kernel
theorem dX4_offer_43 : decode cX4_offer 43 = .ok (.getfield 59, 3) := by decide +kernel
theorem dX4_offer_46 : decode cX4_offer 46 = .ok (.ifCond .ne 43, 3) := by decide +kernel
theorem dX4_offer_49 : decode cX4_offer 49 = .ok (.aload_n 0, 1) := by decide +kernel
theorem dX4_offer_50 : decode cX4_offer 50 = .ok (.aload_n 0, 1) := by decide +kernel
theorem dX4_offer_51 : decode cX4_offer 51 = .ok (.iload_n 3, 1) := by decide +kernel
theorem dX4_offer_52 : decode cX4_offer 52 = .ok (.iload_n 2, 1) := by decide +kernel
theorem dX4_offer_53 : decode cX4_offer 53 = .ok (.invokevirtual 86, 3) := by decide +kernel
theorem dX4_offer_56 : decode cX4_offer 56 = .ok (.ifCond .ne 12, 3) := by decide +kernel
theorem dX4_offer_59 : decode cX4_offer 59 = .ok (.aload_n 0, 1) := by decide +kernel
theorem dX4_offer_60 : decode cX4_offer 60 = .ok (.getfield 53, 3) := by decide +kernel
theorem dX4_offer_63 : decode cX4_offer 63 = .ok (.iload_n 2, 1) := by decide +kernel
theorem dX4_offer_64 : decode cX4_offer 64 = .ok (.baload, 1) := by decide +kernel
theorem dX4_offer_65 : decode cX4_offer 65 = .ok (.ifCond .eq 7, 3) := by decide +kernel
theorem dX4_offer_68 : decode cX4_offer 68 = .ok (.iconst 3, 1) := by decide +kernel
theorem dX4_offer_69 : decode cX4_offer 69 = .ok (.goto 17, 3) := by decide +kernel
theorem dX4_offer_72 : decode cX4_offer 72 = .ok (.aload_n 0, 1) := by decide +kernel
theorem dX4_offer_73 : decode cX4_offer 73 = .ok (.getfield 73, 3) := by decide +kernel
theorem dX4_offer_76 : decode cX4_offer 76 = .ok (.bipush 12, 2) := by decide +kernel
theorem dX4_offer_78 : decode cX4_offer 78 = .ok (.if_icmp .ne 7, 3) := by decide +kernel
theorem dX4_offer_81 : decode cX4_offer 81 = .ok (.iconst 4, 1) := by decide +kernel
theorem dX4_offer_82 : decode cX4_offer 82 = .ok (.goto 4, 3) := by decide +kernel
theorem dX4_offer_85 : decode cX4_offer 85 = .ok (.iconst 0, 1) := by decide +kernel
theorem dX4_offer_86 : decode cX4_offer 86 = .ok (.putfield 59, 3) := by decide +kernel
theorem dX4_offer_89 : decode cX4_offer 89 = .ok (.aload_n 0, 1) := by decide +kernel
theorem dX4_offer_90 : decode cX4_offer 90 = .ok (.getfield 59, 3) := by decide +kernel
theorem dX4_offer_93 : decode cX4_offer 93 = .ok (.ifCond .le 5, 3) := by decide +kernel
theorem dX4_offer_96 : decode cX4_offer 96 = .ok (.iconst 0, 1) := by decide +kernel
theorem dX4_offer_97 : decode cX4_offer 97 = .ok (.ireturn, 1) := by decide +kernel
theorem dX4_offer_98 : decode cX4_offer 98 = .ok (.aload_n 0, 1) := by decide +kernel
theorem dX4_offer_99 : decode cX4_offer 99 = .ok (.getfield 13, 3) := by decide +kernel
theorem dX4_offer_102 : decode cX4_offer 102 = .ok (.aload_n 0, 1) := by decide +kernel
theorem dX4_offer_103 : decode cX4_offer 103 = .ok (.getfield 73, 3) := by decide +kernel
theorem dX4_offer_106 : decode cX4_offer 106 = .ok (.iload_n 1, 1) := by decide +kernel
theorem dX4_offer_107 : decode cX4_offer 107 = .ok (.iastore, 1) := by decide +kernel
theorem dX4_offer_108 : decode cX4_offer 108 = .ok (.aload_n 0, 1) := by decide +kernel
theorem dX4_offer_109 : decode cX4_offer 109 = .ok (.getfield 16, 3) := by decide +kernel
theorem dX4_offer_112 : decode cX4_offer 112 = .ok (.aload_n 0, 1) := by decide +kernel
theorem dX4_offer_113 : decode cX4_offer 113 = .ok (.getfield 73, 3) := by decide +kernel
theorem dX4_offer_116 : decode cX4_offer 116 = .ok (.iload_n 2, 1) := by decide +kernel
theorem dX4_offer_117 : decode cX4_offer 117 = .ok (.iastore, 1) := by decide +kernel
theorem dX4_offer_118 : decode cX4_offer 118 = .ok (.aload_n 0, 1) := by decide +kernel
theorem dX4_offer_119 : decode cX4_offer 119 = .ok (.getfield 19, 3) := by decide +kernel
theorem dX4_offer_122 : decode cX4_offer 122 = .ok (.aload_n 0, 1) := by decide +kernel
theorem dX4_offer_123 : decode cX4_offer 123 = .ok (.getfield 73, 3) := by decide +kernel
theorem dX4_offer_126 : decode cX4_offer 126 = .ok (.iload_n 3, 1) := by decide +kernel
theorem dX4_offer_127 : decode cX4_offer 127 = .ok (.iastore, 1) := by decide +kernel
theorem dX4_offer_128 : decode cX4_offer 128 = .ok (.aload_n 0, 1) := by decide +kernel
theorem dX4_offer_129 : decode cX4_offer 129 = .ok (.getfield 22, 3) := by decide +kernel
theorem dX4_offer_132 : decode cX4_offer 132 = .ok (.aload_n 0, 1) := by decide +kernel
theorem dX4_offer_133 : decode cX4_offer 133 = .ok (.getfield 73, 3) := by decide +kernel
theorem dX4_offer_136 : decode cX4_offer 136 = .ok (.iload 4, 2) := by decide +kernel
theorem dX4_offer_138 : decode cX4_offer 138 = .ok (.bastore, 1) := by decide +kernel
theorem dX4_offer_139 : decode cX4_offer 139 = .ok (.aload_n 0, 1) := by decide +kernel
theorem dX4_offer_140 : decode cX4_offer 140 = .ok (.dup, 1) := by decide +kernel
theorem dX4_offer_141 : decode cX4_offer 141 = .ok (.getfield 73, 3) := by decide +kernel
theorem dX4_offer_144 : decode cX4_offer 144 = .ok (.iconst 1, 1) := by decide +kernel
theorem dX4_offer_145 : decode cX4_offer 145 = .ok (.iadd, 1) := by decide +kernel
theorem dX4_offer_146 : decode cX4_offer 146 = .ok (.putfield 73, 3) := by decide +kernel
theorem dX4_offer_149 : decode cX4_offer 149 = .ok (.aload_n 0, 1) := by decide +kernel
theorem dX4_offer_150 : decode cX4_offer 150 = .ok (.getfield 73, 3) := by decide +kernel
theorem dX4_offer_153 : decode cX4_offer 153 = .ok (.iconst 1, 1) := by decide +kernel
theorem dX4_offer_154 : decode cX4_offer 154 = .ok (.isub, 1) := by decide +kernel
theorem dX4_offer_155 : decode cX4_offer 155 = .ok (.ireturn, 1) := by decide +kernel
theorem dX4_bid_0 : decode cX4_bid 0 = .ok (.aload_n 0, 1) := by decide +kernel
theorem dX4_bid_1 : decode cX4_bid 1 = .ok (.aload_n 0, 1) := by decide +kernel
theorem dX4_bid_2 : decode cX4_bid 2 = .ok (.iload_n 1, 1) := by decide +kernel
theorem dX4_bid_3 : decode cX4_bid 3 = .ok (.invokevirtual 90, 3) := by decide +kernel
theorem dX4_bid_6 : decode cX4_bid 6 = .ok (.ifCond .eq 11, 3) := by decide +kernel
theorem dX4_bid_9 : decode cX4_bid 9 = .ok (.aload_n 0, 1) := by decide +kernel
theorem dX4_bid_10 : decode cX4_bid 10 = .ok (.iload_n 2, 1) := by decide +kernel
theorem dX4_bid_11 : decode cX4_bid 11 = .ok (.invokevirtual 93, 3) := by decide +kernel
theorem dX4_bid_14 : decode cX4_bid 14 = .ok (.ifCond .ne 7, 3) := by decide +kernel
theorem dX4_bid_17 : decode cX4_bid 17 = .ok (.iconst 1, 1) := by decide +kernel
theorem dX4_bid_18 : decode cX4_bid 18 = .ok (.goto 18, 3) := by decide +kernel
theorem dX4_bid_21 : decode cX4_bid 21 = .ok (.iload_n 3, 1) := by decide +kernel
theorem dX4_bid_22 : decode cX4_bid 22 = .ok (.iconst 1, 1) := by decide +kernel
theorem dX4_bid_23 : decode cX4_bid 23 = .ok (.bipush 100, 2) := by decide +kernel
theorem dX4_bid_25 : decode cX4_bid 25 = .ok (.invokestatic 66, 3) := by decide +kernel
theorem dX4_bid_28 : decode cX4_bid 28 = .ok (.ifCond .ne 7, 3) := by decide +kernel
theorem dX4_bid_31 : decode cX4_bid 31 = .ok (.iconst 2, 1) := by decide +kernel
theorem dX4_bid_32 : decode cX4_bid 32 = .ok (.goto 4, 3) := by decide +kernel
theorem dX4_bid_35 : decode cX4_bid 35 = .ok (.iconst 0, 1) := by decide +kernel
theorem dX4_bid_36 : decode cX4_bid 36 = .ok (.putfield 59, 3) := by decide +kernel
theorem dX4_bid_39 : decode cX4_bid 39 = .ok (.iload_n 3, 1) := by decide +kernel
theorem dX4_bid_40 : decode cX4_bid 40 = .ok (.istore 4, 2) := by decide +kernel
theorem dX4_bid_42 : decode cX4_bid 42 = .ok (.iconst 0, 1) := by decide +kernel
theorem dX4_bid_43 : decode cX4_bid 43 = .ok (.istore 5, 2) := by decide +kernel
theorem dX4_bid_45 : decode cX4_bid 45 = .ok (.iload 5, 2) := by decide +kernel
theorem dX4_bid_47 : decode cX4_bid 47 = .ok (.aload_n 0, 1) := by decide +kernel
theorem dX4_bid_48 : decode cX4_bid 48 = .ok (.getfield 73, 3) := by decide +kernel
theorem dX4_bid_51 : decode cX4_bid 51 = .ok (.if_icmp .ge 42, 3) := by decide +kernel
theorem dX4_bid_54 : decode cX4_bid 54 = .ok (.aload_n 0, 1) := by decide +kernel
theorem dX4_bid_55 : decode cX4_bid 55 = .ok (.getfield 59, 3) := by decide +kernel
theorem dX4_bid_58 : decode cX4_bid 58 = .ok (.ifCond .ne 35, 3) := by decide +kernel
theorem dX4_bid_61 : decode cX4_bid 61 = .ok (.iload 4, 2) := by decide +kernel
theorem dX4_bid_63 : decode cX4_bid 63 = .ok (.iload 5, 2) := by decide +kernel
theorem dX4_bid_65 : decode cX4_bid 65 = .ok (.iload_n 2, 1) := by decide +kernel
theorem dX4_bid_66 : decode cX4_bid 66 = .ok (.if_icmp .ne 7, 3) := by decide +kernel
theorem dX4_bid_69 : decode cX4_bid 69 = .ok (.iconst 0, 1) := by decide +kernel
theorem dX4_bid_70 : decode cX4_bid 70 = .ok (.goto 14, 3) := by decide +kernel
theorem dX4_bid_73 : decode cX4_bid 73 = .ok (.aload_n 0, 1) := by decide +kernel
theorem dX4_bid_74 : decode cX4_bid 74 = .ok (.getfield 35, 3) := by decide +kernel
theorem dX4_bid_77 : decode cX4_bid 77 = .ok (.iload_n 1, 1) := by decide +kernel
theorem dX4_bid_78 : decode cX4_bid 78 = .ok (.iload 5, 2) := by decide +kernel
theorem dX4_bid_80 : decode cX4_bid 80 = .ok (.invokestatic 96, 3) := by decide +kernel
theorem dX4_bid_83 : decode cX4_bid 83 = .ok (.iaload, 1) := by decide +kernel
theorem dX4_bid_84 : decode cX4_bid 84 = .ok (.iadd, 1) := by decide +kernel
theorem dX4_bid_85 : decode cX4_bid 85 = .ok (.istore 4, 2) := by decide +kernel
theorem dX4_bid_87 : decode cX4_bid 87 = .ok (.iinc 5 1, 3) := by decide +kernel
theorem dX4_bid_90 : decode cX4_bid 90 = .ok (.goto (-45), 3) := by decide +kernel
theorem dX4_bid_93 : decode cX4_bid 93 = .ok (.aload_n 0, 1) := by decide +kernel
theorem dX4_bid_94 : decode cX4_bid 94 = .ok (.getfield 59, 3) := by decide +kernel
theorem dX4_bid_97 : decode cX4_bid 97 = .ok (.ifCond .ne 37, 3) := by decide +kernel
theorem dX4_bid_100 : decode cX4_bid 100 = .ok (.aload_n 0, 1) := by decide +kernel
theorem dX4_bid_101 : decode cX4_bid 101 = .ok (.aload_n 0, 1) := by decide +kernel
theorem dX4_bid_102 : decode cX4_bid 102 = .ok (.getfield 53, 3) := by decide +kernel
theorem dX4_bid_105 : decode cX4_bid 105 = .ok (.aload_n 0, 1) := by decide +kernel
theorem dX4_bid_106 : decode cX4_bid 106 = .ok (.getfield 16, 3) := by decide +kernel
theorem dX4_bid_109 : decode cX4_bid 109 = .ok (.iload_n 2, 1) := by decide +kernel
theorem dX4_bid_110 : decode cX4_bid 110 = .ok (.iaload, 1) := by decide +kernel
theorem dX4_bid_111 : decode cX4_bid 111 = .ok (.baload, 1) := by decide +kernel
theorem dX4_bid_112 : decode cX4_bid 112 = .ok (.ifCond .ne 14, 3) := by decide +kernel
theorem dX4_bid_115 : decode cX4_bid 115 = .ok (.iload 4, 2) := by decide +kernel
theorem dX4_bid_117 : decode cX4_bid 117 = .ok (.aload_n 0, 1) := by decide +kernel
theorem dX4_bid_118 : decode cX4_bid 118 = .ok (.getfield 50, 3) := by decide +kernel
theorem dX4_bid_121 : decode cX4_bid 121 = .ok (.iload_n 1, 1) := by decide +kernel
theorem dX4_bid_122 : decode cX4_bid 122 = .ok (.iaload, 1) := by decide +kernel
theorem dX4_bid_123 : decode cX4_bid 123 = .ok (.if_icmp .le 7, 3) := by decide +kernel
theorem dX4_bid_126 : decode cX4_bid 126 = .ok (.iconst 3, 1) := by decide +kernel
theorem dX4_bid_127 : decode cX4_bid 127 = .ok (.goto 4, 3) := by decide +kernel
theorem dX4_bid_130 : decode cX4_bid 130 = .ok (.iconst 0, 1) := by decide +kernel
theorem dX4_bid_131 : decode cX4_bid 131 = .ok (.putfield 59, 3) := by decide +kernel
theorem dX4_bid_134 : decode cX4_bid 134 = .ok (.aload_n 0, 1) := by decide +kernel
theorem dX4_bid_135 : decode cX4_bid 135 = .ok (.getfield 59, 3) := by decide +kernel
theorem dX4_bid_138 : decode cX4_bid 138 = .ok (.ifCond .le 5, 3) := by decide +kernel
theorem dX4_bid_141 : decode cX4_bid 141 = .ok (.iconst 0, 1) := by decide +kernel
theorem dX4_bid_142 : decode cX4_bid 142 = .ok (.ireturn, 1) := by decide +kernel
theorem dX4_bid_143 : decode cX4_bid 143 = .ok (.aload_n 0, 1) := by decide +kernel
theorem dX4_bid_144 : decode cX4_bid 144 = .ok (.getfield 35, 3) := by decide +kernel
theorem dX4_bid_147 : decode cX4_bid 147 = .ok (.iload_n 1, 1) := by decide +kernel
theorem dX4_bid_148 : decode cX4_bid 148 = .ok (.iload_n 2, 1) := by decide +kernel
theorem dX4_bid_149 : decode cX4_bid 149 = .ok (.invokestatic 96, 3) := by decide +kernel
theorem dX4_bid_152 : decode cX4_bid 152 = .ok (.iload_n 3, 1) := by decide +kernel
theorem dX4_bid_153 : decode cX4_bid 153 = .ok (.iastore, 1) := by decide +kernel
theorem dX4_bid_154 : decode cX4_bid 154 = .ok (.aload_n 0, 1) := by decide +kernel
theorem dX4_bid_155 : decode cX4_bid 155 = .ok (.getfield 38, 3) := by decide +kernel
theorem dX4_bid_158 : decode cX4_bid 158 = .ok (.iload_n 1, 1) := by decide +kernel
theorem dX4_bid_159 : decode cX4_bid 159 = .ok (.iload_n 2, 1) := by decide +kernel
theorem dX4_bid_160 : decode cX4_bid 160 = .ok (.invokestatic 96, 3) := by decide +kernel
theorem dX4_bid_163 : decode cX4_bid 163 = .ok (.aload_n 0, 1) := by decide +kernel
theorem dX4_bid_164 : decode cX4_bid 164 = .ok (.getfield 100, 3) := by decide +kernel
theorem dX4_bid_167 : decode cX4_bid 167 = .ok (.iastore, 1) := by decide +kernel
theorem dX4_bid_168 : decode cX4_bid 168 = .ok (.aload_n 0, 1) := by decide +kernel
theorem dX4_bid_169 : decode cX4_bid 169 = .ok (.dup, 1) := by decide +kernel
theorem dX4_bid_170 : decode cX4_bid 170 = .ok (.getfield 100, 3) := by decide +kernel
theorem dX4_bid_173 : decode cX4_bid 173 = .ok (.iconst 1, 1) := by decide +kernel
theorem dX4_bid_174 : decode cX4_bid 174 = .ok (.iadd, 1) := by decide +kernel
theorem dX4_bid_175 : decode cX4_bid 175 = .ok (.putfield 100, 3) := by decide +kernel
theorem dX4_bid_178 : decode cX4_bid 178 = .ok (.iload 4, 2) := by decide +kernel
theorem dX4_bid_180 : decode cX4_bid 180 = .ok (.ireturn, 1) := by decide +kernel
theorem dX4_unbid_0 : decode cX4_unbid 0 = .ok (.aload_n 0, 1) := by decide +kernel
theorem dX4_unbid_1 : decode cX4_unbid 1 = .ok (.aload_n 0, 1) := by decide +kernel
theorem dX4_unbid_2 : decode cX4_unbid 2 = .ok (.iload_n 1, 1) := by decide +kernel
theorem dX4_unbid_3 : decode cX4_unbid 3 = .ok (.invokevirtual 90, 3) := by decide +kernel
theorem dX4_unbid_6 : decode cX4_unbid 6 = .ok (.ifCond .eq 11, 3) := by decide +kernel
theorem dX4_unbid_9 : decode cX4_unbid 9 = .ok (.aload_n 0, 1) := by decide +kernel
theorem dX4_unbid_10 : decode cX4_unbid 10 = .ok (.iload_n 2, 1) := by decide +kernel
theorem dX4_unbid_11 : decode cX4_unbid 11 = .ok (.invokevirtual 93, 3) := by decide +kernel
theorem dX4_unbid_14 : decode cX4_unbid 14 = .ok (.ifCond .ne 7, 3) := by decide +kernel
theorem dX4_unbid_17 : decode cX4_unbid 17 = .ok (.iconst 1, 1) := by decide +kernel
theorem dX4_unbid_18 : decode cX4_unbid 18 = .ok (.goto 21, 3) := by decide +kernel
theorem dX4_unbid_21 : decode cX4_unbid 21 = .ok (.aload_n 0, 1) := by decide +kernel
theorem dX4_unbid_22 : decode cX4_unbid 22 = .ok (.getfield 35, 3) := by decide +kernel
theorem dX4_unbid_25 : decode cX4_unbid 25 = .ok (.iload_n 1, 1) := by decide +kernel
theorem dX4_unbid_26 : decode cX4_unbid 26 = .ok (.iload_n 2, 1) := by decide +kernel
theorem dX4_unbid_27 : decode cX4_unbid 27 = .ok (.invokestatic 96, 3) := by decide +kernel
theorem dX4_unbid_30 : decode cX4_unbid 30 = .ok (.iaload, 1) := by decide +kernel
theorem dX4_unbid_31 : decode cX4_unbid 31 = .ok (.ifCond .ne 7, 3) := by decide +kernel
theorem dX4_unbid_34 : decode cX4_unbid 34 = .ok (.iconst 2, 1) := by decide +kernel
theorem dX4_unbid_35 : decode cX4_unbid 35 = .ok (.goto 4, 3) := by decide +kernel
theorem dX4_unbid_38 : decode cX4_unbid 38 = .ok (.iconst 0, 1) := by decide +kernel
theorem dX4_unbid_39 : decode cX4_unbid 39 = .ok (.putfield 59, 3) := by decide +kernel
theorem dX4_unbid_42 : decode cX4_unbid 42 = .ok (.aload_n 0, 1) := by decide +kernel
theorem dX4_unbid_43 : decode cX4_unbid 43 = .ok (.getfield 59, 3) := by decide +kernel
theorem dX4_unbid_46 : decode cX4_unbid 46 = .ok (.ifCond .le 5, 3) := by decide +kernel
theorem dX4_unbid_49 : decode cX4_unbid 49 = .ok (.iconst 0, 1) := by decide +kernel
theorem dX4_unbid_50 : decode cX4_unbid 50 = .ok (.ireturn, 1) := by decide +kernel
theorem dX4_unbid_51 : decode cX4_unbid 51 = .ok (.aload_n 0, 1) := by decide +kernel
theorem dX4_unbid_52 : decode cX4_unbid 52 = .ok (.getfield 35, 3) := by decide +kernel
theorem dX4_unbid_55 : decode cX4_unbid 55 = .ok (.iload_n 1, 1) := by decide +kernel
theorem dX4_unbid_56 : decode cX4_unbid 56 = .ok (.iload_n 2, 1) := by decide +kernel
theorem dX4_unbid_57 : decode cX4_unbid 57 = .ok (.invokestatic 96, 3) := by decide +kernel
theorem dX4_unbid_60 : decode cX4_unbid 60 = .ok (.iaload, 1) := by decide +kernel
theorem dX4_unbid_61 : decode cX4_unbid 61 = .ok (.istore_n 3, 1) := by decide +kernel
theorem dX4_unbid_62 : decode cX4_unbid 62 = .ok (.aload_n 0, 1) := by decide +kernel
theorem dX4_unbid_63 : decode cX4_unbid 63 = .ok (.getfield 35, 3) := by decide +kernel
theorem dX4_unbid_66 : decode cX4_unbid 66 = .ok (.iload_n 1, 1) := by decide +kernel
theorem dX4_unbid_67 : decode cX4_unbid 67 = .ok (.iload_n 2, 1) := by decide +kernel
theorem dX4_unbid_68 : decode cX4_unbid 68 = .ok (.invokestatic 96, 3) := by decide +kernel
theorem dX4_unbid_71 : decode cX4_unbid 71 = .ok (.iconst 0, 1) := by decide +kernel
theorem dX4_unbid_72 : decode cX4_unbid 72 = .ok (.iastore, 1) := by decide +kernel
theorem dX4_unbid_73 : decode cX4_unbid 73 = .ok (.iload_n 3, 1) := by decide +kernel
theorem dX4_unbid_74 : decode cX4_unbid 74 = .ok (.ireturn, 1) := by decide +kernel
theorem dX4_bids_0 : decode cX4_bids 0 = .ok (.aload_n 0, 1) := by decide +kernel
theorem dX4_bids_1 : decode cX4_bids 1 = .ok (.iconst 0, 1) := by decide +kernel
theorem dX4_bids_2 : decode cX4_bids 2 = .ok (.putfield 59, 3) := by decide +kernel
theorem dX4_bids_5 : decode cX4_bids 5 = .ok (.iconst 0, 1) := by decide +kernel
theorem dX4_bids_6 : decode cX4_bids 6 = .ok (.istore_n 1, 1) := by decide +kernel
theorem dX4_bids_7 : decode cX4_bids 7 = .ok (.iconst 0, 1) := by decide +kernel
theorem dX4_bids_8 : decode cX4_bids 8 = .ok (.istore_n 2, 1) := by decide +kernel
theorem dX4_bids_9 : decode cX4_bids 9 = .ok (.iload_n 2, 1) := by decide +kernel
theorem dX4_bids_10 : decode cX4_bids 10 = .ok (.bipush 120, 2) := by decide +kernel
theorem dX4_bids_12 : decode cX4_bids 12 = .ok (.if_icmp .ge 26, 3) := by decide +kernel
theorem dX4_bids_15 : decode cX4_bids 15 = .ok (.iload_n 1, 1) := by decide +kernel
theorem dX4_bids_16 : decode cX4_bids 16 = .ok (.aload_n 0, 1) := by decide +kernel
theorem dX4_bids_17 : decode cX4_bids 17 = .ok (.getfield 35, 3) := by decide +kernel
theorem dX4_bids_20 : decode cX4_bids 20 = .ok (.iload_n 2, 1) := by decide +kernel
theorem dX4_bids_21 : decode cX4_bids 21 = .ok (.iaload, 1) := by decide +kernel
theorem dX4_bids_22 : decode cX4_bids 22 = .ok (.ifCond .le 7, 3) := by decide +kernel
theorem dX4_bids_25 : decode cX4_bids 25 = .ok (.iconst 1, 1) := by decide +kernel
theorem dX4_bids_26 : decode cX4_bids 26 = .ok (.goto 4, 3) := by decide +kernel
theorem dX4_bids_29 : decode cX4_bids 29 = .ok (.iconst 0, 1) := by decide +kernel
theorem dX4_bids_30 : decode cX4_bids 30 = .ok (.iadd, 1) := by decide +kernel
theorem dX4_bids_31 : decode cX4_bids 31 = .ok (.istore_n 1, 1) := by decide +kernel
theorem dX4_bids_32 : decode cX4_bids 32 = .ok (.iinc 2 1, 3) := by decide +kernel
theorem dX4_bids_35 : decode cX4_bids 35 = .ok (.goto (-26), 3) := by decide +kernel
theorem dX4_bids_38 : decode cX4_bids 38 = .ok (.iload_n 1, 1) := by decide +kernel
theorem dX4_bids_39 : decode cX4_bids 39 = .ok (.ireturn, 1) := by decide +kernel
theorem dX4_agree_0 : decode cX4_agree 0 = .ok (.aload_n 0, 1) := by decide +kernel
theorem dX4_agree_1 : decode cX4_agree 1 = .ok (.getfield 44, 3) := by decide +kernel
theorem dX4_agree_4 : decode cX4_agree 4 = .ok (.iconst 0, 1) := by decide +kernel
theorem dX4_agree_5 : decode cX4_agree 5 = .ok (.iload_n 1, 1) := by decide +kernel
theorem dX4_agree_6 : decode cX4_agree 6 = .ok (.iload_n 2, 1) := by decide +kernel
theorem dX4_agree_7 : decode cX4_agree 7 = .ok (.iload_n 3, 1) := by decide +kernel
theorem dX4_agree_8 : decode cX4_agree 8 = .ok (.invokestatic 103, 3) := by decide +kernel
theorem dX4_agree_11 : decode cX4_agree 11 = .ok (.iaload, 1) := by decide +kernel
theorem dX4_agree_12 : decode cX4_agree 12 = .ok (.istore 4, 2) := by decide +kernel
theorem dX4_agree_14 : decode cX4_agree 14 = .ok (.iload 4, 2) := by decide +kernel
theorem dX4_agree_16 : decode cX4_agree 16 = .ok (.aload_n 0, 1) := by decide +kernel
theorem dX4_agree_17 : decode cX4_agree 17 = .ok (.getfield 44, 3) := by decide +kernel
theorem dX4_agree_20 : decode cX4_agree 20 = .ok (.iconst 1, 1) := by decide +kernel
theorem dX4_agree_21 : decode cX4_agree 21 = .ok (.iload_n 1, 1) := by decide +kernel
theorem dX4_agree_22 : decode cX4_agree 22 = .ok (.iload_n 2, 1) := by decide +kernel
theorem dX4_agree_23 : decode cX4_agree 23 = .ok (.iload_n 3, 1) := by decide +kernel
theorem dX4_agree_24 : decode cX4_agree 24 = .ok (.invokestatic 103, 3) := by decide +kernel
theorem dX4_agree_27 : decode cX4_agree 27 = .ok (.iaload, 1) := by decide +kernel
theorem dX4_agree_28 : decode cX4_agree 28 = .ok (.if_icmp .ne 24, 3) := by decide +kernel
theorem dX4_agree_31 : decode cX4_agree 31 = .ok (.iload 4, 2) := by decide +kernel
theorem dX4_agree_33 : decode cX4_agree 33 = .ok (.aload_n 0, 1) := by decide +kernel
theorem dX4_agree_34 : decode cX4_agree 34 = .ok (.getfield 44, 3) := by decide +kernel
theorem dX4_agree_37 : decode cX4_agree 37 = .ok (.iconst 2, 1) := by decide +kernel
theorem dX4_agree_38 : decode cX4_agree 38 = .ok (.iload_n 1, 1) := by decide +kernel
theorem dX4_agree_39 : decode cX4_agree 39 = .ok (.iload_n 2, 1) := by decide +kernel
theorem dX4_agree_40 : decode cX4_agree 40 = .ok (.iload_n 3, 1) := by decide +kernel
theorem dX4_agree_41 : decode cX4_agree 41 = .ok (.invokestatic 103, 3) := by decide +kernel
theorem dX4_agree_44 : decode cX4_agree 44 = .ok (.iaload, 1) := by decide +kernel
theorem dX4_agree_45 : decode cX4_agree 45 = .ok (.if_icmp .ne 7, 3) := by decide +kernel
theorem dX4_agree_48 : decode cX4_agree 48 = .ok (.iconst 1, 1) := by decide +kernel
theorem dX4_agree_49 : decode cX4_agree 49 = .ok (.goto 4, 3) := by decide +kernel
theorem dX4_agree_52 : decode cX4_agree 52 = .ok (.iconst 0, 1) := by decide +kernel
theorem dX4_agree_53 : decode cX4_agree 53 = .ok (.ireturn, 1) := by decide +kernel
theorem dX4_sits_0 : decode cX4_sits 0 = .ok (.aload_n 0, 1) := by decide +kernel
theorem dX4_sits_1 : decode cX4_sits 1 = .ok (.iload_n 1, 1) := by decide +kernel
theorem dX4_sits_2 : decode cX4_sits 2 = .ok (.iload_n 2, 1) := by decide +kernel
theorem dX4_sits_3 : decode cX4_sits 3 = .ok (.iconst 0, 1) := by decide +kernel
theorem dX4_sits_4 : decode cX4_sits 4 = .ok (.invokevirtual 107, 3) := by decide +kernel
theorem dX4_sits_7 : decode cX4_sits 7 = .ok (.ifCond .eq 23, 3) := by decide +kernel
theorem dX4_sits_10 : decode cX4_sits 10 = .ok (.aload_n 0, 1) := by decide +kernel
theorem dX4_sits_11 : decode cX4_sits 11 = .ok (.getfield 44, 3) := by decide +kernel
theorem dX4_sits_14 : decode cX4_sits 14 = .ok (.iconst 0, 1) := by decide +kernel
theorem dX4_sits_15 : decode cX4_sits 15 = .ok (.iload_n 1, 1) := by decide +kernel
theorem dX4_sits_16 : decode cX4_sits 16 = .ok (.iload_n 2, 1) := by decide +kernel
theorem dX4_sits_17 : decode cX4_sits 17 = .ok (.iconst 0, 1) := by decide +kernel
theorem dX4_sits_18 : decode cX4_sits 18 = .ok (.invokestatic 103, 3) := by decide +kernel
theorem dX4_sits_21 : decode cX4_sits 21 = .ok (.iaload, 1) := by decide +kernel
theorem dX4_sits_22 : decode cX4_sits 22 = .ok (.iconst 1, 1) := by decide +kernel
theorem dX4_sits_23 : decode cX4_sits 23 = .ok (.if_icmp .ne 7, 3) := by decide +kernel
theorem dX4_sits_26 : decode cX4_sits 26 = .ok (.iconst 1, 1) := by decide +kernel
theorem dX4_sits_27 : decode cX4_sits 27 = .ok (.goto 4, 3) := by decide +kernel
theorem dX4_sits_30 : decode cX4_sits 30 = .ok (.iconst 0, 1) := by decide +kernel
theorem dX4_sits_31 : decode cX4_sits 31 = .ok (.ireturn, 1) := by decide +kernel
theorem dX4_opens_0 : decode cX4_opens 0 = .ok (.aload_n 0, 1) := by decide +kernel
theorem dX4_opens_1 : decode cX4_opens 1 = .ok (.iload_n 1, 1) := by decide +kernel
theorem dX4_opens_2 : decode cX4_opens 2 = .ok (.iload_n 2, 1) := by decide +kernel
theorem dX4_opens_3 : decode cX4_opens 3 = .ok (.iconst 1, 1) := by decide +kernel
theorem dX4_opens_4 : decode cX4_opens 4 = .ok (.invokevirtual 107, 3) := by decide +kernel
theorem dX4_opens_7 : decode cX4_opens 7 = .ok (.ifCond .eq 28, 3) := by decide +kernel
theorem dX4_opens_10 : decode cX4_opens 10 = .ok (.aload_n 0, 1) := by decide +kernel
theorem dX4_opens_11 : decode cX4_opens 11 = .ok (.getfield 44, 3) := by decide +kernel
theorem dX4_opens_14 : decode cX4_opens 14 = .ok (.iconst 0, 1) := by decide +kernel
theorem dX4_opens_15 : decode cX4_opens 15 = .ok (.iload_n 1, 1) := by decide +kernel
theorem dX4_opens_16 : decode cX4_opens 16 = .ok (.iload_n 2, 1) := by decide +kernel
theorem dX4_opens_17 : decode cX4_opens 17 = .ok (.iconst 1, 1) := by decide +kernel
theorem dX4_opens_18 : decode cX4_opens 18 = .ok (.invokestatic 103, 3) := by decide +kernel
theorem dX4_opens_21 : decode cX4_opens 21 = .ok (.iaload, 1) := by decide +kernel
theorem dX4_opens_22 : decode cX4_opens 22 = .ok (.iconst 0, 1) := by decide +kernel
theorem dX4_opens_23 : decode cX4_opens 23 = .ok (.bipush 49, 2) := by decide +kernel
theorem dX4_opens_25 : decode cX4_opens 25 = .ok (.invokestatic 66, 3) := by decide +kernel
theorem dX4_opens_28 : decode cX4_opens 28 = .ok (.ifCond .eq 7, 3) := by decide +kernel
theorem dX4_opens_31 : decode cX4_opens 31 = .ok (.iconst 1, 1) := by decide +kernel
theorem dX4_opens_32 : decode cX4_opens 32 = .ok (.goto 4, 3) := by decide +kernel
theorem dX4_opens_35 : decode cX4_opens 35 = .ok (.iconst 0, 1) := by decide +kernel
theorem dX4_opens_36 : decode cX4_opens 36 = .ok (.ireturn, 1) := by decide +kernel
theorem dX4_can_0 : decode cX4_can 0 = .ok (.aload_n 0, 1) := by decide +kernel
theorem dX4_can_1 : decode cX4_can 1 = .ok (.getfield 22, 3) := by decide +kernel
theorem dX4_can_4 : decode cX4_can 4 = .ok (.iload_n 2, 1) := by decide +kernel
theorem dX4_can_5 : decode cX4_can 5 = .ok (.baload, 1) := by decide +kernel
theorem dX4_can_6 : decode cX4_can 6 = .ok (.ifCond .eq 17, 3) := by decide +kernel
theorem dX4_can_9 : decode cX4_can 9 = .ok (.aload_n 0, 1) := by decide +kernel
theorem dX4_can_10 : decode cX4_can 10 = .ok (.iload_n 1, 1) := by decide +kernel
theorem dX4_can_11 : decode cX4_can 11 = .ok (.aload_n 0, 1) := by decide +kernel
theorem dX4_can_12 : decode cX4_can 12 = .ok (.getfield 13, 3) := by decide +kernel
theorem dX4_can_15 : decode cX4_can 15 = .ok (.iload_n 2, 1) := by decide +kernel
theorem dX4_can_16 : decode cX4_can 16 = .ok (.iaload, 1) := by decide +kernel
theorem dX4_can_17 : decode cX4_can 17 = .ok (.invokevirtual 110, 3) := by decide +kernel
theorem dX4_can_20 : decode cX4_can 20 = .ok (.goto 34, 3) := by decide +kernel
theorem dX4_can_23 : decode cX4_can 23 = .ok (.aload_n 0, 1) := by decide +kernel
theorem dX4_can_24 : decode cX4_can 24 = .ok (.getfield 44, 3) := by decide +kernel
theorem dX4_can_27 : decode cX4_can 27 = .ok (.aload_n 0, 1) := by decide +kernel
theorem dX4_can_28 : decode cX4_can 28 = .ok (.getfield 47, 3) := by decide +kernel
theorem dX4_can_31 : decode cX4_can 31 = .ok (.iconst 1, 1) := by decide +kernel
theorem dX4_can_32 : decode cX4_can 32 = .ok (.iaload, 1) := by decide +kernel
theorem dX4_can_33 : decode cX4_can 33 = .ok (.iload_n 1, 1) := by decide +kernel
theorem dX4_can_34 : decode cX4_can 34 = .ok (.aload_n 0, 1) := by decide +kernel
theorem dX4_can_35 : decode cX4_can 35 = .ok (.getfield 13, 3) := by decide +kernel
theorem dX4_can_38 : decode cX4_can 38 = .ok (.iload_n 2, 1) := by decide +kernel
theorem dX4_can_39 : decode cX4_can 39 = .ok (.iaload, 1) := by decide +kernel
theorem dX4_can_40 : decode cX4_can 40 = .ok (.iconst 1, 1) := by decide +kernel
theorem dX4_can_41 : decode cX4_can 41 = .ok (.invokestatic 103, 3) := by decide +kernel
theorem dX4_can_44 : decode cX4_can 44 = .ok (.iaload, 1) := by decide +kernel
theorem dX4_can_45 : decode cX4_can 45 = .ok (.iconst (-1), 1) := by decide +kernel
theorem dX4_can_46 : decode cX4_can 46 = .ok (.if_icmp .ne 7, 3) := by decide +kernel
theorem dX4_can_49 : decode cX4_can 49 = .ok (.iconst 1, 1) := by decide +kernel
theorem dX4_can_50 : decode cX4_can 50 = .ok (.goto 4, 3) := by decide +kernel
theorem dX4_can_53 : decode cX4_can 53 = .ok (.iconst 0, 1) := by decide +kernel
theorem dX4_can_54 : decode cX4_can 54 = .ok (.istore_n 3, 1) := by decide +kernel
theorem dX4_can_55 : decode cX4_can 55 = .ok (.iload_n 3, 1) := by decide +kernel
theorem dX4_can_56 : decode cX4_can 56 = .ok (.ifCond .eq 21, 3) := by decide +kernel
theorem dX4_can_59 : decode cX4_can 59 = .ok (.aload_n 0, 1) := by decide +kernel
theorem dX4_can_60 : decode cX4_can 60 = .ok (.iload_n 1, 1) := by decide +kernel
theorem dX4_can_61 : decode cX4_can 61 = .ok (.aload_n 0, 1) := by decide +kernel
theorem dX4_can_62 : decode cX4_can 62 = .ok (.getfield 13, 3) := by decide +kernel
theorem dX4_can_65 : decode cX4_can 65 = .ok (.iload_n 2, 1) := by decide +kernel
theorem dX4_can_66 : decode cX4_can 66 = .ok (.iaload, 1) := by decide +kernel
theorem dX4_can_67 : decode cX4_can 67 = .ok (.invokevirtual 113, 3) := by decide +kernel
theorem dX4_can_70 : decode cX4_can 70 = .ok (.ifCond .eq 7, 3) := by decide +kernel
theorem dX4_can_73 : decode cX4_can 73 = .ok (.iconst 1, 1) := by decide +kernel
theorem dX4_can_74 : decode cX4_can 74 = .ok (.goto 4, 3) := by decide +kernel
theorem dX4_can_77 : decode cX4_can 77 = .ok (.iconst 0, 1) := by decide +kernel
theorem dX4_can_78 : decode cX4_can 78 = .ok (.ireturn, 1) := by decide +kernel
theorem dX4_isLike_0 : decode cX4_isLike 0 = .ok (.aload_n 0, 1) := by decide +kernel
theorem dX4_isLike_1 : decode cX4_isLike 1 = .ok (.getfield 13, 3) := by decide +kernel
theorem dX4_isLike_4 : decode cX4_isLike 4 = .ok (.iload_n 1, 1) := by decide +kernel
theorem dX4_isLike_5 : decode cX4_isLike 5 = .ok (.iaload, 1) := by decide +kernel
theorem dX4_isLike_6 : decode cX4_isLike 6 = .ok (.aload_n 0, 1) := by decide +kernel
theorem dX4_isLike_7 : decode cX4_isLike 7 = .ok (.getfield 13, 3) := by decide +kernel
theorem dX4_isLike_10 : decode cX4_isLike 10 = .ok (.iload_n 2, 1) := by decide +kernel
theorem dX4_isLike_11 : decode cX4_isLike 11 = .ok (.iaload, 1) := by decide +kernel
theorem dX4_isLike_12 : decode cX4_isLike 12 = .ok (.if_icmp .ne 22, 3) := by decide +kernel
theorem dX4_isLike_15 : decode cX4_isLike 15 = .ok (.aload_n 0, 1) := by decide +kernel
theorem dX4_isLike_16 : decode cX4_isLike 16 = .ok (.getfield 22, 3) := by decide +kernel
theorem dX4_isLike_19 : decode cX4_isLike 19 = .ok (.iload_n 1, 1) := by decide +kernel
theorem dX4_isLike_20 : decode cX4_isLike 20 = .ok (.baload, 1) := by decide +kernel
theorem dX4_isLike_21 : decode cX4_isLike 21 = .ok (.aload_n 0, 1) := by decide +kernel
theorem dX4_isLike_22 : decode cX4_isLike 22 = .ok (.getfield 22, 3) := by decide +kernel
theorem dX4_isLike_25 : decode cX4_isLike 25 = .ok (.iload_n 2, 1) := by decide +kernel
theorem dX4_isLike_26 : decode cX4_isLike 26 = .ok (.baload, 1) := by decide +kernel
theorem dX4_isLike_27 : decode cX4_isLike 27 = .ok (.if_icmp .ne 7, 3) := by decide +kernel
theorem dX4_isLike_30 : decode cX4_isLike 30 = .ok (.iconst 1, 1) := by decide +kernel
theorem dX4_isLike_31 : decode cX4_isLike 31 = .ok (.goto 4, 3) := by decide +kernel
theorem dX4_isLike_34 : decode cX4_isLike 34 = .ok (.iconst 0, 1) := by decide +kernel
theorem dX4_isLike_35 : decode cX4_isLike 35 = .ok (.ireturn, 1) := by decide +kernel
theorem dX4_isFree_0 : decode cX4_isFree 0 = .ok (.iconst 1, 1) := by decide +kernel
theorem dX4_isFree_1 : decode cX4_isFree 1 = .ok (.istore_n 3, 1) := by decide +kernel
theorem dX4_isFree_2 : decode cX4_isFree 2 = .ok (.iconst 0, 1) := by decide +kernel
theorem dX4_isFree_3 : decode cX4_isFree 3 = .ok (.istore 4, 2) := by decide +kernel
theorem dX4_isFree_5 : decode cX4_isFree 5 = .ok (.iload 4, 2) := by decide +kernel
theorem dX4_isFree_7 : decode cX4_isFree 7 = .ok (.aload_n 0, 1) := by decide +kernel
theorem dX4_isFree_8 : decode cX4_isFree 8 = .ok (.getfield 73, 3) := by decide +kernel
theorem dX4_isFree_11 : decode cX4_isFree 11 = .ok (.if_icmp .ge 72, 3) := by decide +kernel
theorem dX4_isFree_14 : decode cX4_isFree 14 = .ok (.aload_n 0, 1) := by decide +kernel
theorem dX4_isFree_15 : decode cX4_isFree 15 = .ok (.iload 4, 2) := by decide +kernel
theorem dX4_isFree_17 : decode cX4_isFree 17 = .ok (.iload_n 2, 1) := by decide +kernel
theorem dX4_isFree_18 : decode cX4_isFree 18 = .ok (.invokevirtual 116, 3) := by decide +kernel
theorem dX4_isFree_21 : decode cX4_isFree 21 = .ok (.ifCond .ne 19, 3) := by decide +kernel
theorem dX4_isFree_24 : decode cX4_isFree 24 = .ok (.aload_n 0, 1) := by decide +kernel
theorem dX4_isFree_25 : decode cX4_isFree 25 = .ok (.getfield 16, 3) := by decide +kernel
theorem dX4_isFree_28 : decode cX4_isFree 28 = .ok (.iload 4, 2) := by decide +kernel
theorem dX4_isFree_30 : decode cX4_isFree 30 = .ok (.iaload, 1) := by decide +kernel
theorem dX4_isFree_31 : decode cX4_isFree 31 = .ok (.aload_n 0, 1) := by decide +kernel
theorem dX4_isFree_32 : decode cX4_isFree 32 = .ok (.getfield 16, 3) := by decide +kernel
theorem dX4_isFree_35 : decode cX4_isFree 35 = .ok (.iload_n 2, 1) := by decide +kernel
theorem dX4_isFree_36 : decode cX4_isFree 36 = .ok (.iaload, 1) := by decide +kernel
theorem dX4_isFree_37 : decode cX4_isFree 37 = .ok (.if_icmp .ne 7, 3) := by decide +kernel
theorem dX4_isFree_40 : decode cX4_isFree 40 = .ok (.iconst 1, 1) := by decide +kernel
theorem dX4_isFree_41 : decode cX4_isFree 41 = .ok (.goto 4, 3) := by decide +kernel
theorem dX4_isFree_44 : decode cX4_isFree 44 = .ok (.iconst 0, 1) := by decide +kernel
theorem dX4_isFree_45 : decode cX4_isFree 45 = .ok (.istore 5, 2) := by decide +kernel
theorem dX4_isFree_47 : decode cX4_isFree 47 = .ok (.iload_n 3, 1) := by decide +kernel
theorem dX4_isFree_48 : decode cX4_isFree 48 = .ok (.ifCond .eq 27, 3) := by decide +kernel
theorem dX4_isFree_51 : decode cX4_isFree 51 = .ok (.iload 5, 2) := by decide +kernel
theorem dX4_isFree_53 : decode cX4_isFree 53 = .ok (.ifCond .eq 18, 3) := by decide +kernel
theorem dX4_isFree_56 : decode cX4_isFree 56 = .ok (.aload_n 0, 1) := by decide +kernel
theorem dX4_isFree_57 : decode cX4_isFree 57 = .ok (.getfield 41, 3) := by decide +kernel
theorem dX4_isFree_60 : decode cX4_isFree 60 = .ok (.iload_n 1, 1) := by decide +kernel
theorem dX4_isFree_61 : decode cX4_isFree 61 = .ok (.iload 4, 2) := by decide +kernel
theorem dX4_isFree_63 : decode cX4_isFree 63 = .ok (.invokestatic 96, 3) := by decide +kernel
theorem dX4_isFree_66 : decode cX4_isFree 66 = .ok (.iaload, 1) := by decide +kernel
theorem dX4_isFree_67 : decode cX4_isFree 67 = .ok (.iconst (-1), 1) := by decide +kernel
theorem dX4_isFree_68 : decode cX4_isFree 68 = .ok (.if_icmp .ne 7, 3) := by decide +kernel
theorem dX4_isFree_71 : decode cX4_isFree 71 = .ok (.iconst 1, 1) := by decide +kernel
theorem dX4_isFree_72 : decode cX4_isFree 72 = .ok (.goto 4, 3) := by decide +kernel
theorem dX4_isFree_75 : decode cX4_isFree 75 = .ok (.iconst 0, 1) := by decide +kernel
theorem dX4_isFree_76 : decode cX4_isFree 76 = .ok (.istore_n 3, 1) := by decide +kernel
theorem dX4_isFree_77 : decode cX4_isFree 77 = .ok (.iinc 4 1, 3) := by decide +kernel
theorem dX4_isFree_80 : decode cX4_isFree 80 = .ok (.goto (-75), 3) := by decide +kernel
theorem dX4_isFree_83 : decode cX4_isFree 83 = .ok (.iload_n 3, 1) := by decide +kernel
theorem dX4_isFree_84 : decode cX4_isFree 84 = .ok (.ireturn, 1) := by decide +kernel
theorem dX4_held_0 : decode cX4_held 0 = .ok (.iconst 0, 1) := by decide +kernel
theorem dX4_held_1 : decode cX4_held 1 = .ok (.istore_n 2, 1) := by decide +kernel
theorem dX4_held_2 : decode cX4_held 2 = .ok (.iconst 0, 1) := by decide +kernel
theorem dX4_held_3 : decode cX4_held 3 = .ok (.istore_n 3, 1) := by decide +kernel
theorem dX4_held_4 : decode cX4_held 4 = .ok (.iload_n 3, 1) := by decide +kernel
theorem dX4_held_5 : decode cX4_held 5 = .ok (.aload_n 0, 1) := by decide +kernel
theorem dX4_held_6 : decode cX4_held 6 = .ok (.getfield 63, 3) := by decide +kernel
theorem dX4_held_9 : decode cX4_held 9 = .ok (.if_icmp .ge 31, 3) := by decide +kernel
theorem dX4_held_12 : decode cX4_held 12 = .ok (.iload_n 2, 1) := by decide +kernel
theorem dX4_held_13 : decode cX4_held 13 = .ok (.aload_n 0, 1) := by decide +kernel
theorem dX4_held_14 : decode cX4_held 14 = .ok (.getfield 41, 3) := by decide +kernel
theorem dX4_held_17 : decode cX4_held 17 = .ok (.iload_n 3, 1) := by decide +kernel
theorem dX4_held_18 : decode cX4_held 18 = .ok (.iload_n 1, 1) := by decide +kernel
theorem dX4_held_19 : decode cX4_held 19 = .ok (.invokestatic 96, 3) := by decide +kernel
theorem dX4_held_22 : decode cX4_held 22 = .ok (.iaload, 1) := by decide +kernel
theorem dX4_held_23 : decode cX4_held 23 = .ok (.iconst (-1), 1) := by decide +kernel
theorem dX4_held_24 : decode cX4_held 24 = .ok (.if_icmp .ne 7, 3) := by decide +kernel
theorem dX4_held_27 : decode cX4_held 27 = .ok (.iconst 0, 1) := by decide +kernel
theorem dX4_held_28 : decode cX4_held 28 = .ok (.goto 4, 3) := by decide +kernel
theorem dX4_held_31 : decode cX4_held 31 = .ok (.iconst 1, 1) := by decide +kernel
theorem dX4_held_32 : decode cX4_held 32 = .ok (.iadd, 1) := by decide +kernel
theorem dX4_held_33 : decode cX4_held 33 = .ok (.istore_n 2, 1) := by decide +kernel
theorem dX4_held_34 : decode cX4_held 34 = .ok (.iinc 3 1, 3) := by decide +kernel
theorem dX4_held_37 : decode cX4_held 37 = .ok (.goto (-33), 3) := by decide +kernel
theorem dX4_held_40 : decode cX4_held 40 = .ok (.iload_n 2, 1) := by decide +kernel
theorem dX4_held_41 : decode cX4_held 41 = .ok (.ireturn, 1) := by decide +kernel
theorem dX4_hasSeat_0 : decode cX4_hasSeat 0 = .ok (.aload_n 0, 1) := by decide +kernel
theorem dX4_hasSeat_1 : decode cX4_hasSeat 1 = .ok (.iload_n 1, 1) := by decide +kernel
theorem dX4_hasSeat_2 : decode cX4_hasSeat 2 = .ok (.invokevirtual 119, 3) := by decide +kernel
theorem dX4_hasSeat_5 : decode cX4_hasSeat 5 = .ok (.aload_n 0, 1) := by decide +kernel
theorem dX4_hasSeat_6 : decode cX4_hasSeat 6 = .ok (.getfield 7, 3) := by decide +kernel
theorem dX4_hasSeat_9 : decode cX4_hasSeat 9 = .ok (.aload_n 0, 1) := by decide +kernel
theorem dX4_hasSeat_10 : decode cX4_hasSeat 10 = .ok (.getfield 19, 3) := by decide +kernel
theorem dX4_hasSeat_13 : decode cX4_hasSeat 13 = .ok (.iload_n 1, 1) := by decide +kernel
theorem dX4_hasSeat_14 : decode cX4_hasSeat 14 = .ok (.iaload, 1) := by decide +kernel
theorem dX4_hasSeat_15 : decode cX4_hasSeat 15 = .ok (.iaload, 1) := by decide +kernel
theorem dX4_hasSeat_16 : decode cX4_hasSeat 16 = .ok (.if_icmp .ge 7, 3) := by decide +kernel
theorem dX4_hasSeat_19 : decode cX4_hasSeat 19 = .ok (.iconst 1, 1) := by decide +kernel
theorem dX4_hasSeat_20 : decode cX4_hasSeat 20 = .ok (.goto 4, 3) := by decide +kernel
theorem dX4_hasSeat_23 : decode cX4_hasSeat 23 = .ok (.iconst 0, 1) := by decide +kernel
theorem dX4_hasSeat_24 : decode cX4_hasSeat 24 = .ok (.ireturn, 1) := by decide +kernel
theorem dX4_does_0 : decode cX4_does 0 = .ok (.aload_n 0, 1) := by decide +kernel
theorem dX4_does_1 : decode cX4_does 1 = .ok (.iload_n 1, 1) := by decide +kernel
theorem dX4_does_2 : decode cX4_does 2 = .ok (.iload_n 2, 1) := by decide +kernel
theorem dX4_does_3 : decode cX4_does 3 = .ok (.invokevirtual 123, 3) := by decide +kernel
theorem dX4_does_6 : decode cX4_does 6 = .ok (.ifCond .eq 26, 3) := by decide +kernel
theorem dX4_does_9 : decode cX4_does 9 = .ok (.aload_n 0, 1) := by decide +kernel
theorem dX4_does_10 : decode cX4_does 10 = .ok (.iload_n 1, 1) := by decide +kernel
theorem dX4_does_11 : decode cX4_does 11 = .ok (.iload_n 2, 1) := by decide +kernel
theorem dX4_does_12 : decode cX4_does 12 = .ok (.invokevirtual 126, 3) := by decide +kernel
theorem dX4_does_15 : decode cX4_does 15 = .ok (.ifCond .eq 17, 3) := by decide +kernel
theorem dX4_does_18 : decode cX4_does 18 = .ok (.aload_n 0, 1) := by decide +kernel
theorem dX4_does_19 : decode cX4_does 19 = .ok (.getfield 50, 3) := by decide +kernel
theorem dX4_does_22 : decode cX4_does 22 = .ok (.iload_n 1, 1) := by decide +kernel
theorem dX4_does_23 : decode cX4_does 23 = .ok (.iaload, 1) := by decide +kernel
theorem dX4_does_24 : decode cX4_does 24 = .ok (.iload_n 3, 1) := by decide +kernel
theorem dX4_does_25 : decode cX4_does 25 = .ok (.if_icmp .lt 7, 3) := by decide +kernel
theorem dX4_does_28 : decode cX4_does 28 = .ok (.iconst 1, 1) := by decide +kernel
theorem dX4_does_29 : decode cX4_does 29 = .ok (.goto 4, 3) := by decide +kernel
theorem dX4_does_32 : decode cX4_does 32 = .ok (.iconst 0, 1) := by decide +kernel
theorem dX4_does_33 : decode cX4_does 33 = .ok (.ireturn, 1) := by decide +kernel
theorem dX4_placeOf_0 : decode cX4_placeOf 0 = .ok (.iconst (-1), 1) := by decide +kernel
theorem dX4_placeOf_1 : decode cX4_placeOf 1 = .ok (.istore_n 3, 1) := by decide +kernel
theorem dX4_placeOf_2 : decode cX4_placeOf 2 = .ok (.iconst 0, 1) := by decide +kernel
theorem dX4_placeOf_3 : decode cX4_placeOf 3 = .ok (.istore 4, 2) := by decide +kernel
theorem dX4_placeOf_5 : decode cX4_placeOf 5 = .ok (.iload 4, 2) := by decide +kernel
theorem dX4_placeOf_7 : decode cX4_placeOf 7 = .ok (.aload_n 0, 1) := by decide +kernel
theorem dX4_placeOf_8 : decode cX4_placeOf 8 = .ok (.getfield 26, 3) := by decide +kernel
theorem dX4_placeOf_11 : decode cX4_placeOf 11 = .ok (.iload_n 2, 1) := by decide +kernel
theorem dX4_placeOf_12 : decode cX4_placeOf 12 = .ok (.iaload, 1) := by decide +kernel
theorem dX4_placeOf_13 : decode cX4_placeOf 13 = .ok (.if_icmp .ge 32, 3) := by decide +kernel
theorem dX4_placeOf_16 : decode cX4_placeOf 16 = .ok (.aload_n 0, 1) := by decide +kernel
theorem dX4_placeOf_17 : decode cX4_placeOf 17 = .ok (.getfield 29, 3) := by decide +kernel
theorem dX4_placeOf_20 : decode cX4_placeOf 20 = .ok (.bipush 10, 2) := by decide +kernel
theorem dX4_placeOf_22 : decode cX4_placeOf 22 = .ok (.iload_n 2, 1) := by decide +kernel
theorem dX4_placeOf_23 : decode cX4_placeOf 23 = .ok (.imul, 1) := by decide +kernel
theorem dX4_placeOf_24 : decode cX4_placeOf 24 = .ok (.iload 4, 2) := by decide +kernel
theorem dX4_placeOf_26 : decode cX4_placeOf 26 = .ok (.iadd, 1) := by decide +kernel
theorem dX4_placeOf_27 : decode cX4_placeOf 27 = .ok (.iaload, 1) := by decide +kernel
theorem dX4_placeOf_28 : decode cX4_placeOf 28 = .ok (.iload_n 1, 1) := by decide +kernel
theorem dX4_placeOf_29 : decode cX4_placeOf 29 = .ok (.if_icmp .ne 8, 3) := by decide +kernel
theorem dX4_placeOf_32 : decode cX4_placeOf 32 = .ok (.iload 4, 2) := by decide +kernel
theorem dX4_placeOf_34 : decode cX4_placeOf 34 = .ok (.goto 4, 3) := by decide +kernel
theorem dX4_placeOf_37 : decode cX4_placeOf 37 = .ok (.iload_n 3, 1) := by decide +kernel
theorem dX4_placeOf_38 : decode cX4_placeOf 38 = .ok (.istore_n 3, 1) := by decide +kernel
theorem dX4_placeOf_39 : decode cX4_placeOf 39 = .ok (.iinc 4 1, 3) := by decide +kernel
theorem dX4_placeOf_42 : decode cX4_placeOf 42 = .ok (.goto (-37), 3) := by decide +kernel
theorem dX4_placeOf_45 : decode cX4_placeOf 45 = .ok (.iload_n 3, 1) := by decide +kernel
theorem dX4_placeOf_46 : decode cX4_placeOf 46 = .ok (.ireturn, 1) := by decide +kernel
theorem dX4_leave_0 : decode cX4_leave 0 = .ok (.aload_n 0, 1) := by decide +kernel
theorem dX4_leave_1 : decode cX4_leave 1 = .ok (.iload_n 1, 1) := by decide +kernel
theorem dX4_leave_2 : decode cX4_leave 2 = .ok (.iload_n 2, 1) := by decide +kernel
theorem dX4_leave_3 : decode cX4_leave 3 = .ok (.invokevirtual 129, 3) := by decide +kernel
theorem dX4_leave_6 : decode cX4_leave 6 = .ok (.istore_n 3, 1) := by decide +kernel
theorem dX4_leave_7 : decode cX4_leave 7 = .ok (.iload_n 3, 1) := by decide +kernel
theorem dX4_leave_8 : decode cX4_leave 8 = .ok (.iconst (-1), 1) := by decide +kernel
theorem dX4_leave_9 : decode cX4_leave 9 = .ok (.if_icmp .ne 4, 3) := by decide +kernel
theorem dX4_leave_12 : decode cX4_leave 12 = .ok (.return_, 1) := by decide +kernel
theorem dX4_leave_13 : decode cX4_leave 13 = .ok (.iload_n 3, 1) := by decide +kernel
theorem dX4_leave_14 : decode cX4_leave 14 = .ok (.istore 4, 2) := by decide +kernel
theorem dX4_leave_16 : decode cX4_leave 16 = .ok (.iload 4, 2) := by decide +kernel
theorem dX4_leave_18 : decode cX4_leave 18 = .ok (.iconst 1, 1) := by decide +kernel
theorem dX4_leave_19 : decode cX4_leave 19 = .ok (.iadd, 1) := by decide +kernel
theorem dX4_leave_20 : decode cX4_leave 20 = .ok (.aload_n 0, 1) := by decide +kernel
theorem dX4_leave_21 : decode cX4_leave 21 = .ok (.getfield 26, 3) := by decide +kernel
theorem dX4_leave_24 : decode cX4_leave 24 = .ok (.iload_n 2, 1) := by decide +kernel
theorem dX4_leave_25 : decode cX4_leave 25 = .ok (.iaload, 1) := by decide +kernel
theorem dX4_leave_26 : decode cX4_leave 26 = .ok (.if_icmp .ge 61, 3) := by decide +kernel
theorem dX4_leave_29 : decode cX4_leave 29 = .ok (.aload_n 0, 1) := by decide +kernel
theorem dX4_leave_30 : decode cX4_leave 30 = .ok (.getfield 29, 3) := by decide +kernel
theorem dX4_leave_33 : decode cX4_leave 33 = .ok (.bipush 10, 2) := by decide +kernel
theorem dX4_leave_35 : decode cX4_leave 35 = .ok (.iload_n 2, 1) := by decide +kernel
theorem dX4_leave_36 : decode cX4_leave 36 = .ok (.imul, 1) := by decide +kernel
theorem dX4_leave_37 : decode cX4_leave 37 = .ok (.iload 4, 2) := by decide +kernel
theorem dX4_leave_39 : decode cX4_leave 39 = .ok (.iadd, 1) := by decide +kernel
theorem dX4_leave_40 : decode cX4_leave 40 = .ok (.aload_n 0, 1) := by decide +kernel
theorem dX4_leave_41 : decode cX4_leave 41 = .ok (.getfield 29, 3) := by decide +kernel
theorem dX4_leave_44 : decode cX4_leave 44 = .ok (.bipush 10, 2) := by decide +kernel
theorem dX4_leave_46 : decode cX4_leave 46 = .ok (.iload_n 2, 1) := by decide +kernel
theorem dX4_leave_47 : decode cX4_leave 47 = .ok (.imul, 1) := by decide +kernel
theorem dX4_leave_48 : decode cX4_leave 48 = .ok (.iload 4, 2) := by decide +kernel
theorem dX4_leave_50 : decode cX4_leave 50 = .ok (.iadd, 1) := by decide +kernel
theorem dX4_leave_51 : decode cX4_leave 51 = .ok (.iconst 1, 1) := by decide +kernel
theorem dX4_leave_52 : decode cX4_leave 52 = .ok (.iadd, 1) := by decide +kernel
theorem dX4_leave_53 : decode cX4_leave 53 = .ok (.iaload, 1) := by decide +kernel
theorem dX4_leave_54 : decode cX4_leave 54 = .ok (.iastore, 1) := by decide +kernel
theorem dX4_leave_55 : decode cX4_leave 55 = .ok (.aload_n 0, 1) := by decide +kernel
theorem dX4_leave_56 : decode cX4_leave 56 = .ok (.getfield 32, 3) := by decide +kernel
theorem dX4_leave_59 : decode cX4_leave 59 = .ok (.bipush 10, 2) := by decide +kernel
theorem dX4_leave_61 : decode cX4_leave 61 = .ok (.iload_n 2, 1) := by decide +kernel
theorem dX4_leave_62 : decode cX4_leave 62 = .ok (.imul, 1) := by decide +kernel
theorem dX4_leave_63 : decode cX4_leave 63 = .ok (.iload 4, 2) := by decide +kernel
theorem dX4_leave_65 : decode cX4_leave 65 = .ok (.iadd, 1) := by decide +kernel
theorem dX4_leave_66 : decode cX4_leave 66 = .ok (.aload_n 0, 1) := by decide +kernel
theorem dX4_leave_67 : decode cX4_leave 67 = .ok (.getfield 32, 3) := by decide +kernel
theorem dX4_leave_70 : decode cX4_leave 70 = .ok (.bipush 10, 2) := by decide +kernel
theorem dX4_leave_72 : decode cX4_leave 72 = .ok (.iload_n 2, 1) := by decide +kernel
theorem dX4_leave_73 : decode cX4_leave 73 = .ok (.imul, 1) := by decide +kernel
theorem dX4_leave_74 : decode cX4_leave 74 = .ok (.iload 4, 2) := by decide +kernel
theorem dX4_leave_76 : decode cX4_leave 76 = .ok (.iadd, 1) := by decide +kernel
theorem dX4_leave_77 : decode cX4_leave 77 = .ok (.iconst 1, 1) := by decide +kernel
theorem dX4_leave_78 : decode cX4_leave 78 = .ok (.iadd, 1) := by decide +kernel
theorem dX4_leave_79 : decode cX4_leave 79 = .ok (.iaload, 1) := by decide +kernel
theorem dX4_leave_80 : decode cX4_leave 80 = .ok (.iastore, 1) := by decide +kernel
theorem dX4_leave_81 : decode cX4_leave 81 = .ok (.iinc 4 1, 3) := by decide +kernel
theorem dX4_leave_84 : decode cX4_leave 84 = .ok (.goto (-68), 3) := by decide +kernel
theorem dX4_leave_87 : decode cX4_leave 87 = .ok (.aload_n 0, 1) := by decide +kernel
theorem dX4_leave_88 : decode cX4_leave 88 = .ok (.getfield 26, 3) := by decide +kernel
theorem dX4_leave_91 : decode cX4_leave 91 = .ok (.iload_n 2, 1) := by decide +kernel
theorem dX4_leave_92 : decode cX4_leave 92 = .ok (.dup2, 1) := by decide +kernel
theorem dX4_leave_93 : decode cX4_leave 93 = .ok (.iaload, 1) := by decide +kernel
theorem dX4_leave_94 : decode cX4_leave 94 = .ok (.iconst 1, 1) := by decide +kernel
theorem dX4_leave_95 : decode cX4_leave 95 = .ok (.isub, 1) := by decide +kernel
theorem dX4_leave_96 : decode cX4_leave 96 = .ok (.iastore, 1) := by decide +kernel
theorem dX4_leave_97 : decode cX4_leave 97 = .ok (.return_, 1) := by decide +kernel
theorem dX4_give_0 : decode cX4_give 0 = .ok (.aload_n 0, 1) := by decide +kernel
theorem dX4_give_1 : decode cX4_give 1 = .ok (.getfield 50, 3) := by decide +kernel
theorem dX4_give_4 : decode cX4_give 4 = .ok (.iload_n 1, 1) := by decide +kernel
theorem dX4_give_5 : decode cX4_give 5 = .ok (.dup2, 1) := by decide +kernel
theorem dX4_give_6 : decode cX4_give 6 = .ok (.iaload, 1) := by decide +kernel
theorem dX4_give_7 : decode cX4_give 7 = .ok (.iload_n 3, 1) := by decide +kernel
theorem dX4_give_8 : decode cX4_give 8 = .ok (.isub, 1) := by decide +kernel
theorem dX4_give_9 : decode cX4_give 9 = .ok (.iastore, 1) := by decide +kernel
theorem dX4_give_10 : decode cX4_give 10 = .ok (.aload_n 0, 1) := by decide +kernel
theorem dX4_give_11 : decode cX4_give 11 = .ok (.getfield 41, 3) := by decide +kernel
theorem dX4_give_14 : decode cX4_give 14 = .ok (.iload_n 1, 1) := by decide +kernel
theorem dX4_give_15 : decode cX4_give 15 = .ok (.iload_n 2, 1) := by decide +kernel
theorem dX4_give_16 : decode cX4_give 16 = .ok (.invokestatic 96, 3) := by decide +kernel
theorem dX4_give_19 : decode cX4_give 19 = .ok (.iload_n 3, 1) := by decide +kernel
theorem dX4_give_20 : decode cX4_give 20 = .ok (.iastore, 1) := by decide +kernel
theorem dX4_give_21 : decode cX4_give 21 = .ok (.iconst 0, 1) := by decide +kernel
theorem dX4_give_22 : decode cX4_give 22 = .ok (.istore 4, 2) := by decide +kernel
theorem dX4_give_24 : decode cX4_give 24 = .ok (.iload 4, 2) := by decide +kernel
theorem dX4_give_26 : decode cX4_give 26 = .ok (.aload_n 0, 1) := by decide +kernel
theorem dX4_give_27 : decode cX4_give 27 = .ok (.getfield 73, 3) := by decide +kernel
theorem dX4_give_30 : decode cX4_give 30 = .ok (.if_icmp .ge 26, 3) := by decide +kernel
theorem dX4_give_33 : decode cX4_give 33 = .ok (.aload_n 0, 1) := by decide +kernel
theorem dX4_give_34 : decode cX4_give 34 = .ok (.iload 4, 2) := by decide +kernel
theorem dX4_give_36 : decode cX4_give 36 = .ok (.iload_n 2, 1) := by decide +kernel
theorem dX4_give_37 : decode cX4_give 37 = .ok (.invokevirtual 116, 3) := by decide +kernel
theorem dX4_give_40 : decode cX4_give 40 = .ok (.ifCond .eq 10, 3) := by decide +kernel
theorem dX4_give_43 : decode cX4_give 43 = .ok (.aload_n 0, 1) := by decide +kernel
theorem dX4_give_44 : decode cX4_give 44 = .ok (.iload_n 1, 1) := by decide +kernel
theorem dX4_give_45 : decode cX4_give 45 = .ok (.iload 4, 2) := by decide +kernel
theorem dX4_give_47 : decode cX4_give 47 = .ok (.invokevirtual 132, 3) := by decide +kernel
theorem dX4_give_50 : decode cX4_give 50 = .ok (.iinc 4 1, 3) := by decide +kernel
theorem dX4_give_53 : decode cX4_give 53 = .ok (.goto (-29), 3) := by decide +kernel
theorem dX4_give_56 : decode cX4_give 56 = .ok (.return_, 1) := by decide +kernel
theorem dX4_nextBid_0 : decode cX4_nextBid 0 = .ok (.iconst (-1), 1) := by decide +kernel
theorem dX4_nextBid_1 : decode cX4_nextBid 1 = .ok (.istore_n 1, 1) := by decide +kernel
theorem dX4_nextBid_2 : decode cX4_nextBid 2 = .ok (.iconst 0, 1) := by decide +kernel
theorem dX4_nextBid_3 : decode cX4_nextBid 3 = .ok (.istore_n 2, 1) := by decide +kernel
theorem dX4_nextBid_4 : decode cX4_nextBid 4 = .ok (.iload_n 2, 1) := by decide +kernel
theorem dX4_nextBid_5 : decode cX4_nextBid 5 = .ok (.bipush 120, 2) := by decide +kernel
theorem dX4_nextBid_7 : decode cX4_nextBid 7 = .ok (.if_icmp .ge 84, 3) := by decide +kernel
theorem dX4_nextBid_10 : decode cX4_nextBid 10 = .ok (.aload_n 0, 1) := by decide +kernel
theorem dX4_nextBid_11 : decode cX4_nextBid 11 = .ok (.getfield 35, 3) := by decide +kernel
theorem dX4_nextBid_14 : decode cX4_nextBid 14 = .ok (.iload_n 2, 1) := by decide +kernel
theorem dX4_nextBid_15 : decode cX4_nextBid 15 = .ok (.iaload, 1) := by decide +kernel
theorem dX4_nextBid_16 : decode cX4_nextBid 16 = .ok (.ifCond .le 57, 3) := by decide +kernel
theorem dX4_nextBid_19 : decode cX4_nextBid 19 = .ok (.iload_n 1, 1) := by decide +kernel
theorem dX4_nextBid_20 : decode cX4_nextBid 20 = .ok (.iconst (-1), 1) := by decide +kernel
theorem dX4_nextBid_21 : decode cX4_nextBid 21 = .ok (.if_icmp .eq 48, 3) := by decide +kernel
theorem dX4_nextBid_24 : decode cX4_nextBid 24 = .ok (.aload_n 0, 1) := by decide +kernel
theorem dX4_nextBid_25 : decode cX4_nextBid 25 = .ok (.getfield 35, 3) := by decide +kernel
theorem dX4_nextBid_28 : decode cX4_nextBid 28 = .ok (.iload_n 2, 1) := by decide +kernel
theorem dX4_nextBid_29 : decode cX4_nextBid 29 = .ok (.iaload, 1) := by decide +kernel
theorem dX4_nextBid_30 : decode cX4_nextBid 30 = .ok (.aload_n 0, 1) := by decide +kernel
theorem dX4_nextBid_31 : decode cX4_nextBid 31 = .ok (.getfield 35, 3) := by decide +kernel
theorem dX4_nextBid_34 : decode cX4_nextBid 34 = .ok (.iload_n 1, 1) := by decide +kernel
theorem dX4_nextBid_35 : decode cX4_nextBid 35 = .ok (.iaload, 1) := by decide +kernel
theorem dX4_nextBid_36 : decode cX4_nextBid 36 = .ok (.if_icmp .gt 33, 3) := by decide +kernel
theorem dX4_nextBid_39 : decode cX4_nextBid 39 = .ok (.aload_n 0, 1) := by decide +kernel
theorem dX4_nextBid_40 : decode cX4_nextBid 40 = .ok (.getfield 35, 3) := by decide +kernel
theorem dX4_nextBid_43 : decode cX4_nextBid 43 = .ok (.iload_n 2, 1) := by decide +kernel
theorem dX4_nextBid_44 : decode cX4_nextBid 44 = .ok (.iaload, 1) := by decide +kernel
theorem dX4_nextBid_45 : decode cX4_nextBid 45 = .ok (.aload_n 0, 1) := by decide +kernel
theorem dX4_nextBid_46 : decode cX4_nextBid 46 = .ok (.getfield 35, 3) := by decide +kernel
theorem dX4_nextBid_49 : decode cX4_nextBid 49 = .ok (.iload_n 1, 1) := by decide +kernel
theorem dX4_nextBid_50 : decode cX4_nextBid 50 = .ok (.iaload, 1) := by decide +kernel
theorem dX4_nextBid_51 : decode cX4_nextBid 51 = .ok (.if_icmp .ne 22, 3) := by decide +kernel
theorem dX4_nextBid_54 : decode cX4_nextBid 54 = .ok (.aload_n 0, 1) := by decide +kernel
theorem dX4_nextBid_55 : decode cX4_nextBid 55 = .ok (.getfield 38, 3) := by decide +kernel
theorem dX4_nextBid_58 : decode cX4_nextBid 58 = .ok (.iload_n 2, 1) := by decide +kernel
theorem dX4_nextBid_59 : decode cX4_nextBid 59 = .ok (.iaload, 1) := by decide +kernel
theorem dX4_nextBid_60 : decode cX4_nextBid 60 = .ok (.aload_n 0, 1) := by decide +kernel
theorem dX4_nextBid_61 : decode cX4_nextBid 61 = .ok (.getfield 38, 3) := by decide +kernel
theorem dX4_nextBid_64 : decode cX4_nextBid 64 = .ok (.iload_n 1, 1) := by decide +kernel
theorem dX4_nextBid_65 : decode cX4_nextBid 65 = .ok (.iaload, 1) := by decide +kernel
theorem dX4_nextBid_66 : decode cX4_nextBid 66 = .ok (.if_icmp .ge 7, 3) := by decide +kernel
theorem dX4_nextBid_69 : decode cX4_nextBid 69 = .ok (.iconst 1, 1) := by decide +kernel
theorem dX4_nextBid_70 : decode cX4_nextBid 70 = .ok (.goto 4, 3) := by decide +kernel
theorem dX4_nextBid_73 : decode cX4_nextBid 73 = .ok (.iconst 0, 1) := by decide +kernel
theorem dX4_nextBid_74 : decode cX4_nextBid 74 = .ok (.istore_n 3, 1) := by decide +kernel
theorem dX4_nextBid_75 : decode cX4_nextBid 75 = .ok (.iload_n 3, 1) := by decide +kernel
theorem dX4_nextBid_76 : decode cX4_nextBid 76 = .ok (.ifCond .eq 7, 3) := by decide +kernel
theorem dX4_nextBid_79 : decode cX4_nextBid 79 = .ok (.iload_n 2, 1) := by decide +kernel
theorem dX4_nextBid_80 : decode cX4_nextBid 80 = .ok (.goto 4, 3) := by decide +kernel
theorem dX4_nextBid_83 : decode cX4_nextBid 83 = .ok (.iload_n 1, 1) := by decide +kernel
theorem dX4_nextBid_84 : decode cX4_nextBid 84 = .ok (.istore_n 1, 1) := by decide +kernel
theorem dX4_nextBid_85 : decode cX4_nextBid 85 = .ok (.iinc 2 1, 3) := by decide +kernel
theorem dX4_nextBid_88 : decode cX4_nextBid 88 = .ok (.goto (-84), 3) := by decide +kernel
theorem dX4_nextBid_91 : decode cX4_nextBid 91 = .ok (.iload_n 1, 1) := by decide +kernel
theorem dX4_nextBid_92 : decode cX4_nextBid 92 = .ok (.ireturn, 1) := by decide +kernel
theorem dX4_settle_0 : decode cX4_settle 0 = .ok (.aload_n 0, 1) := by decide +kernel
theorem dX4_settle_1 : decode cX4_settle 1 = .ok (.iconst 0, 1) := by decide +kernel
theorem dX4_settle_2 : decode cX4_settle 2 = .ok (.putfield 59, 3) := by decide +kernel
theorem dX4_settle_5 : decode cX4_settle 5 = .ok (.aload_n 0, 1) := by decide +kernel
theorem dX4_settle_6 : decode cX4_settle 6 = .ok (.dup, 1) := by decide +kernel
theorem dX4_settle_7 : decode cX4_settle 7 = .ok (.getfield 136, 3) := by decide +kernel
theorem dX4_settle_10 : decode cX4_settle 10 = .ok (.iconst 1, 1) := by decide +kernel
theorem dX4_settle_11 : decode cX4_settle 11 = .ok (.iadd, 1) := by decide +kernel
theorem dX4_settle_12 : decode cX4_settle 12 = .ok (.putfield 136, 3) := by decide +kernel
theorem dX4_settle_15 : decode cX4_settle 15 = .ok (.iconst 0, 1) := by decide +kernel
theorem dX4_settle_16 : decode cX4_settle 16 = .ok (.istore_n 1, 1) := by decide +kernel
theorem dX4_settle_17 : decode cX4_settle 17 = .ok (.aload_n 0, 1) := by decide +kernel
theorem dX4_settle_18 : decode cX4_settle 18 = .ok (.invokevirtual 139, 3) := by decide +kernel
theorem dX4_settle_21 : decode cX4_settle 21 = .ok (.istore_n 2, 1) := by decide +kernel
theorem dX4_settle_22 : decode cX4_settle 22 = .ok (.iload_n 2, 1) := by decide +kernel
theorem dX4_settle_23 : decode cX4_settle 23 = .ok (.iconst (-1), 1) := by decide +kernel
theorem dX4_settle_24 : decode cX4_settle 24 = .ok (.if_icmp .eq 149, 3) := by decide +kernel
theorem dX4_settle_27 : decode cX4_settle 27 = .ok (.iload_n 2, 1) := by decide +kernel
theorem dX4_settle_28 : decode cX4_settle 28 = .ok (.bipush 12, 2) := by decide +kernel
theorem dX4_settle_30 : decode cX4_settle 30 = .ok (.idiv, 1) := by decide +kernel
theorem dX4_settle_31 : decode cX4_settle 31 = .ok (.istore_n 3, 1) := by decide +kernel
theorem dX4_settle_32 : decode cX4_settle 32 = .ok (.iload_n 2, 1) := by decide +kernel
theorem dX4_settle_33 : decode cX4_settle 33 = .ok (.bipush 12, 2) := by decide +kernel
theorem dX4_settle_35 : decode cX4_settle 35 = .ok (.irem, 1) := by decide +kernel
theorem dX4_settle_36 : decode cX4_settle 36 = .ok (.istore 4, 2) := by decide +kernel
theorem dX4_settle_38 : decode cX4_settle 38 = .ok (.aload_n 0, 1) := by decide +kernel
theorem dX4_settle_39 : decode cX4_settle 39 = .ok (.getfield 35, 3) := by decide +kernel
theorem dX4_settle_42 : decode cX4_settle 42 = .ok (.iload_n 2, 1) := by decide +kernel
theorem dX4_settle_43 : decode cX4_settle 43 = .ok (.iaload, 1) := by decide +kernel
theorem dX4_settle_44 : decode cX4_settle 44 = .ok (.istore 5, 2) := by decide +kernel
theorem dX4_settle_46 : decode cX4_settle 46 = .ok (.aload_n 0, 1) := by decide +kernel
theorem dX4_settle_47 : decode cX4_settle 47 = .ok (.getfield 35, 3) := by decide +kernel
theorem dX4_settle_50 : decode cX4_settle 50 = .ok (.iload_n 2, 1) := by decide +kernel
theorem dX4_settle_51 : decode cX4_settle 51 = .ok (.iconst 0, 1) := by decide +kernel
theorem dX4_settle_52 : decode cX4_settle 52 = .ok (.iastore, 1) := by decide +kernel
theorem dX4_settle_53 : decode cX4_settle 53 = .ok (.aload_n 0, 1) := by decide +kernel
theorem dX4_settle_54 : decode cX4_settle 54 = .ok (.getfield 53, 3) := by decide +kernel
theorem dX4_settle_57 : decode cX4_settle 57 = .ok (.aload_n 0, 1) := by decide +kernel
theorem dX4_settle_58 : decode cX4_settle 58 = .ok (.getfield 16, 3) := by decide +kernel
theorem dX4_settle_61 : decode cX4_settle 61 = .ok (.iload 4, 2) := by decide +kernel
theorem dX4_settle_63 : decode cX4_settle 63 = .ok (.iaload, 1) := by decide +kernel
theorem dX4_settle_64 : decode cX4_settle 64 = .ok (.baload, 1) := by decide +kernel
theorem dX4_settle_65 : decode cX4_settle 65 = .ok (.ifCond .ne 100, 3) := by decide +kernel
theorem dX4_settle_68 : decode cX4_settle 68 = .ok (.aload_n 0, 1) := by decide +kernel
theorem dX4_settle_69 : decode cX4_settle 69 = .ok (.iload_n 3, 1) := by decide +kernel
theorem dX4_settle_70 : decode cX4_settle 70 = .ok (.iload 4, 2) := by decide +kernel
theorem dX4_settle_72 : decode cX4_settle 72 = .ok (.iload 5, 2) := by decide +kernel
theorem dX4_settle_74 : decode cX4_settle 74 = .ok (.invokevirtual 143, 3) := by decide +kernel
theorem dX4_settle_77 : decode cX4_settle 77 = .ok (.ifCond .eq 88, 3) := by decide +kernel
theorem dX4_settle_80 : decode cX4_settle 80 = .ok (.aload_n 0, 1) := by decide +kernel
theorem dX4_settle_81 : decode cX4_settle 81 = .ok (.iload 4, 2) := by decide +kernel
theorem dX4_settle_83 : decode cX4_settle 83 = .ok (.invokevirtual 146, 3) := by decide +kernel
theorem dX4_settle_86 : decode cX4_settle 86 = .ok (.ifCond .eq 18, 3) := by decide +kernel
theorem dX4_settle_89 : decode cX4_settle 89 = .ok (.aload_n 0, 1) := by decide +kernel
theorem dX4_settle_90 : decode cX4_settle 90 = .ok (.iload_n 3, 1) := by decide +kernel
theorem dX4_settle_91 : decode cX4_settle 91 = .ok (.iload 4, 2) := by decide +kernel
theorem dX4_settle_93 : decode cX4_settle 93 = .ok (.iload 5, 2) := by decide +kernel
theorem dX4_settle_95 : decode cX4_settle 95 = .ok (.invokevirtual 149, 3) := by decide +kernel
theorem dX4_settle_98 : decode cX4_settle 98 = .ok (.iinc 1 1, 3) := by decide +kernel
theorem dX4_settle_101 : decode cX4_settle 101 = .ok (.goto 64, 3) := by decide +kernel
theorem dX4_settle_104 : decode cX4_settle 104 = .ok (.aload_n 0, 1) := by decide +kernel
theorem dX4_settle_105 : decode cX4_settle 105 = .ok (.iload_n 3, 1) := by decide +kernel
theorem dX4_settle_106 : decode cX4_settle 106 = .ok (.iload 4, 2) := by decide +kernel
theorem dX4_settle_108 : decode cX4_settle 108 = .ok (.invokevirtual 129, 3) := by decide +kernel
theorem dX4_settle_111 : decode cX4_settle 111 = .ok (.iconst (-1), 1) := by decide +kernel
theorem dX4_settle_112 : decode cX4_settle 112 = .ok (.if_icmp .ne 53, 3) := by decide +kernel
theorem dX4_settle_115 : decode cX4_settle 115 = .ok (.aload_n 0, 1) := by decide +kernel
theorem dX4_settle_116 : decode cX4_settle 116 = .ok (.getfield 29, 3) := by decide +kernel
theorem dX4_settle_119 : decode cX4_settle 119 = .ok (.bipush 10, 2) := by decide +kernel
theorem dX4_settle_121 : decode cX4_settle 121 = .ok (.iload 4, 2) := by decide +kernel
theorem dX4_settle_123 : decode cX4_settle 123 = .ok (.imul, 1) := by decide +kernel
theorem dX4_settle_124 : decode cX4_settle 124 = .ok (.aload_n 0, 1) := by decide +kernel
theorem dX4_settle_125 : decode cX4_settle 125 = .ok (.getfield 26, 3) := by decide +kernel
theorem dX4_settle_128 : decode cX4_settle 128 = .ok (.iload 4, 2) := by decide +kernel
theorem dX4_settle_130 : decode cX4_settle 130 = .ok (.iaload, 1) := by decide +kernel
theorem dX4_settle_131 : decode cX4_settle 131 = .ok (.iadd, 1) := by decide +kernel
theorem dX4_settle_132 : decode cX4_settle 132 = .ok (.iload_n 3, 1) := by decide +kernel
theorem dX4_settle_133 : decode cX4_settle 133 = .ok (.iastore, 1) := by decide +kernel
theorem dX4_settle_134 : decode cX4_settle 134 = .ok (.aload_n 0, 1) := by decide +kernel
theorem dX4_settle_135 : decode cX4_settle 135 = .ok (.getfield 32, 3) := by decide +kernel
theorem dX4_settle_138 : decode cX4_settle 138 = .ok (.bipush 10, 2) := by decide +kernel
theorem dX4_settle_140 : decode cX4_settle 140 = .ok (.iload 4, 2) := by decide +kernel
theorem dX4_settle_142 : decode cX4_settle 142 = .ok (.imul, 1) := by decide +kernel
theorem dX4_settle_143 : decode cX4_settle 143 = .ok (.aload_n 0, 1) := by decide +kernel
theorem dX4_settle_144 : decode cX4_settle 144 = .ok (.getfield 26, 3) := by decide +kernel
theorem dX4_settle_147 : decode cX4_settle 147 = .ok (.iload 4, 2) := by decide +kernel
theorem dX4_settle_149 : decode cX4_settle 149 = .ok (.iaload, 1) := by decide +kernel
theorem dX4_settle_150 : decode cX4_settle 150 = .ok (.iadd, 1) := by decide +kernel
theorem dX4_settle_151 : decode cX4_settle 151 = .ok (.iload 5, 2) := by decide +kernel
theorem dX4_settle_153 : decode cX4_settle 153 = .ok (.iastore, 1) := by decide +kernel
theorem dX4_settle_154 : decode cX4_settle 154 = .ok (.aload_n 0, 1) := by decide +kernel
theorem dX4_settle_155 : decode cX4_settle 155 = .ok (.getfield 26, 3) := by decide +kernel
theorem dX4_settle_158 : decode cX4_settle 158 = .ok (.iload 4, 2) := by decide +kernel
theorem dX4_settle_160 : decode cX4_settle 160 = .ok (.dup2, 1) := by decide +kernel
theorem dX4_settle_161 : decode cX4_settle 161 = .ok (.iaload, 1) := by decide +kernel
theorem dX4_settle_162 : decode cX4_settle 162 = .ok (.iconst 1, 1) := by decide +kernel
theorem dX4_settle_163 : decode cX4_settle 163 = .ok (.iadd, 1) := by decide +kernel
theorem dX4_settle_164 : decode cX4_settle 164 = .ok (.iastore, 1) := by decide +kernel
theorem dX4_settle_165 : decode cX4_settle 165 = .ok (.aload_n 0, 1) := by decide +kernel
theorem dX4_settle_166 : decode cX4_settle 166 = .ok (.invokevirtual 139, 3) := by decide +kernel
theorem dX4_settle_169 : decode cX4_settle 169 = .ok (.istore_n 2, 1) := by decide +kernel
theorem dX4_settle_170 : decode cX4_settle 170 = .ok (.goto (-148), 3) := by decide +kernel
theorem dX4_settle_173 : decode cX4_settle 173 = .ok (.iload_n 1, 1) := by decide +kernel
theorem dX4_settle_174 : decode cX4_settle 174 = .ok (.ireturn, 1) := by decide +kernel
theorem dX4_rounds_0 : decode cX4_rounds 0 = .ok (.aload_n 0, 1) := by decide +kernel
theorem dX4_rounds_1 : decode cX4_rounds 1 = .ok (.iconst 0, 1) := by decide +kernel
theorem dX4_rounds_2 : decode cX4_rounds 2 = .ok (.putfield 59, 3) := by decide +kernel
theorem dX4_rounds_5 : decode cX4_rounds 5 = .ok (.aload_n 0, 1) := by decide +kernel
theorem dX4_rounds_6 : decode cX4_rounds 6 = .ok (.getfield 136, 3) := by decide +kernel
theorem dX4_rounds_9 : decode cX4_rounds 9 = .ok (.ireturn, 1) := by decide +kernel
theorem dX4_points_0 : decode cX4_points 0 = .ok (.aload_n 0, 1) := by decide +kernel
theorem dX4_points_1 : decode cX4_points 1 = .ok (.aload_n 0, 1) := by decide +kernel
theorem dX4_points_2 : decode cX4_points 2 = .ok (.iload_n 1, 1) := by decide +kernel
theorem dX4_points_3 : decode cX4_points 3 = .ok (.invokevirtual 90, 3) := by decide +kernel
theorem dX4_points_6 : decode cX4_points 6 = .ok (.ifCond .eq 7, 3) := by decide +kernel
theorem dX4_points_9 : decode cX4_points 9 = .ok (.iconst 0, 1) := by decide +kernel
theorem dX4_points_10 : decode cX4_points 10 = .ok (.goto 4, 3) := by decide +kernel
theorem dX4_points_13 : decode cX4_points 13 = .ok (.iconst 1, 1) := by decide +kernel
theorem dX4_points_14 : decode cX4_points 14 = .ok (.putfield 59, 3) := by decide +kernel
theorem dX4_points_17 : decode cX4_points 17 = .ok (.aload_n 0, 1) := by decide +kernel
theorem dX4_points_18 : decode cX4_points 18 = .ok (.getfield 59, 3) := by decide +kernel
theorem dX4_points_21 : decode cX4_points 21 = .ok (.ifCond .le 7, 3) := by decide +kernel
theorem dX4_points_24 : decode cX4_points 24 = .ok (.iconst 0, 1) := by decide +kernel
theorem dX4_points_25 : decode cX4_points 25 = .ok (.goto 9, 3) := by decide +kernel
theorem dX4_points_28 : decode cX4_points 28 = .ok (.aload_n 0, 1) := by decide +kernel
theorem dX4_points_29 : decode cX4_points 29 = .ok (.getfield 50, 3) := by decide +kernel
theorem dX4_points_32 : decode cX4_points 32 = .ok (.iload_n 1, 1) := by decide +kernel
theorem dX4_points_33 : decode cX4_points 33 = .ok (.iaload, 1) := by decide +kernel
theorem dX4_points_34 : decode cX4_points 34 = .ok (.ireturn, 1) := by decide +kernel
theorem dX4_seat_0 : decode cX4_seat 0 = .ok (.aload_n 0, 1) := by decide +kernel
theorem dX4_seat_1 : decode cX4_seat 1 = .ok (.aload_n 0, 1) := by decide +kernel
theorem dX4_seat_2 : decode cX4_seat 2 = .ok (.iload_n 1, 1) := by decide +kernel
theorem dX4_seat_3 : decode cX4_seat 3 = .ok (.invokevirtual 90, 3) := by decide +kernel
theorem dX4_seat_6 : decode cX4_seat 6 = .ok (.ifCond .eq 11, 3) := by decide +kernel
theorem dX4_seat_9 : decode cX4_seat 9 = .ok (.aload_n 0, 1) := by decide +kernel
theorem dX4_seat_10 : decode cX4_seat 10 = .ok (.iload_n 2, 1) := by decide +kernel
theorem dX4_seat_11 : decode cX4_seat 11 = .ok (.invokevirtual 79, 3) := by decide +kernel
theorem dX4_seat_14 : decode cX4_seat 14 = .ok (.ifCond .ne 7, 3) := by decide +kernel
theorem dX4_seat_17 : decode cX4_seat 17 = .ok (.iconst 1, 1) := by decide +kernel
theorem dX4_seat_18 : decode cX4_seat 18 = .ok (.goto 4, 3) := by decide +kernel
theorem dX4_seat_21 : decode cX4_seat 21 = .ok (.iconst 0, 1) := by decide +kernel
theorem dX4_seat_22 : decode cX4_seat 22 = .ok (.putfield 59, 3) := by decide +kernel
theorem dX4_seat_25 : decode cX4_seat 25 = .ok (.iconst (-1), 1) := by decide +kernel
theorem dX4_seat_26 : decode cX4_seat 26 = .ok (.istore 4, 2) := by decide +kernel
theorem dX4_seat_28 : decode cX4_seat 28 = .ok (.iconst 0, 1) := by decide +kernel
theorem dX4_seat_29 : decode cX4_seat 29 = .ok (.istore 5, 2) := by decide +kernel
theorem dX4_seat_31 : decode cX4_seat 31 = .ok (.iload 5, 2) := by decide +kernel
theorem dX4_seat_33 : decode cX4_seat 33 = .ok (.aload_n 0, 1) := by decide +kernel
theorem dX4_seat_34 : decode cX4_seat 34 = .ok (.getfield 73, 3) := by decide +kernel
theorem dX4_seat_37 : decode cX4_seat 37 = .ok (.if_icmp .ge 62, 3) := by decide +kernel
theorem dX4_seat_40 : decode cX4_seat 40 = .ok (.aload_n 0, 1) := by decide +kernel
theorem dX4_seat_41 : decode cX4_seat 41 = .ok (.getfield 59, 3) := by decide +kernel
theorem dX4_seat_44 : decode cX4_seat 44 = .ok (.ifCond .ne 55, 3) := by decide +kernel
theorem dX4_seat_47 : decode cX4_seat 47 = .ok (.aload_n 0, 1) := by decide +kernel
theorem dX4_seat_48 : decode cX4_seat 48 = .ok (.getfield 13, 3) := by decide +kernel
theorem dX4_seat_51 : decode cX4_seat 51 = .ok (.iload 5, 2) := by decide +kernel
theorem dX4_seat_53 : decode cX4_seat 53 = .ok (.iaload, 1) := by decide +kernel
theorem dX4_seat_54 : decode cX4_seat 54 = .ok (.iload_n 2, 1) := by decide +kernel
theorem dX4_seat_55 : decode cX4_seat 55 = .ok (.if_icmp .ne 34, 3) := by decide +kernel
theorem dX4_seat_58 : decode cX4_seat 58 = .ok (.aload_n 0, 1) := by decide +kernel
theorem dX4_seat_59 : decode cX4_seat 59 = .ok (.getfield 22, 3) := by decide +kernel
theorem dX4_seat_62 : decode cX4_seat 62 = .ok (.iload 5, 2) := by decide +kernel
theorem dX4_seat_64 : decode cX4_seat 64 = .ok (.baload, 1) := by decide +kernel
theorem dX4_seat_65 : decode cX4_seat 65 = .ok (.iload_n 3, 1) := by decide +kernel
theorem dX4_seat_66 : decode cX4_seat 66 = .ok (.if_icmp .ne 23, 3) := by decide +kernel
theorem dX4_seat_69 : decode cX4_seat 69 = .ok (.aload_n 0, 1) := by decide +kernel
theorem dX4_seat_70 : decode cX4_seat 70 = .ok (.getfield 41, 3) := by decide +kernel
theorem dX4_seat_73 : decode cX4_seat 73 = .ok (.iload_n 1, 1) := by decide +kernel
theorem dX4_seat_74 : decode cX4_seat 74 = .ok (.iload 5, 2) := by decide +kernel
theorem dX4_seat_76 : decode cX4_seat 76 = .ok (.invokestatic 96, 3) := by decide +kernel
theorem dX4_seat_79 : decode cX4_seat 79 = .ok (.iaload, 1) := by decide +kernel
theorem dX4_seat_80 : decode cX4_seat 80 = .ok (.iconst (-1), 1) := by decide +kernel
theorem dX4_seat_81 : decode cX4_seat 81 = .ok (.if_icmp .eq 8, 3) := by decide +kernel
theorem dX4_seat_84 : decode cX4_seat 84 = .ok (.iload 5, 2) := by decide +kernel
theorem dX4_seat_86 : decode cX4_seat 86 = .ok (.goto 5, 3) := by decide +kernel
theorem dX4_seat_89 : decode cX4_seat 89 = .ok (.iload 4, 2) := by decide +kernel
theorem dX4_seat_91 : decode cX4_seat 91 = .ok (.istore 4, 2) := by decide +kernel
theorem dX4_seat_93 : decode cX4_seat 93 = .ok (.iinc 5 1, 3) := by decide +kernel
theorem dX4_seat_96 : decode cX4_seat 96 = .ok (.goto (-65), 3) := by decide +kernel
theorem dX4_seat_99 : decode cX4_seat 99 = .ok (.aload_n 0, 1) := by decide +kernel
theorem dX4_seat_100 : decode cX4_seat 100 = .ok (.aload_n 0, 1) := by decide +kernel
theorem dX4_seat_101 : decode cX4_seat 101 = .ok (.getfield 59, 3) := by decide +kernel
theorem dX4_seat_104 : decode cX4_seat 104 = .ok (.ifCond .ne 13, 3) := by decide +kernel
theorem dX4_seat_107 : decode cX4_seat 107 = .ok (.iload 4, 2) := by decide +kernel
theorem dX4_seat_109 : decode cX4_seat 109 = .ok (.iconst (-1), 1) := by decide +kernel
theorem dX4_seat_110 : decode cX4_seat 110 = .ok (.if_icmp .ne 7, 3) := by decide +kernel
theorem dX4_seat_113 : decode cX4_seat 113 = .ok (.iconst 2, 1) := by decide +kernel
theorem dX4_seat_114 : decode cX4_seat 114 = .ok (.goto 7, 3) := by decide +kernel
theorem dX4_seat_117 : decode cX4_seat 117 = .ok (.aload_n 0, 1) := by decide +kernel
theorem dX4_seat_118 : decode cX4_seat 118 = .ok (.getfield 59, 3) := by decide +kernel
theorem dX4_seat_121 : decode cX4_seat 121 = .ok (.putfield 59, 3) := by decide +kernel
theorem dX4_seat_124 : decode cX4_seat 124 = .ok (.aload_n 0, 1) := by decide +kernel
theorem dX4_seat_125 : decode cX4_seat 125 = .ok (.getfield 59, 3) := by decide +kernel
theorem dX4_seat_128 : decode cX4_seat 128 = .ok (.ifCond .le 7, 3) := by decide +kernel
theorem dX4_seat_131 : decode cX4_seat 131 = .ok (.iconst 0, 1) := by decide +kernel
theorem dX4_seat_132 : decode cX4_seat 132 = .ok (.goto 5, 3) := by decide +kernel
theorem dX4_seat_135 : decode cX4_seat 135 = .ok (.iload 4, 2) := by decide +kernel
theorem dX4_seat_137 : decode cX4_seat 137 = .ok (.ireturn, 1) := by decide +kernel
theorem dX4_offerAt_0 : decode cX4_offerAt 0 = .ok (.iconst (-1), 1) := by decide +kernel
theorem dX4_offerAt_1 : decode cX4_offerAt 1 = .ok (.istore_n 3, 1) := by decide +kernel
theorem dX4_offerAt_2 : decode cX4_offerAt 2 = .ok (.iconst 0, 1) := by decide +kernel
theorem dX4_offerAt_3 : decode cX4_offerAt 3 = .ok (.istore 4, 2) := by decide +kernel
theorem dX4_offerAt_5 : decode cX4_offerAt 5 = .ok (.iload 4, 2) := by decide +kernel
theorem dX4_offerAt_7 : decode cX4_offerAt 7 = .ok (.aload_n 0, 1) := by decide +kernel
theorem dX4_offerAt_8 : decode cX4_offerAt 8 = .ok (.getfield 73, 3) := by decide +kernel
theorem dX4_offerAt_11 : decode cX4_offerAt 11 = .ok (.if_icmp .ge 42, 3) := by decide +kernel
theorem dX4_offerAt_14 : decode cX4_offerAt 14 = .ok (.aload_n 0, 1) := by decide +kernel
theorem dX4_offerAt_15 : decode cX4_offerAt 15 = .ok (.getfield 16, 3) := by decide +kernel
theorem dX4_offerAt_18 : decode cX4_offerAt 18 = .ok (.iload 4, 2) := by decide +kernel
theorem dX4_offerAt_20 : decode cX4_offerAt 20 = .ok (.iaload, 1) := by decide +kernel
theorem dX4_offerAt_21 : decode cX4_offerAt 21 = .ok (.iload_n 2, 1) := by decide +kernel
theorem dX4_offerAt_22 : decode cX4_offerAt 22 = .ok (.if_icmp .ne 23, 3) := by decide +kernel
theorem dX4_offerAt_25 : decode cX4_offerAt 25 = .ok (.aload_n 0, 1) := by decide +kernel
theorem dX4_offerAt_26 : decode cX4_offerAt 26 = .ok (.getfield 41, 3) := by decide +kernel
theorem dX4_offerAt_29 : decode cX4_offerAt 29 = .ok (.iload_n 1, 1) := by decide +kernel
theorem dX4_offerAt_30 : decode cX4_offerAt 30 = .ok (.iload 4, 2) := by decide +kernel
theorem dX4_offerAt_32 : decode cX4_offerAt 32 = .ok (.invokestatic 96, 3) := by decide +kernel
theorem dX4_offerAt_35 : decode cX4_offerAt 35 = .ok (.iaload, 1) := by decide +kernel
theorem dX4_offerAt_36 : decode cX4_offerAt 36 = .ok (.iconst (-1), 1) := by decide +kernel
theorem dX4_offerAt_37 : decode cX4_offerAt 37 = .ok (.if_icmp .eq 8, 3) := by decide +kernel
theorem dX4_offerAt_40 : decode cX4_offerAt 40 = .ok (.iload 4, 2) := by decide +kernel
theorem dX4_offerAt_42 : decode cX4_offerAt 42 = .ok (.goto 4, 3) := by decide +kernel
theorem dX4_offerAt_45 : decode cX4_offerAt 45 = .ok (.iload_n 3, 1) := by decide +kernel
theorem dX4_offerAt_46 : decode cX4_offerAt 46 = .ok (.istore_n 3, 1) := by decide +kernel
theorem dX4_offerAt_47 : decode cX4_offerAt 47 = .ok (.iinc 4 1, 3) := by decide +kernel
theorem dX4_offerAt_50 : decode cX4_offerAt 50 = .ok (.goto (-45), 3) := by decide +kernel
theorem dX4_offerAt_53 : decode cX4_offerAt 53 = .ok (.iload_n 3, 1) := by decide +kernel
theorem dX4_offerAt_54 : decode cX4_offerAt 54 = .ok (.ireturn, 1) := by decide +kernel
theorem dX4_noneAt_0 : decode cX4_noneAt 0 = .ok (.aload_n 0, 1) := by decide +kernel
theorem dX4_noneAt_1 : decode cX4_noneAt 1 = .ok (.aload_n 0, 1) := by decide +kernel
theorem dX4_noneAt_2 : decode cX4_noneAt 2 = .ok (.iload_n 1, 1) := by decide +kernel
theorem dX4_noneAt_3 : decode cX4_noneAt 3 = .ok (.invokevirtual 90, 3) := by decide +kernel
theorem dX4_noneAt_6 : decode cX4_noneAt 6 = .ok (.ifCond .ne 7, 3) := by decide +kernel
theorem dX4_noneAt_9 : decode cX4_noneAt 9 = .ok (.iconst 1, 1) := by decide +kernel
theorem dX4_noneAt_10 : decode cX4_noneAt 10 = .ok (.goto 15, 3) := by decide +kernel
theorem dX4_noneAt_13 : decode cX4_noneAt 13 = .ok (.iload_n 2, 1) := by decide +kernel
theorem dX4_noneAt_14 : decode cX4_noneAt 14 = .ok (.invokestatic 83, 3) := by decide +kernel
theorem dX4_noneAt_17 : decode cX4_noneAt 17 = .ok (.ifCond .ne 7, 3) := by decide +kernel
theorem dX4_noneAt_20 : decode cX4_noneAt 20 = .ok (.iconst 2, 1) := by decide +kernel
theorem dX4_noneAt_21 : decode cX4_noneAt 21 = .ok (.goto 4, 3) := by decide +kernel
theorem dX4_noneAt_24 : decode cX4_noneAt 24 = .ok (.iconst 0, 1) := by decide +kernel
theorem dX4_noneAt_25 : decode cX4_noneAt 25 = .ok (.putfield 59, 3) := by decide +kernel
theorem dX4_noneAt_28 : decode cX4_noneAt 28 = .ok (.aload_n 0, 1) := by decide +kernel
theorem dX4_noneAt_29 : decode cX4_noneAt 29 = .ok (.getfield 59, 3) := by decide +kernel
theorem dX4_noneAt_32 : decode cX4_noneAt 32 = .ok (.ifCond .ne 22, 3) := by decide +kernel
theorem dX4_noneAt_35 : decode cX4_noneAt 35 = .ok (.aload_n 0, 1) := by decide +kernel
theorem dX4_noneAt_36 : decode cX4_noneAt 36 = .ok (.aload_n 0, 1) := by decide +kernel
theorem dX4_noneAt_37 : decode cX4_noneAt 37 = .ok (.iload_n 1, 1) := by decide +kernel
theorem dX4_noneAt_38 : decode cX4_noneAt 38 = .ok (.iload_n 2, 1) := by decide +kernel
theorem dX4_noneAt_39 : decode cX4_noneAt 39 = .ok (.invokevirtual 153, 3) := by decide +kernel
theorem dX4_noneAt_42 : decode cX4_noneAt 42 = .ok (.iconst (-1), 1) := by decide +kernel
theorem dX4_noneAt_43 : decode cX4_noneAt 43 = .ok (.if_icmp .ne 7, 3) := by decide +kernel
theorem dX4_noneAt_46 : decode cX4_noneAt 46 = .ok (.iconst 3, 1) := by decide +kernel
theorem dX4_noneAt_47 : decode cX4_noneAt 47 = .ok (.goto 4, 3) := by decide +kernel
theorem dX4_noneAt_50 : decode cX4_noneAt 50 = .ok (.iconst 0, 1) := by decide +kernel
theorem dX4_noneAt_51 : decode cX4_noneAt 51 = .ok (.putfield 59, 3) := by decide +kernel
theorem dX4_noneAt_54 : decode cX4_noneAt 54 = .ok (.aload_n 0, 1) := by decide +kernel
theorem dX4_noneAt_55 : decode cX4_noneAt 55 = .ok (.getfield 59, 3) := by decide +kernel
theorem dX4_noneAt_58 : decode cX4_noneAt 58 = .ok (.ifCond .le 7, 3) := by decide +kernel
theorem dX4_noneAt_61 : decode cX4_noneAt 61 = .ok (.iconst 1, 1) := by decide +kernel
theorem dX4_noneAt_62 : decode cX4_noneAt 62 = .ok (.goto 4, 3) := by decide +kernel
theorem dX4_noneAt_65 : decode cX4_noneAt 65 = .ok (.iconst 0, 1) := by decide +kernel
theorem dX4_noneAt_66 : decode cX4_noneAt 66 = .ok (.ireturn, 1) := by decide +kernel
theorem dX4_at_0 : decode cX4_at 0 = .ok (.aload_n 0, 1) := by decide +kernel
theorem dX4_at_1 : decode cX4_at 1 = .ok (.iload_n 1, 1) := by decide +kernel
theorem dX4_at_2 : decode cX4_at 2 = .ok (.iload_n 2, 1) := by decide +kernel
theorem dX4_at_3 : decode cX4_at 3 = .ok (.invokevirtual 156, 3) := by decide +kernel
theorem dX4_at_6 : decode cX4_at 6 = .ok (.ifCond .eq 7, 3) := by decide +kernel
theorem dX4_at_9 : decode cX4_at 9 = .ok (.iconst 0, 1) := by decide +kernel
theorem dX4_at_10 : decode cX4_at 10 = .ok (.goto 14, 3) := by decide +kernel
theorem dX4_at_13 : decode cX4_at 13 = .ok (.aload_n 0, 1) := by decide +kernel
theorem dX4_at_14 : decode cX4_at 14 = .ok (.getfield 13, 3) := by decide +kernel
theorem dX4_at_17 : decode cX4_at 17 = .ok (.aload_n 0, 1) := by decide +kernel
theorem dX4_at_18 : decode cX4_at 18 = .ok (.iload_n 1, 1) := by decide +kernel
theorem dX4_at_19 : decode cX4_at 19 = .ok (.iload_n 2, 1) := by decide +kernel
theorem dX4_at_20 : decode cX4_at 20 = .ok (.invokevirtual 153, 3) := by decide +kernel
theorem dX4_at_23 : decode cX4_at 23 = .ok (.iaload, 1) := by decide +kernel
theorem dX4_at_24 : decode cX4_at 24 = .ok (.ireturn, 1) := by decide +kernel
theorem dX4_holders_0 : decode cX4_holders 0 = .ok (.aload_n 0, 1) := by decide +kernel
theorem dX4_holders_1 : decode cX4_holders 1 = .ok (.aload_n 0, 1) := by decide +kernel
theorem dX4_holders_2 : decode cX4_holders 2 = .ok (.iload_n 1, 1) := by decide +kernel
theorem dX4_holders_3 : decode cX4_holders 3 = .ok (.invokevirtual 93, 3) := by decide +kernel
theorem dX4_holders_6 : decode cX4_holders 6 = .ok (.ifCond .eq 7, 3) := by decide +kernel
theorem dX4_holders_9 : decode cX4_holders 9 = .ok (.iconst 0, 1) := by decide +kernel
theorem dX4_holders_10 : decode cX4_holders 10 = .ok (.goto 4, 3) := by decide +kernel
theorem dX4_holders_13 : decode cX4_holders 13 = .ok (.iconst 1, 1) := by decide +kernel
theorem dX4_holders_14 : decode cX4_holders 14 = .ok (.putfield 59, 3) := by decide +kernel
theorem dX4_holders_17 : decode cX4_holders 17 = .ok (.aload_n 0, 1) := by decide +kernel
theorem dX4_holders_18 : decode cX4_holders 18 = .ok (.getfield 59, 3) := by decide +kernel
theorem dX4_holders_21 : decode cX4_holders 21 = .ok (.ifCond .le 7, 3) := by decide +kernel
theorem dX4_holders_24 : decode cX4_holders 24 = .ok (.iconst 0, 1) := by decide +kernel
theorem dX4_holders_25 : decode cX4_holders 25 = .ok (.goto 8, 3) := by decide +kernel
theorem dX4_holders_28 : decode cX4_holders 28 = .ok (.aload_n 0, 1) := by decide +kernel
theorem dX4_holders_29 : decode cX4_holders 29 = .ok (.iload_n 1, 1) := by decide +kernel
theorem dX4_holders_30 : decode cX4_holders 30 = .ok (.invokevirtual 119, 3) := by decide +kernel
theorem dX4_holders_33 : decode cX4_holders 33 = .ok (.ireturn, 1) := by decide +kernel
theorem dX4_holder_0 : decode cX4_holder 0 = .ok (.aload_n 0, 1) := by decide +kernel
theorem dX4_holder_1 : decode cX4_holder 1 = .ok (.aload_n 0, 1) := by decide +kernel
theorem dX4_holder_2 : decode cX4_holder 2 = .ok (.iload_n 1, 1) := by decide +kernel
theorem dX4_holder_3 : decode cX4_holder 3 = .ok (.invokevirtual 93, 3) := by decide +kernel
theorem dX4_holder_6 : decode cX4_holder 6 = .ok (.ifCond .eq 7, 3) := by decide +kernel
theorem dX4_holder_9 : decode cX4_holder 9 = .ok (.iconst 0, 1) := by decide +kernel
theorem dX4_holder_10 : decode cX4_holder 10 = .ok (.goto 4, 3) := by decide +kernel
theorem dX4_holder_13 : decode cX4_holder 13 = .ok (.iconst 1, 1) := by decide +kernel
theorem dX4_holder_14 : decode cX4_holder 14 = .ok (.putfield 59, 3) := by decide +kernel
theorem dX4_holder_17 : decode cX4_holder 17 = .ok (.iconst (-1), 1) := by decide +kernel
theorem dX4_holder_18 : decode cX4_holder 18 = .ok (.istore_n 3, 1) := by decide +kernel
theorem dX4_holder_19 : decode cX4_holder 19 = .ok (.iload_n 2, 1) := by decide +kernel
theorem dX4_holder_20 : decode cX4_holder 20 = .ok (.istore 4, 2) := by decide +kernel
theorem dX4_holder_22 : decode cX4_holder 22 = .ok (.iconst 0, 1) := by decide +kernel
theorem dX4_holder_23 : decode cX4_holder 23 = .ok (.istore 5, 2) := by decide +kernel
theorem dX4_holder_25 : decode cX4_holder 25 = .ok (.iload 5, 2) := by decide +kernel
theorem dX4_holder_27 : decode cX4_holder 27 = .ok (.aload_n 0, 1) := by decide +kernel
theorem dX4_holder_28 : decode cX4_holder 28 = .ok (.getfield 63, 3) := by decide +kernel
theorem dX4_holder_31 : decode cX4_holder 31 = .ok (.if_icmp .ge 70, 3) := by decide +kernel
theorem dX4_holder_34 : decode cX4_holder 34 = .ok (.aload_n 0, 1) := by decide +kernel
theorem dX4_holder_35 : decode cX4_holder 35 = .ok (.getfield 59, 3) := by decide +kernel
theorem dX4_holder_38 : decode cX4_holder 38 = .ok (.ifCond .ne 63, 3) := by decide +kernel
theorem dX4_holder_41 : decode cX4_holder 41 = .ok (.aload_n 0, 1) := by decide +kernel
theorem dX4_holder_42 : decode cX4_holder 42 = .ok (.getfield 41, 3) := by decide +kernel
theorem dX4_holder_45 : decode cX4_holder 45 = .ok (.iload 5, 2) := by decide +kernel
theorem dX4_holder_47 : decode cX4_holder 47 = .ok (.iload_n 1, 1) := by decide +kernel
theorem dX4_holder_48 : decode cX4_holder 48 = .ok (.invokestatic 96, 3) := by decide +kernel
theorem dX4_holder_51 : decode cX4_holder 51 = .ok (.iaload, 1) := by decide +kernel
theorem dX4_holder_52 : decode cX4_holder 52 = .ok (.iconst (-1), 1) := by decide +kernel
theorem dX4_holder_53 : decode cX4_holder 53 = .ok (.if_icmp .eq 7, 3) := by decide +kernel
theorem dX4_holder_56 : decode cX4_holder 56 = .ok (.iconst 1, 1) := by decide +kernel
theorem dX4_holder_57 : decode cX4_holder 57 = .ok (.goto 4, 3) := by decide +kernel
theorem dX4_holder_60 : decode cX4_holder 60 = .ok (.iconst 0, 1) := by decide +kernel
theorem dX4_holder_61 : decode cX4_holder 61 = .ok (.istore 6, 2) := by decide +kernel
theorem dX4_holder_63 : decode cX4_holder 63 = .ok (.iload 6, 2) := by decide +kernel
theorem dX4_holder_65 : decode cX4_holder 65 = .ok (.ifCond .eq 13, 3) := by decide +kernel
theorem dX4_holder_68 : decode cX4_holder 68 = .ok (.iload 4, 2) := by decide +kernel
theorem dX4_holder_70 : decode cX4_holder 70 = .ok (.ifCond .ne 8, 3) := by decide +kernel
theorem dX4_holder_73 : decode cX4_holder 73 = .ok (.iload 5, 2) := by decide +kernel
theorem dX4_holder_75 : decode cX4_holder 75 = .ok (.goto 4, 3) := by decide +kernel
theorem dX4_holder_78 : decode cX4_holder 78 = .ok (.iload_n 3, 1) := by decide +kernel
theorem dX4_holder_79 : decode cX4_holder 79 = .ok (.istore_n 3, 1) := by decide +kernel
theorem dX4_holder_80 : decode cX4_holder 80 = .ok (.iload 4, 2) := by decide +kernel
theorem dX4_holder_82 : decode cX4_holder 82 = .ok (.iload 6, 2) := by decide +kernel
theorem dX4_holder_84 : decode cX4_holder 84 = .ok (.ifCond .eq 7, 3) := by decide +kernel
theorem dX4_holder_87 : decode cX4_holder 87 = .ok (.iconst 1, 1) := by decide +kernel
theorem dX4_holder_88 : decode cX4_holder 88 = .ok (.goto 4, 3) := by decide +kernel
theorem dX4_holder_91 : decode cX4_holder 91 = .ok (.iconst 0, 1) := by decide +kernel
theorem dX4_holder_92 : decode cX4_holder 92 = .ok (.isub, 1) := by decide +kernel
theorem dX4_holder_93 : decode cX4_holder 93 = .ok (.istore 4, 2) := by decide +kernel
theorem dX4_holder_95 : decode cX4_holder 95 = .ok (.iinc 5 1, 3) := by decide +kernel
theorem dX4_holder_98 : decode cX4_holder 98 = .ok (.goto (-73), 3) := by decide +kernel
theorem dX4_holder_101 : decode cX4_holder 101 = .ok (.aload_n 0, 1) := by decide +kernel
theorem dX4_holder_102 : decode cX4_holder 102 = .ok (.aload_n 0, 1) := by decide +kernel
theorem dX4_holder_103 : decode cX4_holder 103 = .ok (.getfield 59, 3) := by decide +kernel
theorem dX4_holder_106 : decode cX4_holder 106 = .ok (.ifCond .ne 16, 3) := by decide +kernel
theorem dX4_holder_109 : decode cX4_holder 109 = .ok (.iload_n 2, 1) := by decide +kernel
theorem dX4_holder_110 : decode cX4_holder 110 = .ok (.ifCond .lt 8, 3) := by decide +kernel
theorem dX4_holder_113 : decode cX4_holder 113 = .ok (.iload_n 3, 1) := by decide +kernel
theorem dX4_holder_114 : decode cX4_holder 114 = .ok (.iconst (-1), 1) := by decide +kernel
theorem dX4_holder_115 : decode cX4_holder 115 = .ok (.if_icmp .ne 7, 3) := by decide +kernel
theorem dX4_holder_118 : decode cX4_holder 118 = .ok (.iconst 2, 1) := by decide +kernel
theorem dX4_holder_119 : decode cX4_holder 119 = .ok (.goto 7, 3) := by decide +kernel
theorem dX4_holder_122 : decode cX4_holder 122 = .ok (.aload_n 0, 1) := by decide +kernel
theorem dX4_holder_123 : decode cX4_holder 123 = .ok (.getfield 59, 3) := by decide +kernel
theorem dX4_holder_126 : decode cX4_holder 126 = .ok (.putfield 59, 3) := by decide +kernel
theorem dX4_holder_129 : decode cX4_holder 129 = .ok (.aload_n 0, 1) := by decide +kernel
theorem dX4_holder_130 : decode cX4_holder 130 = .ok (.getfield 59, 3) := by decide +kernel
theorem dX4_holder_133 : decode cX4_holder 133 = .ok (.ifCond .le 7, 3) := by decide +kernel
theorem dX4_holder_136 : decode cX4_holder 136 = .ok (.iconst 0, 1) := by decide +kernel
theorem dX4_holder_137 : decode cX4_holder 137 = .ok (.goto 4, 3) := by decide +kernel
theorem dX4_holder_140 : decode cX4_holder 140 = .ok (.iload_n 3, 1) := by decide +kernel
theorem dX4_holder_141 : decode cX4_holder 141 = .ok (.ireturn, 1) := by decide +kernel
theorem dX4_paid_0 : decode cX4_paid 0 = .ok (.aload_n 0, 1) := by decide +kernel
theorem dX4_paid_1 : decode cX4_paid 1 = .ok (.aload_n 0, 1) := by decide +kernel
theorem dX4_paid_2 : decode cX4_paid 2 = .ok (.iload_n 1, 1) := by decide +kernel
theorem dX4_paid_3 : decode cX4_paid 3 = .ok (.invokevirtual 90, 3) := by decide +kernel
theorem dX4_paid_6 : decode cX4_paid 6 = .ok (.ifCond .eq 11, 3) := by decide +kernel
theorem dX4_paid_9 : decode cX4_paid 9 = .ok (.aload_n 0, 1) := by decide +kernel
theorem dX4_paid_10 : decode cX4_paid 10 = .ok (.iload_n 2, 1) := by decide +kernel
theorem dX4_paid_11 : decode cX4_paid 11 = .ok (.invokevirtual 93, 3) := by decide +kernel
theorem dX4_paid_14 : decode cX4_paid 14 = .ok (.ifCond .ne 7, 3) := by decide +kernel
theorem dX4_paid_17 : decode cX4_paid 17 = .ok (.iconst 1, 1) := by decide +kernel
theorem dX4_paid_18 : decode cX4_paid 18 = .ok (.goto 4, 3) := by decide +kernel
theorem dX4_paid_21 : decode cX4_paid 21 = .ok (.iconst 0, 1) := by decide +kernel
theorem dX4_paid_22 : decode cX4_paid 22 = .ok (.putfield 59, 3) := by decide +kernel
theorem dX4_paid_25 : decode cX4_paid 25 = .ok (.aload_n 0, 1) := by decide +kernel
theorem dX4_paid_26 : decode cX4_paid 26 = .ok (.getfield 59, 3) := by decide +kernel
theorem dX4_paid_29 : decode cX4_paid 29 = .ok (.ifCond .ne 26, 3) := by decide +kernel
theorem dX4_paid_32 : decode cX4_paid 32 = .ok (.aload_n 0, 1) := by decide +kernel
theorem dX4_paid_33 : decode cX4_paid 33 = .ok (.aload_n 0, 1) := by decide +kernel
theorem dX4_paid_34 : decode cX4_paid 34 = .ok (.getfield 41, 3) := by decide +kernel
theorem dX4_paid_37 : decode cX4_paid 37 = .ok (.iload_n 1, 1) := by decide +kernel
theorem dX4_paid_38 : decode cX4_paid 38 = .ok (.iload_n 2, 1) := by decide +kernel
theorem dX4_paid_39 : decode cX4_paid 39 = .ok (.invokestatic 96, 3) := by decide +kernel
theorem dX4_paid_42 : decode cX4_paid 42 = .ok (.iaload, 1) := by decide +kernel
theorem dX4_paid_43 : decode cX4_paid 43 = .ok (.iconst (-1), 1) := by decide +kernel
theorem dX4_paid_44 : decode cX4_paid 44 = .ok (.if_icmp .ne 7, 3) := by decide +kernel
theorem dX4_paid_47 : decode cX4_paid 47 = .ok (.iconst 2, 1) := by decide +kernel
theorem dX4_paid_48 : decode cX4_paid 48 = .ok (.goto 4, 3) := by decide +kernel
theorem dX4_paid_51 : decode cX4_paid 51 = .ok (.iconst 0, 1) := by decide +kernel
theorem dX4_paid_52 : decode cX4_paid 52 = .ok (.putfield 59, 3) := by decide +kernel
theorem dX4_paid_55 : decode cX4_paid 55 = .ok (.aload_n 0, 1) := by decide +kernel
theorem dX4_paid_56 : decode cX4_paid 56 = .ok (.getfield 59, 3) := by decide +kernel
theorem dX4_paid_59 : decode cX4_paid 59 = .ok (.ifCond .le 7, 3) := by decide +kernel
theorem dX4_paid_62 : decode cX4_paid 62 = .ok (.iconst 0, 1) := by decide +kernel
theorem dX4_paid_63 : decode cX4_paid 63 = .ok (.goto 13, 3) := by decide +kernel
theorem dX4_paid_66 : decode cX4_paid 66 = .ok (.aload_n 0, 1) := by decide +kernel
theorem dX4_paid_67 : decode cX4_paid 67 = .ok (.getfield 41, 3) := by decide +kernel
theorem dX4_paid_70 : decode cX4_paid 70 = .ok (.iload_n 1, 1) := by decide +kernel
theorem dX4_paid_71 : decode cX4_paid 71 = .ok (.iload_n 2, 1) := by decide +kernel
theorem dX4_paid_72 : decode cX4_paid 72 = .ok (.invokestatic 96, 3) := by decide +kernel
theorem dX4_paid_75 : decode cX4_paid 75 = .ok (.iaload, 1) := by decide +kernel
theorem dX4_paid_76 : decode cX4_paid 76 = .ok (.ireturn, 1) := by decide +kernel
theorem dX4_waiting_0 : decode cX4_waiting 0 = .ok (.aload_n 0, 1) := by decide +kernel
theorem dX4_waiting_1 : decode cX4_waiting 1 = .ok (.aload_n 0, 1) := by decide +kernel
theorem dX4_waiting_2 : decode cX4_waiting 2 = .ok (.iload_n 1, 1) := by decide +kernel
theorem dX4_waiting_3 : decode cX4_waiting 3 = .ok (.invokevirtual 93, 3) := by decide +kernel
theorem dX4_waiting_6 : decode cX4_waiting 6 = .ok (.ifCond .eq 7, 3) := by decide +kernel
theorem dX4_waiting_9 : decode cX4_waiting 9 = .ok (.iconst 0, 1) := by decide +kernel
theorem dX4_waiting_10 : decode cX4_waiting 10 = .ok (.goto 4, 3) := by decide +kernel
theorem dX4_waiting_13 : decode cX4_waiting 13 = .ok (.iconst 1, 1) := by decide +kernel
theorem dX4_waiting_14 : decode cX4_waiting 14 = .ok (.putfield 59, 3) := by decide +kernel
theorem dX4_waiting_17 : decode cX4_waiting 17 = .ok (.aload_n 0, 1) := by decide +kernel
theorem dX4_waiting_18 : decode cX4_waiting 18 = .ok (.getfield 59, 3) := by decide +kernel
theorem dX4_waiting_21 : decode cX4_waiting 21 = .ok (.ifCond .le 7, 3) := by decide +kernel
theorem dX4_waiting_24 : decode cX4_waiting 24 = .ok (.iconst 0, 1) := by decide +kernel
theorem dX4_waiting_25 : decode cX4_waiting 25 = .ok (.goto 9, 3) := by decide +kernel
theorem dX4_waiting_28 : decode cX4_waiting 28 = .ok (.aload_n 0, 1) := by decide +kernel
theorem dX4_waiting_29 : decode cX4_waiting 29 = .ok (.getfield 26, 3) := by decide +kernel
theorem dX4_waiting_32 : decode cX4_waiting 32 = .ok (.iload_n 1, 1) := by decide +kernel
theorem dX4_waiting_33 : decode cX4_waiting 33 = .ok (.iaload, 1) := by decide +kernel
theorem dX4_waiting_34 : decode cX4_waiting 34 = .ok (.ireturn, 1) := by decide +kernel
theorem dX4_waiter_0 : decode cX4_waiter 0 = .ok (.aload_n 0, 1) := by decide +kernel
theorem dX4_waiter_1 : decode cX4_waiter 1 = .ok (.aload_n 0, 1) := by decide +kernel
theorem dX4_waiter_2 : decode cX4_waiter 2 = .ok (.iload_n 1, 1) := by decide +kernel
theorem dX4_waiter_3 : decode cX4_waiter 3 = .ok (.invokevirtual 93, 3) := by decide +kernel
theorem dX4_waiter_6 : decode cX4_waiter 6 = .ok (.ifCond .eq 7, 3) := by decide +kernel
theorem dX4_waiter_9 : decode cX4_waiter 9 = .ok (.iconst 0, 1) := by decide +kernel
theorem dX4_waiter_10 : decode cX4_waiter 10 = .ok (.goto 4, 3) := by decide +kernel
theorem dX4_waiter_13 : decode cX4_waiter 13 = .ok (.iconst 1, 1) := by decide +kernel
theorem dX4_waiter_14 : decode cX4_waiter 14 = .ok (.putfield 59, 3) := by decide +kernel
theorem dX4_waiter_17 : decode cX4_waiter 17 = .ok (.aload_n 0, 1) := by decide +kernel
theorem dX4_waiter_18 : decode cX4_waiter 18 = .ok (.getfield 59, 3) := by decide +kernel
theorem dX4_waiter_21 : decode cX4_waiter 21 = .ok (.ifCond .ne 28, 3) := by decide +kernel
theorem dX4_waiter_24 : decode cX4_waiter 24 = .ok (.aload_n 0, 1) := by decide +kernel
theorem dX4_waiter_25 : decode cX4_waiter 25 = .ok (.iload_n 2, 1) := by decide +kernel
theorem dX4_waiter_26 : decode cX4_waiter 26 = .ok (.iconst 0, 1) := by decide +kernel
theorem dX4_waiter_27 : decode cX4_waiter 27 = .ok (.aload_n 0, 1) := by decide +kernel
theorem dX4_waiter_28 : decode cX4_waiter 28 = .ok (.getfield 26, 3) := by decide +kernel
theorem dX4_waiter_31 : decode cX4_waiter 31 = .ok (.iload_n 1, 1) := by decide +kernel
theorem dX4_waiter_32 : decode cX4_waiter 32 = .ok (.iaload, 1) := by decide +kernel
theorem dX4_waiter_33 : decode cX4_waiter 33 = .ok (.iconst 1, 1) := by decide +kernel
theorem dX4_waiter_34 : decode cX4_waiter 34 = .ok (.isub, 1) := by decide +kernel
theorem dX4_waiter_35 : decode cX4_waiter 35 = .ok (.invokestatic 66, 3) := by decide +kernel
theorem dX4_waiter_38 : decode cX4_waiter 38 = .ok (.ifCond .eq 7, 3) := by decide +kernel
theorem dX4_waiter_41 : decode cX4_waiter 41 = .ok (.iconst 0, 1) := by decide +kernel
theorem dX4_waiter_42 : decode cX4_waiter 42 = .ok (.goto 4, 3) := by decide +kernel
theorem dX4_waiter_45 : decode cX4_waiter 45 = .ok (.iconst 2, 1) := by decide +kernel
theorem dX4_waiter_46 : decode cX4_waiter 46 = .ok (.putfield 59, 3) := by decide +kernel
theorem dX4_waiter_49 : decode cX4_waiter 49 = .ok (.aload_n 0, 1) := by decide +kernel
theorem dX4_waiter_50 : decode cX4_waiter 50 = .ok (.getfield 59, 3) := by decide +kernel
theorem dX4_waiter_53 : decode cX4_waiter 53 = .ok (.ifCond .le 7, 3) := by decide +kernel
theorem dX4_waiter_56 : decode cX4_waiter 56 = .ok (.iconst 0, 1) := by decide +kernel
theorem dX4_waiter_57 : decode cX4_waiter 57 = .ok (.goto 14, 3) := by decide +kernel
theorem dX4_waiter_60 : decode cX4_waiter 60 = .ok (.aload_n 0, 1) := by decide +kernel
theorem dX4_waiter_61 : decode cX4_waiter 61 = .ok (.getfield 29, 3) := by decide +kernel
theorem dX4_waiter_64 : decode cX4_waiter 64 = .ok (.bipush 10, 2) := by decide +kernel
theorem dX4_waiter_66 : decode cX4_waiter 66 = .ok (.iload_n 1, 1) := by decide +kernel
theorem dX4_waiter_67 : decode cX4_waiter 67 = .ok (.imul, 1) := by decide +kernel
theorem dX4_waiter_68 : decode cX4_waiter 68 = .ok (.iload_n 2, 1) := by decide +kernel
theorem dX4_waiter_69 : decode cX4_waiter 69 = .ok (.iadd, 1) := by decide +kernel
theorem dX4_waiter_70 : decode cX4_waiter 70 = .ok (.iaload, 1) := by decide +kernel
theorem dX4_waiter_71 : decode cX4_waiter 71 = .ok (.ireturn, 1) := by decide +kernel
theorem dX4_movesUp_0 : decode cX4_movesUp 0 = .ok (.aload_n 0, 1) := by decide +kernel
theorem dX4_movesUp_1 : decode cX4_movesUp 1 = .ok (.getfield 53, 3) := by decide +kernel
theorem dX4_movesUp_4 : decode cX4_movesUp 4 = .ok (.aload_n 0, 1) := by decide +kernel
theorem dX4_movesUp_5 : decode cX4_movesUp 5 = .ok (.getfield 16, 3) := by decide +kernel
theorem dX4_movesUp_8 : decode cX4_movesUp 8 = .ok (.iload_n 1, 1) := by decide +kernel
theorem dX4_movesUp_9 : decode cX4_movesUp 9 = .ok (.iaload, 1) := by decide +kernel
theorem dX4_movesUp_10 : decode cX4_movesUp 10 = .ok (.baload, 1) := by decide +kernel
theorem dX4_movesUp_11 : decode cX4_movesUp 11 = .ok (.ifCond .ne 11, 3) := by decide +kernel
theorem dX4_movesUp_14 : decode cX4_movesUp 14 = .ok (.aload_n 0, 1) := by decide +kernel
theorem dX4_movesUp_15 : decode cX4_movesUp 15 = .ok (.iload_n 1, 1) := by decide +kernel
theorem dX4_movesUp_16 : decode cX4_movesUp 16 = .ok (.invokevirtual 146, 3) := by decide +kernel
theorem dX4_movesUp_19 : decode cX4_movesUp 19 = .ok (.ifCond .ne 5, 3) := by decide +kernel
theorem dX4_movesUp_22 : decode cX4_movesUp 22 = .ok (.iconst (-1), 1) := by decide +kernel
theorem dX4_movesUp_23 : decode cX4_movesUp 23 = .ok (.ireturn, 1) := by decide +kernel
theorem dX4_movesUp_24 : decode cX4_movesUp 24 = .ok (.iconst 0, 1) := by decide +kernel
theorem dX4_movesUp_25 : decode cX4_movesUp 25 = .ok (.istore_n 2, 1) := by decide +kernel
theorem dX4_movesUp_26 : decode cX4_movesUp 26 = .ok (.iload_n 2, 1) := by decide +kernel
theorem dX4_movesUp_27 : decode cX4_movesUp 27 = .ok (.aload_n 0, 1) := by decide +kernel
theorem dX4_movesUp_28 : decode cX4_movesUp 28 = .ok (.getfield 26, 3) := by decide +kernel
theorem dX4_movesUp_31 : decode cX4_movesUp 31 = .ok (.iload_n 1, 1) := by decide +kernel
theorem dX4_movesUp_32 : decode cX4_movesUp 32 = .ok (.iaload, 1) := by decide +kernel
theorem dX4_movesUp_33 : decode cX4_movesUp 33 = .ok (.if_icmp .ge 39, 3) := by decide +kernel
theorem dX4_movesUp_36 : decode cX4_movesUp 36 = .ok (.aload_n 0, 1) := by decide +kernel
theorem dX4_movesUp_37 : decode cX4_movesUp 37 = .ok (.aload_n 0, 1) := by decide +kernel
theorem dX4_movesUp_38 : decode cX4_movesUp 38 = .ok (.getfield 29, 3) := by decide +kernel
theorem dX4_movesUp_41 : decode cX4_movesUp 41 = .ok (.bipush 10, 2) := by decide +kernel
theorem dX4_movesUp_43 : decode cX4_movesUp 43 = .ok (.iload_n 1, 1) := by decide +kernel
theorem dX4_movesUp_44 : decode cX4_movesUp 44 = .ok (.imul, 1) := by decide +kernel
theorem dX4_movesUp_45 : decode cX4_movesUp 45 = .ok (.iload_n 2, 1) := by decide +kernel
theorem dX4_movesUp_46 : decode cX4_movesUp 46 = .ok (.iadd, 1) := by decide +kernel
theorem dX4_movesUp_47 : decode cX4_movesUp 47 = .ok (.iaload, 1) := by decide +kernel
theorem dX4_movesUp_48 : decode cX4_movesUp 48 = .ok (.iload_n 1, 1) := by decide +kernel
theorem dX4_movesUp_49 : decode cX4_movesUp 49 = .ok (.aload_n 0, 1) := by decide +kernel
theorem dX4_movesUp_50 : decode cX4_movesUp 50 = .ok (.getfield 32, 3) := by decide +kernel
theorem dX4_movesUp_53 : decode cX4_movesUp 53 = .ok (.bipush 10, 2) := by decide +kernel
theorem dX4_movesUp_55 : decode cX4_movesUp 55 = .ok (.iload_n 1, 1) := by decide +kernel
theorem dX4_movesUp_56 : decode cX4_movesUp 56 = .ok (.imul, 1) := by decide +kernel
theorem dX4_movesUp_57 : decode cX4_movesUp 57 = .ok (.iload_n 2, 1) := by decide +kernel
theorem dX4_movesUp_58 : decode cX4_movesUp 58 = .ok (.iadd, 1) := by decide +kernel
theorem dX4_movesUp_59 : decode cX4_movesUp 59 = .ok (.iaload, 1) := by decide +kernel
theorem dX4_movesUp_60 : decode cX4_movesUp 60 = .ok (.invokevirtual 143, 3) := by decide +kernel
theorem dX4_movesUp_63 : decode cX4_movesUp 63 = .ok (.ifCond .ne 9, 3) := by decide +kernel
theorem dX4_movesUp_66 : decode cX4_movesUp 66 = .ok (.iinc 2 1, 3) := by decide +kernel
theorem dX4_movesUp_69 : decode cX4_movesUp 69 = .ok (.goto (-43), 3) := by decide +kernel
theorem dX4_movesUp_72 : decode cX4_movesUp 72 = .ok (.iload_n 2, 1) := by decide +kernel
theorem dX4_movesUp_73 : decode cX4_movesUp 73 = .ok (.aload_n 0, 1) := by decide +kernel
theorem dX4_movesUp_74 : decode cX4_movesUp 74 = .ok (.getfield 26, 3) := by decide +kernel
theorem dX4_movesUp_77 : decode cX4_movesUp 77 = .ok (.iload_n 1, 1) := by decide +kernel
theorem dX4_movesUp_78 : decode cX4_movesUp 78 = .ok (.iaload, 1) := by decide +kernel
theorem dX4_movesUp_79 : decode cX4_movesUp 79 = .ok (.if_icmp .ne 5, 3) := by decide +kernel
theorem dX4_movesUp_82 : decode cX4_movesUp 82 = .ok (.iconst (-1), 1) := by decide +kernel
theorem dX4_movesUp_83 : decode cX4_movesUp 83 = .ok (.ireturn, 1) := by decide +kernel
theorem dX4_movesUp_84 : decode cX4_movesUp 84 = .ok (.aload_n 0, 1) := by decide +kernel
theorem dX4_movesUp_85 : decode cX4_movesUp 85 = .ok (.getfield 29, 3) := by decide +kernel
theorem dX4_movesUp_88 : decode cX4_movesUp 88 = .ok (.bipush 10, 2) := by decide +kernel
theorem dX4_movesUp_90 : decode cX4_movesUp 90 = .ok (.iload_n 1, 1) := by decide +kernel
theorem dX4_movesUp_91 : decode cX4_movesUp 91 = .ok (.imul, 1) := by decide +kernel
theorem dX4_movesUp_92 : decode cX4_movesUp 92 = .ok (.iload_n 2, 1) := by decide +kernel
theorem dX4_movesUp_93 : decode cX4_movesUp 93 = .ok (.iadd, 1) := by decide +kernel
theorem dX4_movesUp_94 : decode cX4_movesUp 94 = .ok (.iaload, 1) := by decide +kernel
theorem dX4_movesUp_95 : decode cX4_movesUp 95 = .ok (.istore_n 3, 1) := by decide +kernel
theorem dX4_movesUp_96 : decode cX4_movesUp 96 = .ok (.aload_n 0, 1) := by decide +kernel
theorem dX4_movesUp_97 : decode cX4_movesUp 97 = .ok (.iload_n 3, 1) := by decide +kernel
theorem dX4_movesUp_98 : decode cX4_movesUp 98 = .ok (.iload_n 1, 1) := by decide +kernel
theorem dX4_movesUp_99 : decode cX4_movesUp 99 = .ok (.aload_n 0, 1) := by decide +kernel
theorem dX4_movesUp_100 : decode cX4_movesUp 100 = .ok (.getfield 32, 3) := by decide +kernel
theorem dX4_movesUp_103 : decode cX4_movesUp 103 = .ok (.bipush 10, 2) := by decide +kernel
theorem dX4_movesUp_105 : decode cX4_movesUp 105 = .ok (.iload_n 1, 1) := by decide +kernel
theorem dX4_movesUp_106 : decode cX4_movesUp 106 = .ok (.imul, 1) := by decide +kernel
theorem dX4_movesUp_107 : decode cX4_movesUp 107 = .ok (.iload_n 2, 1) := by decide +kernel
theorem dX4_movesUp_108 : decode cX4_movesUp 108 = .ok (.iadd, 1) := by decide +kernel
theorem dX4_movesUp_109 : decode cX4_movesUp 109 = .ok (.iaload, 1) := by decide +kernel
theorem dX4_movesUp_110 : decode cX4_movesUp 110 = .ok (.invokevirtual 149, 3) := by decide +kernel
theorem dX4_movesUp_113 : decode cX4_movesUp 113 = .ok (.iload_n 3, 1) := by decide +kernel
theorem dX4_movesUp_114 : decode cX4_movesUp 114 = .ok (.ireturn, 1) := by decide +kernel
theorem dX4_bring_0 : decode cX4_bring 0 = .ok (.aload_n 0, 1) := by decide +kernel
theorem dX4_bring_1 : decode cX4_bring 1 = .ok (.getfield 50, 3) := by decide +kernel
theorem dX4_bring_4 : decode cX4_bring 4 = .ok (.iload_n 1, 1) := by decide +kernel
theorem dX4_bring_5 : decode cX4_bring 5 = .ok (.dup2, 1) := by decide +kernel
theorem dX4_bring_6 : decode cX4_bring 6 = .ok (.iaload, 1) := by decide +kernel
theorem dX4_bring_7 : decode cX4_bring 7 = .ok (.iload_n 2, 1) := by decide +kernel
theorem dX4_bring_8 : decode cX4_bring 8 = .ok (.iadd, 1) := by decide +kernel
theorem dX4_bring_9 : decode cX4_bring 9 = .ok (.iastore, 1) := by decide +kernel
theorem dX4_bring_10 : decode cX4_bring 10 = .ok (.aload_n 0, 1) := by decide +kernel
theorem dX4_bring_11 : decode cX4_bring 11 = .ok (.dup, 1) := by decide +kernel
theorem dX4_bring_12 : decode cX4_bring 12 = .ok (.getfield 159, 3) := by decide +kernel
theorem dX4_bring_15 : decode cX4_bring 15 = .ok (.iload_n 2, 1) := by decide +kernel
theorem dX4_bring_16 : decode cX4_bring 16 = .ok (.iadd, 1) := by decide +kernel
theorem dX4_bring_17 : decode cX4_bring 17 = .ok (.putfield 159, 3) := by decide +kernel
theorem dX4_bring_20 : decode cX4_bring 20 = .ok (.return_, 1) := by decide +kernel
theorem dX4_giveUp_0 : decode cX4_giveUp 0 = .ok (.aload_n 0, 1) := by decide +kernel
theorem dX4_giveUp_1 : decode cX4_giveUp 1 = .ok (.aload_n 0, 1) := by decide +kernel
theorem dX4_giveUp_2 : decode cX4_giveUp 2 = .ok (.iload_n 1, 1) := by decide +kernel
theorem dX4_giveUp_3 : decode cX4_giveUp 3 = .ok (.invokevirtual 90, 3) := by decide +kernel
theorem dX4_giveUp_6 : decode cX4_giveUp 6 = .ok (.ifCond .eq 11, 3) := by decide +kernel
theorem dX4_giveUp_9 : decode cX4_giveUp 9 = .ok (.aload_n 0, 1) := by decide +kernel
theorem dX4_giveUp_10 : decode cX4_giveUp 10 = .ok (.iload_n 2, 1) := by decide +kernel
theorem dX4_giveUp_11 : decode cX4_giveUp 11 = .ok (.invokevirtual 93, 3) := by decide +kernel
theorem dX4_giveUp_14 : decode cX4_giveUp 14 = .ok (.ifCond .ne 7, 3) := by decide +kernel
theorem dX4_giveUp_17 : decode cX4_giveUp 17 = .ok (.iconst 1, 1) := by decide +kernel
theorem dX4_giveUp_18 : decode cX4_giveUp 18 = .ok (.goto 4, 3) := by decide +kernel
theorem dX4_giveUp_21 : decode cX4_giveUp 21 = .ok (.iconst 0, 1) := by decide +kernel
theorem dX4_giveUp_22 : decode cX4_giveUp 22 = .ok (.putfield 59, 3) := by decide +kernel
theorem dX4_giveUp_25 : decode cX4_giveUp 25 = .ok (.aload_n 0, 1) := by decide +kernel
theorem dX4_giveUp_26 : decode cX4_giveUp 26 = .ok (.getfield 59, 3) := by decide +kernel
theorem dX4_giveUp_29 : decode cX4_giveUp 29 = .ok (.ifCond .ne 40, 3) := by decide +kernel
theorem dX4_giveUp_32 : decode cX4_giveUp 32 = .ok (.aload_n 0, 1) := by decide +kernel
theorem dX4_giveUp_33 : decode cX4_giveUp 33 = .ok (.aload_n 0, 1) := by decide +kernel
theorem dX4_giveUp_34 : decode cX4_giveUp 34 = .ok (.getfield 53, 3) := by decide +kernel
theorem dX4_giveUp_37 : decode cX4_giveUp 37 = .ok (.aload_n 0, 1) := by decide +kernel
theorem dX4_giveUp_38 : decode cX4_giveUp 38 = .ok (.getfield 16, 3) := by decide +kernel
theorem dX4_giveUp_41 : decode cX4_giveUp 41 = .ok (.iload_n 2, 1) := by decide +kernel
theorem dX4_giveUp_42 : decode cX4_giveUp 42 = .ok (.iaload, 1) := by decide +kernel
theorem dX4_giveUp_43 : decode cX4_giveUp 43 = .ok (.baload, 1) := by decide +kernel
theorem dX4_giveUp_44 : decode cX4_giveUp 44 = .ok (.ifCond .ne 17, 3) := by decide +kernel
theorem dX4_giveUp_47 : decode cX4_giveUp 47 = .ok (.aload_n 0, 1) := by decide +kernel
theorem dX4_giveUp_48 : decode cX4_giveUp 48 = .ok (.getfield 41, 3) := by decide +kernel
theorem dX4_giveUp_51 : decode cX4_giveUp 51 = .ok (.iload_n 1, 1) := by decide +kernel
theorem dX4_giveUp_52 : decode cX4_giveUp 52 = .ok (.iload_n 2, 1) := by decide +kernel
theorem dX4_giveUp_53 : decode cX4_giveUp 53 = .ok (.invokestatic 96, 3) := by decide +kernel
theorem dX4_giveUp_56 : decode cX4_giveUp 56 = .ok (.iaload, 1) := by decide +kernel
theorem dX4_giveUp_57 : decode cX4_giveUp 57 = .ok (.iconst (-1), 1) := by decide +kernel
theorem dX4_giveUp_58 : decode cX4_giveUp 58 = .ok (.if_icmp .ne 7, 3) := by decide +kernel
theorem dX4_giveUp_61 : decode cX4_giveUp 61 = .ok (.iconst 2, 1) := by decide +kernel
theorem dX4_giveUp_62 : decode cX4_giveUp 62 = .ok (.goto 4, 3) := by decide +kernel
theorem dX4_giveUp_65 : decode cX4_giveUp 65 = .ok (.iconst 0, 1) := by decide +kernel
theorem dX4_giveUp_66 : decode cX4_giveUp 66 = .ok (.putfield 59, 3) := by decide +kernel
theorem dX4_giveUp_69 : decode cX4_giveUp 69 = .ok (.aload_n 0, 1) := by decide +kernel
theorem dX4_giveUp_70 : decode cX4_giveUp 70 = .ok (.getfield 59, 3) := by decide +kernel
theorem dX4_giveUp_73 : decode cX4_giveUp 73 = .ok (.ifCond .le 5, 3) := by decide +kernel
theorem dX4_giveUp_76 : decode cX4_giveUp 76 = .ok (.iconst 0, 1) := by decide +kernel
theorem dX4_giveUp_77 : decode cX4_giveUp 77 = .ok (.ireturn, 1) := by decide +kernel
theorem dX4_giveUp_78 : decode cX4_giveUp 78 = .ok (.aload_n 0, 1) := by decide +kernel
theorem dX4_giveUp_79 : decode cX4_giveUp 79 = .ok (.iload_n 1, 1) := by decide +kernel
theorem dX4_giveUp_80 : decode cX4_giveUp 80 = .ok (.aload_n 0, 1) := by decide +kernel
theorem dX4_giveUp_81 : decode cX4_giveUp 81 = .ok (.getfield 41, 3) := by decide +kernel
theorem dX4_giveUp_84 : decode cX4_giveUp 84 = .ok (.iload_n 1, 1) := by decide +kernel
theorem dX4_giveUp_85 : decode cX4_giveUp 85 = .ok (.iload_n 2, 1) := by decide +kernel
theorem dX4_giveUp_86 : decode cX4_giveUp 86 = .ok (.invokestatic 96, 3) := by decide +kernel
theorem dX4_giveUp_89 : decode cX4_giveUp 89 = .ok (.iaload, 1) := by decide +kernel
theorem dX4_giveUp_90 : decode cX4_giveUp 90 = .ok (.iconst 2, 1) := by decide +kernel
theorem dX4_giveUp_91 : decode cX4_giveUp 91 = .ok (.idiv, 1) := by decide +kernel
theorem dX4_giveUp_92 : decode cX4_giveUp 92 = .ok (.invokevirtual 162, 3) := by decide +kernel
theorem dX4_giveUp_95 : decode cX4_giveUp 95 = .ok (.aload_n 0, 1) := by decide +kernel
theorem dX4_giveUp_96 : decode cX4_giveUp 96 = .ok (.getfield 41, 3) := by decide +kernel
theorem dX4_giveUp_99 : decode cX4_giveUp 99 = .ok (.iload_n 1, 1) := by decide +kernel
theorem dX4_giveUp_100 : decode cX4_giveUp 100 = .ok (.iload_n 2, 1) := by decide +kernel
theorem dX4_giveUp_101 : decode cX4_giveUp 101 = .ok (.invokestatic 96, 3) := by decide +kernel
theorem dX4_giveUp_104 : decode cX4_giveUp 104 = .ok (.iconst (-1), 1) := by decide +kernel
theorem dX4_giveUp_105 : decode cX4_giveUp 105 = .ok (.iastore, 1) := by decide +kernel
theorem dX4_giveUp_106 : decode cX4_giveUp 106 = .ok (.aload_n 0, 1) := by decide +kernel
theorem dX4_giveUp_107 : decode cX4_giveUp 107 = .ok (.iload_n 2, 1) := by decide +kernel
theorem dX4_giveUp_108 : decode cX4_giveUp 108 = .ok (.invokevirtual 165, 3) := by decide +kernel
theorem dX4_giveUp_111 : decode cX4_giveUp 111 = .ok (.ireturn, 1) := by decide +kernel
theorem dX4_move_0 : decode cX4_move 0 = .ok (.aload_n 0, 1) := by decide +kernel
theorem dX4_move_1 : decode cX4_move 1 = .ok (.aload_n 0, 1) := by decide +kernel
theorem dX4_move_2 : decode cX4_move 2 = .ok (.iload_n 1, 1) := by decide +kernel
theorem dX4_move_3 : decode cX4_move 3 = .ok (.invokevirtual 93, 3) := by decide +kernel
theorem dX4_move_6 : decode cX4_move 6 = .ok (.ifCond .ne 7, 3) := by decide +kernel
theorem dX4_move_9 : decode cX4_move 9 = .ok (.iconst 1, 1) := by decide +kernel
theorem dX4_move_10 : decode cX4_move 10 = .ok (.goto 15, 3) := by decide +kernel
theorem dX4_move_13 : decode cX4_move 13 = .ok (.iload_n 2, 1) := by decide +kernel
theorem dX4_move_14 : decode cX4_move 14 = .ok (.invokestatic 83, 3) := by decide +kernel
theorem dX4_move_17 : decode cX4_move 17 = .ok (.ifCond .ne 7, 3) := by decide +kernel
theorem dX4_move_20 : decode cX4_move 20 = .ok (.iconst 2, 1) := by decide +kernel
theorem dX4_move_21 : decode cX4_move 21 = .ok (.goto 4, 3) := by decide +kernel
theorem dX4_move_24 : decode cX4_move 24 = .ok (.iconst 0, 1) := by decide +kernel
theorem dX4_move_25 : decode cX4_move 25 = .ok (.putfield 59, 3) := by decide +kernel
theorem dX4_move_28 : decode cX4_move 28 = .ok (.aload_n 0, 1) := by decide +kernel
theorem dX4_move_29 : decode cX4_move 29 = .ok (.getfield 59, 3) := by decide +kernel
theorem dX4_move_32 : decode cX4_move 32 = .ok (.ifCond .ne 59, 3) := by decide +kernel
theorem dX4_move_35 : decode cX4_move 35 = .ok (.aload_n 0, 1) := by decide +kernel
theorem dX4_move_36 : decode cX4_move 36 = .ok (.aload_n 0, 1) := by decide +kernel
theorem dX4_move_37 : decode cX4_move 37 = .ok (.getfield 53, 3) := by decide +kernel
theorem dX4_move_40 : decode cX4_move 40 = .ok (.aload_n 0, 1) := by decide +kernel
theorem dX4_move_41 : decode cX4_move 41 = .ok (.getfield 16, 3) := by decide +kernel
theorem dX4_move_44 : decode cX4_move 44 = .ok (.iload_n 1, 1) := by decide +kernel
theorem dX4_move_45 : decode cX4_move 45 = .ok (.iaload, 1) := by decide +kernel
theorem dX4_move_46 : decode cX4_move 46 = .ok (.baload, 1) := by decide +kernel
theorem dX4_move_47 : decode cX4_move 47 = .ok (.ifCond .ne 36, 3) := by decide +kernel
theorem dX4_move_50 : decode cX4_move 50 = .ok (.aload_n 0, 1) := by decide +kernel
theorem dX4_move_51 : decode cX4_move 51 = .ok (.getfield 16, 3) := by decide +kernel
theorem dX4_move_54 : decode cX4_move 54 = .ok (.iload_n 1, 1) := by decide +kernel
theorem dX4_move_55 : decode cX4_move 55 = .ok (.iaload, 1) := by decide +kernel
theorem dX4_move_56 : decode cX4_move 56 = .ok (.iload_n 2, 1) := by decide +kernel
theorem dX4_move_57 : decode cX4_move 57 = .ok (.if_icmp .eq 26, 3) := by decide +kernel
theorem dX4_move_60 : decode cX4_move 60 = .ok (.aload_n 0, 1) := by decide +kernel
theorem dX4_move_61 : decode cX4_move 61 = .ok (.getfield 53, 3) := by decide +kernel
theorem dX4_move_64 : decode cX4_move 64 = .ok (.iload_n 2, 1) := by decide +kernel
theorem dX4_move_65 : decode cX4_move 65 = .ok (.baload, 1) := by decide +kernel
theorem dX4_move_66 : decode cX4_move 66 = .ok (.ifCond .ne 17, 3) := by decide +kernel
theorem dX4_move_69 : decode cX4_move 69 = .ok (.aload_n 0, 1) := by decide +kernel
theorem dX4_move_70 : decode cX4_move 70 = .ok (.aload_n 0, 1) := by decide +kernel
theorem dX4_move_71 : decode cX4_move 71 = .ok (.getfield 19, 3) := by decide +kernel
theorem dX4_move_74 : decode cX4_move 74 = .ok (.iload_n 1, 1) := by decide +kernel
theorem dX4_move_75 : decode cX4_move 75 = .ok (.iaload, 1) := by decide +kernel
theorem dX4_move_76 : decode cX4_move 76 = .ok (.iload_n 2, 1) := by decide +kernel
theorem dX4_move_77 : decode cX4_move 77 = .ok (.invokevirtual 86, 3) := by decide +kernel
theorem dX4_move_80 : decode cX4_move 80 = .ok (.ifCond .eq 7, 3) := by decide +kernel
theorem dX4_move_83 : decode cX4_move 83 = .ok (.iconst 3, 1) := by decide +kernel
theorem dX4_move_84 : decode cX4_move 84 = .ok (.goto 4, 3) := by decide +kernel
theorem dX4_move_87 : decode cX4_move 87 = .ok (.iconst 0, 1) := by decide +kernel
theorem dX4_move_88 : decode cX4_move 88 = .ok (.putfield 59, 3) := by decide +kernel
theorem dX4_move_91 : decode cX4_move 91 = .ok (.aload_n 0, 1) := by decide +kernel
theorem dX4_move_92 : decode cX4_move 92 = .ok (.getfield 59, 3) := by decide +kernel
theorem dX4_move_95 : decode cX4_move 95 = .ok (.ifCond .le 5, 3) := by decide +kernel
theorem dX4_move_98 : decode cX4_move 98 = .ok (.iconst 0, 1) := by decide +kernel
theorem dX4_move_99 : decode cX4_move 99 = .ok (.ireturn, 1) := by decide +kernel
theorem dX4_move_100 : decode cX4_move 100 = .ok (.iconst 0, 1) := by decide +kernel
theorem dX4_move_101 : decode cX4_move 101 = .ok (.istore_n 3, 1) := by decide +kernel
theorem dX4_move_102 : decode cX4_move 102 = .ok (.iconst 0, 1) := by decide +kernel
theorem dX4_move_103 : decode cX4_move 103 = .ok (.istore 4, 2) := by decide +kernel
theorem dX4_move_105 : decode cX4_move 105 = .ok (.iload 4, 2) := by decide +kernel
theorem dX4_move_107 : decode cX4_move 107 = .ok (.aload_n 0, 1) := by decide +kernel
theorem dX4_move_108 : decode cX4_move 108 = .ok (.getfield 63, 3) := by decide +kernel
theorem dX4_move_111 : decode cX4_move 111 = .ok (.if_icmp .ge 99, 3) := by decide +kernel
theorem dX4_move_114 : decode cX4_move 114 = .ok (.aload_n 0, 1) := by decide +kernel
theorem dX4_move_115 : decode cX4_move 115 = .ok (.getfield 41, 3) := by decide +kernel
theorem dX4_move_118 : decode cX4_move 118 = .ok (.iload 4, 2) := by decide +kernel
theorem dX4_move_120 : decode cX4_move 120 = .ok (.iload_n 1, 1) := by decide +kernel
theorem dX4_move_121 : decode cX4_move 121 = .ok (.invokestatic 96, 3) := by decide +kernel
theorem dX4_move_124 : decode cX4_move 124 = .ok (.iaload, 1) := by decide +kernel
theorem dX4_move_125 : decode cX4_move 125 = .ok (.istore 5, 2) := by decide +kernel
theorem dX4_move_127 : decode cX4_move 127 = .ok (.iload 5, 2) := by decide +kernel
theorem dX4_move_129 : decode cX4_move 129 = .ok (.iconst (-1), 1) := by decide +kernel
theorem dX4_move_130 : decode cX4_move 130 = .ok (.if_icmp .eq 40, 3) := by decide +kernel
theorem dX4_move_133 : decode cX4_move 133 = .ok (.aload_n 0, 1) := by decide +kernel
theorem dX4_move_134 : decode cX4_move 134 = .ok (.iload 4, 2) := by decide +kernel
theorem dX4_move_136 : decode cX4_move 136 = .ok (.iload_n 2, 1) := by decide +kernel
theorem dX4_move_137 : decode cX4_move 137 = .ok (.invokevirtual 153, 3) := by decide +kernel
theorem dX4_move_140 : decode cX4_move 140 = .ok (.iconst (-1), 1) := by decide +kernel
theorem dX4_move_141 : decode cX4_move 141 = .ok (.if_icmp .eq 29, 3) := by decide +kernel
theorem dX4_move_144 : decode cX4_move 144 = .ok (.aload_n 0, 1) := by decide +kernel
theorem dX4_move_145 : decode cX4_move 145 = .ok (.iload 4, 2) := by decide +kernel
theorem dX4_move_147 : decode cX4_move 147 = .ok (.iload 5, 2) := by decide +kernel
theorem dX4_move_149 : decode cX4_move 149 = .ok (.invokevirtual 162, 3) := by decide +kernel
theorem dX4_move_152 : decode cX4_move 152 = .ok (.aload_n 0, 1) := by decide +kernel
theorem dX4_move_153 : decode cX4_move 153 = .ok (.getfield 41, 3) := by decide +kernel
theorem dX4_move_156 : decode cX4_move 156 = .ok (.iload 4, 2) := by decide +kernel
theorem dX4_move_158 : decode cX4_move 158 = .ok (.iload_n 1, 1) := by decide +kernel
theorem dX4_move_159 : decode cX4_move 159 = .ok (.invokestatic 96, 3) := by decide +kernel
theorem dX4_move_162 : decode cX4_move 162 = .ok (.iconst (-1), 1) := by decide +kernel
theorem dX4_move_163 : decode cX4_move 163 = .ok (.iastore, 1) := by decide +kernel
theorem dX4_move_164 : decode cX4_move 164 = .ok (.iinc 3 1, 3) := by decide +kernel
theorem dX4_move_167 : decode cX4_move 167 = .ok (.goto 37, 3) := by decide +kernel
theorem dX4_move_170 : decode cX4_move 170 = .ok (.iload 5, 2) := by decide +kernel
theorem dX4_move_172 : decode cX4_move 172 = .ok (.iconst (-1), 1) := by decide +kernel
theorem dX4_move_173 : decode cX4_move 173 = .ok (.if_icmp .eq 31, 3) := by decide +kernel
theorem dX4_move_176 : decode cX4_move 176 = .ok (.aload_n 0, 1) := by decide +kernel
theorem dX4_move_177 : decode cX4_move 177 = .ok (.iload 4, 2) := by decide +kernel
theorem dX4_move_179 : decode cX4_move 179 = .ok (.iload 5, 2) := by decide +kernel
theorem dX4_move_181 : decode cX4_move 181 = .ok (.iconst 2, 1) := by decide +kernel
theorem dX4_move_182 : decode cX4_move 182 = .ok (.idiv, 1) := by decide +kernel
theorem dX4_move_183 : decode cX4_move 183 = .ok (.invokevirtual 162, 3) := by decide +kernel
theorem dX4_move_186 : decode cX4_move 186 = .ok (.aload_n 0, 1) := by decide +kernel
theorem dX4_move_187 : decode cX4_move 187 = .ok (.getfield 41, 3) := by decide +kernel
theorem dX4_move_190 : decode cX4_move 190 = .ok (.iload 4, 2) := by decide +kernel
theorem dX4_move_192 : decode cX4_move 192 = .ok (.iload_n 1, 1) := by decide +kernel
theorem dX4_move_193 : decode cX4_move 193 = .ok (.invokestatic 96, 3) := by decide +kernel
theorem dX4_move_196 : decode cX4_move 196 = .ok (.iload 5, 2) := by decide +kernel
theorem dX4_move_198 : decode cX4_move 198 = .ok (.iload 5, 2) := by decide +kernel
theorem dX4_move_200 : decode cX4_move 200 = .ok (.iconst 2, 1) := by decide +kernel
theorem dX4_move_201 : decode cX4_move 201 = .ok (.idiv, 1) := by decide +kernel
theorem dX4_move_202 : decode cX4_move 202 = .ok (.isub, 1) := by decide +kernel
theorem dX4_move_203 : decode cX4_move 203 = .ok (.iastore, 1) := by decide +kernel
theorem dX4_move_204 : decode cX4_move 204 = .ok (.iinc 4 1, 3) := by decide +kernel
theorem dX4_move_207 : decode cX4_move 207 = .ok (.goto (-102), 3) := by decide +kernel
theorem dX4_move_210 : decode cX4_move 210 = .ok (.aload_n 0, 1) := by decide +kernel
theorem dX4_move_211 : decode cX4_move 211 = .ok (.getfield 16, 3) := by decide +kernel
theorem dX4_move_214 : decode cX4_move 214 = .ok (.iload_n 1, 1) := by decide +kernel
theorem dX4_move_215 : decode cX4_move 215 = .ok (.iload_n 2, 1) := by decide +kernel
theorem dX4_move_216 : decode cX4_move 216 = .ok (.iastore, 1) := by decide +kernel
theorem dX4_move_217 : decode cX4_move 217 = .ok (.aload_n 0, 1) := by decide +kernel
theorem dX4_move_218 : decode cX4_move 218 = .ok (.iload_n 1, 1) := by decide +kernel
theorem dX4_move_219 : decode cX4_move 219 = .ok (.invokevirtual 165, 3) := by decide +kernel
theorem dX4_move_222 : decode cX4_move 222 = .ok (.istore 4, 2) := by decide +kernel
theorem dX4_move_224 : decode cX4_move 224 = .ok (.iload 4, 2) := by decide +kernel
theorem dX4_move_226 : decode cX4_move 226 = .ok (.iconst (-1), 1) := by decide +kernel
theorem dX4_move_227 : decode cX4_move 227 = .ok (.if_icmp .eq 13, 3) := by decide +kernel
theorem dX4_move_230 : decode cX4_move 230 = .ok (.aload_n 0, 1) := by decide +kernel
theorem dX4_move_231 : decode cX4_move 231 = .ok (.iload_n 1, 1) := by decide +kernel
theorem dX4_move_232 : decode cX4_move 232 = .ok (.invokevirtual 165, 3) := by decide +kernel
theorem dX4_move_235 : decode cX4_move 235 = .ok (.istore 4, 2) := by decide +kernel
theorem dX4_move_237 : decode cX4_move 237 = .ok (.goto (-13), 3) := by decide +kernel
theorem dX4_move_240 : decode cX4_move 240 = .ok (.iload_n 3, 1) := by decide +kernel
theorem dX4_move_241 : decode cX4_move 241 = .ok (.ireturn, 1) := by decide +kernel
theorem dX4_slotOf_0 : decode cX4_slotOf 0 = .ok (.aload_n 0, 1) := by decide +kernel
theorem dX4_slotOf_1 : decode cX4_slotOf 1 = .ok (.aload_n 0, 1) := by decide +kernel
theorem dX4_slotOf_2 : decode cX4_slotOf 2 = .ok (.iload_n 1, 1) := by decide +kernel
theorem dX4_slotOf_3 : decode cX4_slotOf 3 = .ok (.invokevirtual 93, 3) := by decide +kernel
theorem dX4_slotOf_6 : decode cX4_slotOf 6 = .ok (.ifCond .eq 7, 3) := by decide +kernel
theorem dX4_slotOf_9 : decode cX4_slotOf 9 = .ok (.iconst 0, 1) := by decide +kernel
theorem dX4_slotOf_10 : decode cX4_slotOf 10 = .ok (.goto 4, 3) := by decide +kernel
theorem dX4_slotOf_13 : decode cX4_slotOf 13 = .ok (.iconst 1, 1) := by decide +kernel
theorem dX4_slotOf_14 : decode cX4_slotOf 14 = .ok (.putfield 59, 3) := by decide +kernel
theorem dX4_slotOf_17 : decode cX4_slotOf 17 = .ok (.aload_n 0, 1) := by decide +kernel
theorem dX4_slotOf_18 : decode cX4_slotOf 18 = .ok (.getfield 59, 3) := by decide +kernel
theorem dX4_slotOf_21 : decode cX4_slotOf 21 = .ok (.ifCond .le 7, 3) := by decide +kernel
theorem dX4_slotOf_24 : decode cX4_slotOf 24 = .ok (.iconst 0, 1) := by decide +kernel
theorem dX4_slotOf_25 : decode cX4_slotOf 25 = .ok (.goto 9, 3) := by decide +kernel
theorem dX4_slotOf_28 : decode cX4_slotOf 28 = .ok (.aload_n 0, 1) := by decide +kernel
theorem dX4_slotOf_29 : decode cX4_slotOf 29 = .ok (.getfield 16, 3) := by decide +kernel
theorem dX4_slotOf_32 : decode cX4_slotOf 32 = .ok (.iload_n 1, 1) := by decide +kernel
theorem dX4_slotOf_33 : decode cX4_slotOf 33 = .ok (.iaload, 1) := by decide +kernel
theorem dX4_slotOf_34 : decode cX4_slotOf 34 = .ok (.ireturn, 1) := by decide +kernel
theorem dX4_refunds_0 : decode cX4_refunds 0 = .ok (.aload_n 0, 1) := by decide +kernel
theorem dX4_refunds_1 : decode cX4_refunds 1 = .ok (.iconst 0, 1) := by decide +kernel
theorem dX4_refunds_2 : decode cX4_refunds 2 = .ok (.putfield 59, 3) := by decide +kernel
theorem dX4_refunds_5 : decode cX4_refunds 5 = .ok (.aload_n 0, 1) := by decide +kernel
theorem dX4_refunds_6 : decode cX4_refunds 6 = .ok (.getfield 159, 3) := by decide +kernel
theorem dX4_refunds_9 : decode cX4_refunds 9 = .ok (.ireturn, 1) := by decide +kernel
theorem dX4_noRecord_0 : decode cX4_noRecord 0 = .ok (.iload_n 1, 1) := by decide +kernel
theorem dX4_noRecord_1 : decode cX4_noRecord 1 = .ok (.invokestatic 168, 3) := by decide +kernel
theorem dX4_noRecord_4 : decode cX4_noRecord 4 = .ok (.ifCond .eq 19, 3) := by decide +kernel
theorem dX4_noRecord_7 : decode cX4_noRecord 7 = .ok (.aload_n 0, 1) := by decide +kernel
theorem dX4_noRecord_8 : decode cX4_noRecord 8 = .ok (.iload_n 2, 1) := by decide +kernel
theorem dX4_noRecord_9 : decode cX4_noRecord 9 = .ok (.invokevirtual 90, 3) := by decide +kernel
theorem dX4_noRecord_12 : decode cX4_noRecord 12 = .ok (.ifCond .eq 11, 3) := by decide +kernel
theorem dX4_noRecord_15 : decode cX4_noRecord 15 = .ok (.aload_n 0, 1) := by decide +kernel
theorem dX4_noRecord_16 : decode cX4_noRecord 16 = .ok (.iload_n 3, 1) := by decide +kernel
theorem dX4_noRecord_17 : decode cX4_noRecord 17 = .ok (.invokevirtual 79, 3) := by decide +kernel
theorem dX4_noRecord_20 : decode cX4_noRecord 20 = .ok (.ifCond .ne 7, 3) := by decide +kernel
theorem dX4_noRecord_23 : decode cX4_noRecord 23 = .ok (.iconst 1, 1) := by decide +kernel
theorem dX4_noRecord_24 : decode cX4_noRecord 24 = .ok (.goto 4, 3) := by decide +kernel
theorem dX4_noRecord_27 : decode cX4_noRecord 27 = .ok (.iconst 0, 1) := by decide +kernel
theorem dX4_noRecord_28 : decode cX4_noRecord 28 = .ok (.ireturn, 1) := by decide +kernel
theorem dX4_write_0 : decode cX4_write 0 = .ok (.iload 4, 2) := by decide +kernel
theorem dX4_write_2 : decode cX4_write 2 = .ok (.invokestatic 171, 3) := by decide +kernel
theorem dX4_write_5 : decode cX4_write 5 = .ok (.istore 6, 2) := by decide +kernel
theorem dX4_write_7 : decode cX4_write 7 = .ok (.iload 6, 2) := by decide +kernel
theorem dX4_write_9 : decode cX4_write 9 = .ok (.ifCond .ne 13, 3) := by decide +kernel
theorem dX4_write_12 : decode cX4_write 12 = .ok (.iload 5, 2) := by decide +kernel
theorem dX4_write_14 : decode cX4_write 14 = .ok (.iconst 0, 1) := by decide +kernel
theorem dX4_write_15 : decode cX4_write 15 = .ok (.iconst 1, 1) := by decide +kernel
theorem dX4_write_16 : decode cX4_write 16 = .ok (.invokestatic 66, 3) := by decide +kernel
theorem dX4_write_19 : decode cX4_write 19 = .ok (.ifCond .ne 37, 3) := by decide +kernel
theorem dX4_write_22 : decode cX4_write 22 = .ok (.iload 6, 2) := by decide +kernel
theorem dX4_write_24 : decode cX4_write 24 = .ok (.iconst 1, 1) := by decide +kernel
theorem dX4_write_25 : decode cX4_write 25 = .ok (.if_icmp .ne 14, 3) := by decide +kernel
theorem dX4_write_28 : decode cX4_write 28 = .ok (.iload 5, 2) := by decide +kernel
theorem dX4_write_30 : decode cX4_write 30 = .ok (.iconst (-1), 1) := by decide +kernel
theorem dX4_write_31 : decode cX4_write 31 = .ok (.bipush 100, 2) := by decide +kernel
theorem dX4_write_33 : decode cX4_write 33 = .ok (.invokestatic 66, 3) := by decide +kernel
theorem dX4_write_36 : decode cX4_write 36 = .ok (.ifCond .ne 20, 3) := by decide +kernel
theorem dX4_write_39 : decode cX4_write 39 = .ok (.iload 6, 2) := by decide +kernel
theorem dX4_write_41 : decode cX4_write 41 = .ok (.iconst 2, 1) := by decide +kernel
theorem dX4_write_42 : decode cX4_write 42 = .ok (.if_icmp .ne 18, 3) := by decide +kernel
theorem dX4_write_45 : decode cX4_write 45 = .ok (.iload 5, 2) := by decide +kernel
theorem dX4_write_47 : decode cX4_write 47 = .ok (.iconst 0, 1) := by decide +kernel
theorem dX4_write_48 : decode cX4_write 48 = .ok (.bipush 60, 2) := by decide +kernel
theorem dX4_write_50 : decode cX4_write 50 = .ok (.invokestatic 66, 3) := by decide +kernel
theorem dX4_write_53 : decode cX4_write 53 = .ok (.ifCond .eq 7, 3) := by decide +kernel
theorem dX4_write_56 : decode cX4_write 56 = .ok (.iconst 1, 1) := by decide +kernel
theorem dX4_write_57 : decode cX4_write 57 = .ok (.goto 4, 3) := by decide +kernel
theorem dX4_write_60 : decode cX4_write 60 = .ok (.iconst 0, 1) := by decide +kernel
theorem dX4_write_61 : decode cX4_write 61 = .ok (.istore 7, 2) := by decide +kernel
theorem dX4_write_63 : decode cX4_write 63 = .ok (.aload_n 0, 1) := by decide +kernel
theorem dX4_write_64 : decode cX4_write 64 = .ok (.aload_n 0, 1) := by decide +kernel
theorem dX4_write_65 : decode cX4_write 65 = .ok (.iload_n 1, 1) := by decide +kernel
theorem dX4_write_66 : decode cX4_write 66 = .ok (.iload_n 2, 1) := by decide +kernel
theorem dX4_write_67 : decode cX4_write 67 = .ok (.iload_n 3, 1) := by decide +kernel
theorem dX4_write_68 : decode cX4_write 68 = .ok (.invokevirtual 175, 3) := by decide +kernel
theorem dX4_write_71 : decode cX4_write 71 = .ok (.ifCond .eq 7, 3) := by decide +kernel
theorem dX4_write_74 : decode cX4_write 74 = .ok (.iconst 1, 1) := by decide +kernel
theorem dX4_write_75 : decode cX4_write 75 = .ok (.goto 13, 3) := by decide +kernel
theorem dX4_write_78 : decode cX4_write 78 = .ok (.iload 7, 2) := by decide +kernel
theorem dX4_write_80 : decode cX4_write 80 = .ok (.ifCond .ne 7, 3) := by decide +kernel
theorem dX4_write_83 : decode cX4_write 83 = .ok (.iconst 2, 1) := by decide +kernel
theorem dX4_write_84 : decode cX4_write 84 = .ok (.goto 4, 3) := by decide +kernel
theorem dX4_write_87 : decode cX4_write 87 = .ok (.iconst 0, 1) := by decide +kernel
theorem dX4_write_88 : decode cX4_write 88 = .ok (.putfield 59, 3) := by decide +kernel
theorem dX4_write_91 : decode cX4_write 91 = .ok (.aload_n 0, 1) := by decide +kernel
theorem dX4_write_92 : decode cX4_write 92 = .ok (.getfield 59, 3) := by decide +kernel
theorem dX4_write_95 : decode cX4_write 95 = .ok (.ifCond .le 5, 3) := by decide +kernel
theorem dX4_write_98 : decode cX4_write 98 = .ok (.iconst 0, 1) := by decide +kernel
theorem dX4_write_99 : decode cX4_write 99 = .ok (.ireturn, 1) := by decide +kernel
theorem dX4_write_100 : decode cX4_write 100 = .ok (.aload_n 0, 1) := by decide +kernel
theorem dX4_write_101 : decode cX4_write 101 = .ok (.getfield 44, 3) := by decide +kernel
theorem dX4_write_104 : decode cX4_write 104 = .ok (.iload_n 1, 1) := by decide +kernel
theorem dX4_write_105 : decode cX4_write 105 = .ok (.iload_n 2, 1) := by decide +kernel
theorem dX4_write_106 : decode cX4_write 106 = .ok (.iload_n 3, 1) := by decide +kernel
theorem dX4_write_107 : decode cX4_write 107 = .ok (.iload 6, 2) := by decide +kernel
theorem dX4_write_109 : decode cX4_write 109 = .ok (.invokestatic 103, 3) := by decide +kernel
theorem dX4_write_112 : decode cX4_write 112 = .ok (.iaload, 1) := by decide +kernel
theorem dX4_write_113 : decode cX4_write 113 = .ok (.istore 8, 2) := by decide +kernel
theorem dX4_write_115 : decode cX4_write 115 = .ok (.aload_n 0, 1) := by decide +kernel
theorem dX4_write_116 : decode cX4_write 116 = .ok (.getfield 44, 3) := by decide +kernel
theorem dX4_write_119 : decode cX4_write 119 = .ok (.iload_n 1, 1) := by decide +kernel
theorem dX4_write_120 : decode cX4_write 120 = .ok (.iload_n 2, 1) := by decide +kernel
theorem dX4_write_121 : decode cX4_write 121 = .ok (.iload_n 3, 1) := by decide +kernel
theorem dX4_write_122 : decode cX4_write 122 = .ok (.iload 6, 2) := by decide +kernel
theorem dX4_write_124 : decode cX4_write 124 = .ok (.invokestatic 103, 3) := by decide +kernel
theorem dX4_write_127 : decode cX4_write 127 = .ok (.iload 5, 2) := by decide +kernel
theorem dX4_write_129 : decode cX4_write 129 = .ok (.iastore, 1) := by decide +kernel
theorem dX4_write_130 : decode cX4_write 130 = .ok (.iload 8, 2) := by decide +kernel
theorem dX4_write_132 : decode cX4_write 132 = .ok (.ireturn, 1) := by decide +kernel
theorem dX4_read_0 : decode cX4_read 0 = .ok (.aload_n 0, 1) := by decide +kernel
theorem dX4_read_1 : decode cX4_read 1 = .ok (.aload_n 0, 1) := by decide +kernel
theorem dX4_read_2 : decode cX4_read 2 = .ok (.iload_n 1, 1) := by decide +kernel
theorem dX4_read_3 : decode cX4_read 3 = .ok (.iload_n 2, 1) := by decide +kernel
theorem dX4_read_4 : decode cX4_read 4 = .ok (.iload_n 3, 1) := by decide +kernel
theorem dX4_read_5 : decode cX4_read 5 = .ok (.invokevirtual 175, 3) := by decide +kernel
theorem dX4_read_8 : decode cX4_read 8 = .ok (.ifCond .eq 7, 3) := by decide +kernel
theorem dX4_read_11 : decode cX4_read 11 = .ok (.iconst 1, 1) := by decide +kernel
theorem dX4_read_12 : decode cX4_read 12 = .ok (.goto 17, 3) := by decide +kernel
theorem dX4_read_15 : decode cX4_read 15 = .ok (.iload 4, 2) := by decide +kernel
theorem dX4_read_17 : decode cX4_read 17 = .ok (.invokestatic 171, 3) := by decide +kernel
theorem dX4_read_20 : decode cX4_read 20 = .ok (.iconst (-1), 1) := by decide +kernel
theorem dX4_read_21 : decode cX4_read 21 = .ok (.if_icmp .ne 7, 3) := by decide +kernel
theorem dX4_read_24 : decode cX4_read 24 = .ok (.iconst 2, 1) := by decide +kernel
theorem dX4_read_25 : decode cX4_read 25 = .ok (.goto 4, 3) := by decide +kernel
theorem dX4_read_28 : decode cX4_read 28 = .ok (.iconst 0, 1) := by decide +kernel
theorem dX4_read_29 : decode cX4_read 29 = .ok (.putfield 59, 3) := by decide +kernel
theorem dX4_read_32 : decode cX4_read 32 = .ok (.aload_n 0, 1) := by decide +kernel
theorem dX4_read_33 : decode cX4_read 33 = .ok (.getfield 59, 3) := by decide +kernel
theorem dX4_read_36 : decode cX4_read 36 = .ok (.ifCond .le 7, 3) := by decide +kernel
theorem dX4_read_39 : decode cX4_read 39 = .ok (.iconst 0, 1) := by decide +kernel
theorem dX4_read_40 : decode cX4_read 40 = .ok (.goto 19, 3) := by decide +kernel
theorem dX4_read_43 : decode cX4_read 43 = .ok (.aload_n 0, 1) := by decide +kernel
theorem dX4_read_44 : decode cX4_read 44 = .ok (.getfield 44, 3) := by decide +kernel
theorem dX4_read_47 : decode cX4_read 47 = .ok (.iload_n 1, 1) := by decide +kernel
theorem dX4_read_48 : decode cX4_read 48 = .ok (.iload_n 2, 1) := by decide +kernel
theorem dX4_read_49 : decode cX4_read 49 = .ok (.iload_n 3, 1) := by decide +kernel
theorem dX4_read_50 : decode cX4_read 50 = .ok (.iload 4, 2) := by decide +kernel
theorem dX4_read_52 : decode cX4_read 52 = .ok (.invokestatic 171, 3) := by decide +kernel
theorem dX4_read_55 : decode cX4_read 55 = .ok (.invokestatic 103, 3) := by decide +kernel
theorem dX4_read_58 : decode cX4_read 58 = .ok (.iaload, 1) := by decide +kernel
theorem dX4_read_59 : decode cX4_read 59 = .ok (.ireturn, 1) := by decide +kernel
theorem dX4_sync_0 : decode cX4_sync 0 = .ok (.aload_n 0, 1) := by decide +kernel
theorem dX4_sync_1 : decode cX4_sync 1 = .ok (.iload_n 1, 1) := by decide +kernel
theorem dX4_sync_2 : decode cX4_sync 2 = .ok (.invokestatic 168, 3) := by decide +kernel
theorem dX4_sync_5 : decode cX4_sync 5 = .ok (.ifCond .eq 10, 3) := by decide +kernel
theorem dX4_sync_8 : decode cX4_sync 8 = .ok (.iload_n 2, 1) := by decide +kernel
theorem dX4_sync_9 : decode cX4_sync 9 = .ok (.invokestatic 168, 3) := by decide +kernel
theorem dX4_sync_12 : decode cX4_sync 12 = .ok (.ifCond .ne 7, 3) := by decide +kernel
theorem dX4_sync_15 : decode cX4_sync 15 = .ok (.iconst 1, 1) := by decide +kernel
theorem dX4_sync_16 : decode cX4_sync 16 = .ok (.goto 13, 3) := by decide +kernel
theorem dX4_sync_19 : decode cX4_sync 19 = .ok (.iload_n 1, 1) := by decide +kernel
theorem dX4_sync_20 : decode cX4_sync 20 = .ok (.iload_n 2, 1) := by decide +kernel
theorem dX4_sync_21 : decode cX4_sync 21 = .ok (.if_icmp .ne 7, 3) := by decide +kernel
theorem dX4_sync_24 : decode cX4_sync 24 = .ok (.iconst 2, 1) := by decide +kernel
theorem dX4_sync_25 : decode cX4_sync 25 = .ok (.goto 4, 3) := by decide +kernel
theorem dX4_sync_28 : decode cX4_sync 28 = .ok (.iconst 0, 1) := by decide +kernel
theorem dX4_sync_29 : decode cX4_sync 29 = .ok (.putfield 59, 3) := by decide +kernel
theorem dX4_sync_32 : decode cX4_sync 32 = .ok (.aload_n 0, 1) := by decide +kernel
theorem dX4_sync_33 : decode cX4_sync 33 = .ok (.getfield 59, 3) := by decide +kernel
theorem dX4_sync_36 : decode cX4_sync 36 = .ok (.ifCond .le 5, 3) := by decide +kernel
theorem dX4_sync_39 : decode cX4_sync 39 = .ok (.iconst 0, 1) := by decide +kernel
theorem dX4_sync_40 : decode cX4_sync 40 = .ok (.ireturn, 1) := by decide +kernel
theorem dX4_sync_41 : decode cX4_sync 41 = .ok (.iconst 0, 1) := by decide +kernel
theorem dX4_sync_42 : decode cX4_sync 42 = .ok (.istore_n 3, 1) := by decide +kernel
theorem dX4_sync_43 : decode cX4_sync 43 = .ok (.iconst 0, 1) := by decide +kernel
theorem dX4_sync_44 : decode cX4_sync 44 = .ok (.istore 4, 2) := by decide +kernel
theorem dX4_sync_46 : decode cX4_sync 46 = .ok (.iload 4, 2) := by decide +kernel
theorem dX4_sync_48 : decode cX4_sync 48 = .ok (.aload_n 0, 1) := by decide +kernel
theorem dX4_sync_49 : decode cX4_sync 49 = .ok (.getfield 63, 3) := by decide +kernel
theorem dX4_sync_52 : decode cX4_sync 52 = .ok (.if_icmp .ge 110, 3) := by decide +kernel
theorem dX4_sync_55 : decode cX4_sync 55 = .ok (.iconst 0, 1) := by decide +kernel
theorem dX4_sync_56 : decode cX4_sync 56 = .ok (.istore 5, 2) := by decide +kernel
theorem dX4_sync_58 : decode cX4_sync 58 = .ok (.iload 5, 2) := by decide +kernel
theorem dX4_sync_60 : decode cX4_sync 60 = .ok (.aload_n 0, 1) := by decide +kernel
theorem dX4_sync_61 : decode cX4_sync 61 = .ok (.getfield 70, 3) := by decide +kernel
theorem dX4_sync_64 : decode cX4_sync 64 = .ok (.if_icmp .ge 92, 3) := by decide +kernel
theorem dX4_sync_67 : decode cX4_sync 67 = .ok (.iconst 0, 1) := by decide +kernel
theorem dX4_sync_68 : decode cX4_sync 68 = .ok (.istore 6, 2) := by decide +kernel
theorem dX4_sync_70 : decode cX4_sync 70 = .ok (.iload 6, 2) := by decide +kernel
theorem dX4_sync_72 : decode cX4_sync 72 = .ok (.iconst 3, 1) := by decide +kernel
theorem dX4_sync_73 : decode cX4_sync 73 = .ok (.if_icmp .ge 77, 3) := by decide +kernel
theorem dX4_sync_76 : decode cX4_sync 76 = .ok (.aload_n 0, 1) := by decide +kernel
theorem dX4_sync_77 : decode cX4_sync 77 = .ok (.getfield 44, 3) := by decide +kernel
theorem dX4_sync_80 : decode cX4_sync 80 = .ok (.iload_n 1, 1) := by decide +kernel
theorem dX4_sync_81 : decode cX4_sync 81 = .ok (.iload 4, 2) := by decide +kernel
theorem dX4_sync_83 : decode cX4_sync 83 = .ok (.iload 5, 2) := by decide +kernel
theorem dX4_sync_85 : decode cX4_sync 85 = .ok (.iload 6, 2) := by decide +kernel
theorem dX4_sync_87 : decode cX4_sync 87 = .ok (.invokestatic 103, 3) := by decide +kernel
theorem dX4_sync_90 : decode cX4_sync 90 = .ok (.iaload, 1) := by decide +kernel
theorem dX4_sync_91 : decode cX4_sync 91 = .ok (.istore 7, 2) := by decide +kernel
theorem dX4_sync_93 : decode cX4_sync 93 = .ok (.aload_n 0, 1) := by decide +kernel
theorem dX4_sync_94 : decode cX4_sync 94 = .ok (.getfield 47, 3) := by decide +kernel
theorem dX4_sync_97 : decode cX4_sync 97 = .ok (.iload 6, 2) := by decide +kernel
theorem dX4_sync_99 : decode cX4_sync 99 = .ok (.iaload, 1) := by decide +kernel
theorem dX4_sync_100 : decode cX4_sync 100 = .ok (.iload_n 1, 1) := by decide +kernel
theorem dX4_sync_101 : decode cX4_sync 101 = .ok (.if_icmp .ne 43, 3) := by decide +kernel
theorem dX4_sync_104 : decode cX4_sync 104 = .ok (.iload 7, 2) := by decide +kernel
theorem dX4_sync_106 : decode cX4_sync 106 = .ok (.aload_n 0, 1) := by decide +kernel
theorem dX4_sync_107 : decode cX4_sync 107 = .ok (.getfield 44, 3) := by decide +kernel
theorem dX4_sync_110 : decode cX4_sync 110 = .ok (.iload_n 2, 1) := by decide +kernel
theorem dX4_sync_111 : decode cX4_sync 111 = .ok (.iload 4, 2) := by decide +kernel
theorem dX4_sync_113 : decode cX4_sync 113 = .ok (.iload 5, 2) := by decide +kernel
theorem dX4_sync_115 : decode cX4_sync 115 = .ok (.iload 6, 2) := by decide +kernel
theorem dX4_sync_117 : decode cX4_sync 117 = .ok (.invokestatic 103, 3) := by decide +kernel
theorem dX4_sync_120 : decode cX4_sync 120 = .ok (.iaload, 1) := by decide +kernel
theorem dX4_sync_121 : decode cX4_sync 121 = .ok (.if_icmp .eq 23, 3) := by decide +kernel
theorem dX4_sync_124 : decode cX4_sync 124 = .ok (.aload_n 0, 1) := by decide +kernel
theorem dX4_sync_125 : decode cX4_sync 125 = .ok (.getfield 44, 3) := by decide +kernel
theorem dX4_sync_128 : decode cX4_sync 128 = .ok (.iload_n 2, 1) := by decide +kernel
theorem dX4_sync_129 : decode cX4_sync 129 = .ok (.iload 4, 2) := by decide +kernel
theorem dX4_sync_131 : decode cX4_sync 131 = .ok (.iload 5, 2) := by decide +kernel
theorem dX4_sync_133 : decode cX4_sync 133 = .ok (.iload 6, 2) := by decide +kernel
theorem dX4_sync_135 : decode cX4_sync 135 = .ok (.invokestatic 103, 3) := by decide +kernel
theorem dX4_sync_138 : decode cX4_sync 138 = .ok (.iload 7, 2) := by decide +kernel
theorem dX4_sync_140 : decode cX4_sync 140 = .ok (.iastore, 1) := by decide +kernel
theorem dX4_sync_141 : decode cX4_sync 141 = .ok (.iinc 3 1, 3) := by decide +kernel
theorem dX4_sync_144 : decode cX4_sync 144 = .ok (.iinc 6 1, 3) := by decide +kernel
theorem dX4_sync_147 : decode cX4_sync 147 = .ok (.goto (-77), 3) := by decide +kernel
theorem dX4_sync_150 : decode cX4_sync 150 = .ok (.iinc 5 1, 3) := by decide +kernel
theorem dX4_sync_153 : decode cX4_sync 153 = .ok (.goto (-95), 3) := by decide +kernel
theorem dX4_sync_156 : decode cX4_sync 156 = .ok (.iinc 4 1, 3) := by decide +kernel
theorem dX4_sync_159 : decode cX4_sync 159 = .ok (.goto (-113), 3) := by decide +kernel
theorem dX4_sync_162 : decode cX4_sync 162 = .ok (.iload_n 3, 1) := by decide +kernel
theorem dX4_sync_163 : decode cX4_sync 163 = .ok (.ireturn, 1) := by decide +kernel
theorem dX4_owner_0 : decode cX4_owner 0 = .ok (.aload_n 0, 1) := by decide +kernel
theorem dX4_owner_1 : decode cX4_owner 1 = .ok (.iload_n 1, 1) := by decide +kernel
theorem dX4_owner_2 : decode cX4_owner 2 = .ok (.invokestatic 171, 3) := by decide +kernel
theorem dX4_owner_5 : decode cX4_owner 5 = .ok (.iconst (-1), 1) := by decide +kernel
theorem dX4_owner_6 : decode cX4_owner 6 = .ok (.if_icmp .ne 7, 3) := by decide +kernel
theorem dX4_owner_9 : decode cX4_owner 9 = .ok (.iconst 1, 1) := by decide +kernel
theorem dX4_owner_10 : decode cX4_owner 10 = .ok (.goto 4, 3) := by decide +kernel
theorem dX4_owner_13 : decode cX4_owner 13 = .ok (.iconst 0, 1) := by decide +kernel
theorem dX4_owner_14 : decode cX4_owner 14 = .ok (.putfield 59, 3) := by decide +kernel
theorem dX4_owner_17 : decode cX4_owner 17 = .ok (.aload_n 0, 1) := by decide +kernel
theorem dX4_owner_18 : decode cX4_owner 18 = .ok (.getfield 59, 3) := by decide +kernel
theorem dX4_owner_21 : decode cX4_owner 21 = .ok (.ifCond .le 7, 3) := by decide +kernel
theorem dX4_owner_24 : decode cX4_owner 24 = .ok (.iconst 0, 1) := by decide +kernel
theorem dX4_owner_25 : decode cX4_owner 25 = .ok (.goto 12, 3) := by decide +kernel
theorem dX4_owner_28 : decode cX4_owner 28 = .ok (.aload_n 0, 1) := by decide +kernel
theorem dX4_owner_29 : decode cX4_owner 29 = .ok (.getfield 47, 3) := by decide +kernel
theorem dX4_owner_32 : decode cX4_owner 32 = .ok (.iload_n 1, 1) := by decide +kernel
theorem dX4_owner_33 : decode cX4_owner 33 = .ok (.invokestatic 171, 3) := by decide +kernel
theorem dX4_owner_36 : decode cX4_owner 36 = .ok (.iaload, 1) := by decide +kernel
theorem dX4_owner_37 : decode cX4_owner 37 = .ok (.ireturn, 1) := by decide +kernel
theorem dX4_setOwner_0 : decode cX4_setOwner 0 = .ok (.iload_n 1, 1) := by decide +kernel
theorem dX4_setOwner_1 : decode cX4_setOwner 1 = .ok (.invokestatic 171, 3) := by decide +kernel
theorem dX4_setOwner_4 : decode cX4_setOwner 4 = .ok (.istore_n 3, 1) := by decide +kernel
theorem dX4_setOwner_5 : decode cX4_setOwner 5 = .ok (.aload_n 0, 1) := by decide +kernel
theorem dX4_setOwner_6 : decode cX4_setOwner 6 = .ok (.iload_n 3, 1) := by decide +kernel
theorem dX4_setOwner_7 : decode cX4_setOwner 7 = .ok (.iconst (-1), 1) := by decide +kernel
theorem dX4_setOwner_8 : decode cX4_setOwner 8 = .ok (.if_icmp .ne 7, 3) := by decide +kernel
theorem dX4_setOwner_11 : decode cX4_setOwner 11 = .ok (.iconst 1, 1) := by decide +kernel
theorem dX4_setOwner_12 : decode cX4_setOwner 12 = .ok (.goto 15, 3) := by decide +kernel
theorem dX4_setOwner_15 : decode cX4_setOwner 15 = .ok (.iload_n 2, 1) := by decide +kernel
theorem dX4_setOwner_16 : decode cX4_setOwner 16 = .ok (.invokestatic 168, 3) := by decide +kernel
theorem dX4_setOwner_19 : decode cX4_setOwner 19 = .ok (.ifCond .ne 7, 3) := by decide +kernel
theorem dX4_setOwner_22 : decode cX4_setOwner 22 = .ok (.iconst 2, 1) := by decide +kernel
theorem dX4_setOwner_23 : decode cX4_setOwner 23 = .ok (.goto 4, 3) := by decide +kernel
theorem dX4_setOwner_26 : decode cX4_setOwner 26 = .ok (.iconst 0, 1) := by decide +kernel
theorem dX4_setOwner_27 : decode cX4_setOwner 27 = .ok (.putfield 59, 3) := by decide +kernel
theorem dX4_setOwner_30 : decode cX4_setOwner 30 = .ok (.iconst 0, 1) := by decide +kernel
theorem dX4_setOwner_31 : decode cX4_setOwner 31 = .ok (.istore 4, 2) := by decide +kernel
theorem dX4_setOwner_33 : decode cX4_setOwner 33 = .ok (.iload 4, 2) := by decide +kernel
theorem dX4_setOwner_35 : decode cX4_setOwner 35 = .ok (.aload_n 0, 1) := by decide +kernel
theorem dX4_setOwner_36 : decode cX4_setOwner 36 = .ok (.getfield 63, 3) := by decide +kernel
theorem dX4_setOwner_39 : decode cX4_setOwner 39 = .ok (.if_icmp .ge 86, 3) := by decide +kernel
theorem dX4_setOwner_42 : decode cX4_setOwner 42 = .ok (.aload_n 0, 1) := by decide +kernel
theorem dX4_setOwner_43 : decode cX4_setOwner 43 = .ok (.getfield 59, 3) := by decide +kernel
theorem dX4_setOwner_46 : decode cX4_setOwner 46 = .ok (.ifCond .ne 79, 3) := by decide +kernel
theorem dX4_setOwner_49 : decode cX4_setOwner 49 = .ok (.iconst 0, 1) := by decide +kernel
theorem dX4_setOwner_50 : decode cX4_setOwner 50 = .ok (.istore 5, 2) := by decide +kernel
theorem dX4_setOwner_52 : decode cX4_setOwner 52 = .ok (.iload 5, 2) := by decide +kernel
theorem dX4_setOwner_54 : decode cX4_setOwner 54 = .ok (.aload_n 0, 1) := by decide +kernel
theorem dX4_setOwner_55 : decode cX4_setOwner 55 = .ok (.getfield 70, 3) := by decide +kernel
theorem dX4_setOwner_58 : decode cX4_setOwner 58 = .ok (.if_icmp .ge 61, 3) := by decide +kernel
theorem dX4_setOwner_61 : decode cX4_setOwner 61 = .ok (.aload_n 0, 1) := by decide +kernel
theorem dX4_setOwner_62 : decode cX4_setOwner 62 = .ok (.getfield 59, 3) := by decide +kernel
theorem dX4_setOwner_65 : decode cX4_setOwner 65 = .ok (.ifCond .ne 54, 3) := by decide +kernel
theorem dX4_setOwner_68 : decode cX4_setOwner 68 = .ok (.aload_n 0, 1) := by decide +kernel
theorem dX4_setOwner_69 : decode cX4_setOwner 69 = .ok (.aload_n 0, 1) := by decide +kernel
theorem dX4_setOwner_70 : decode cX4_setOwner 70 = .ok (.getfield 44, 3) := by decide +kernel
theorem dX4_setOwner_73 : decode cX4_setOwner 73 = .ok (.iload_n 2, 1) := by decide +kernel
theorem dX4_setOwner_74 : decode cX4_setOwner 74 = .ok (.iload 4, 2) := by decide +kernel
theorem dX4_setOwner_76 : decode cX4_setOwner 76 = .ok (.iload 5, 2) := by decide +kernel
theorem dX4_setOwner_78 : decode cX4_setOwner 78 = .ok (.iload_n 3, 1) := by decide +kernel
theorem dX4_setOwner_79 : decode cX4_setOwner 79 = .ok (.invokestatic 103, 3) := by decide +kernel
theorem dX4_setOwner_82 : decode cX4_setOwner 82 = .ok (.iaload, 1) := by decide +kernel
theorem dX4_setOwner_83 : decode cX4_setOwner 83 = .ok (.aload_n 0, 1) := by decide +kernel
theorem dX4_setOwner_84 : decode cX4_setOwner 84 = .ok (.getfield 44, 3) := by decide +kernel
theorem dX4_setOwner_87 : decode cX4_setOwner 87 = .ok (.aload_n 0, 1) := by decide +kernel
theorem dX4_setOwner_88 : decode cX4_setOwner 88 = .ok (.getfield 47, 3) := by decide +kernel
theorem dX4_setOwner_91 : decode cX4_setOwner 91 = .ok (.iload_n 3, 1) := by decide +kernel
theorem dX4_setOwner_92 : decode cX4_setOwner 92 = .ok (.iaload, 1) := by decide +kernel
theorem dX4_setOwner_93 : decode cX4_setOwner 93 = .ok (.iload 4, 2) := by decide +kernel
theorem dX4_setOwner_95 : decode cX4_setOwner 95 = .ok (.iload 5, 2) := by decide +kernel
theorem dX4_setOwner_97 : decode cX4_setOwner 97 = .ok (.iload_n 3, 1) := by decide +kernel
theorem dX4_setOwner_98 : decode cX4_setOwner 98 = .ok (.invokestatic 103, 3) := by decide +kernel
theorem dX4_setOwner_101 : decode cX4_setOwner 101 = .ok (.iaload, 1) := by decide +kernel
theorem dX4_setOwner_102 : decode cX4_setOwner 102 = .ok (.if_icmp .ne 7, 3) := by decide +kernel
theorem dX4_setOwner_105 : decode cX4_setOwner 105 = .ok (.iconst 0, 1) := by decide +kernel
theorem dX4_setOwner_106 : decode cX4_setOwner 106 = .ok (.goto 4, 3) := by decide +kernel
theorem dX4_setOwner_109 : decode cX4_setOwner 109 = .ok (.iconst 3, 1) := by decide +kernel
theorem dX4_setOwner_110 : decode cX4_setOwner 110 = .ok (.putfield 59, 3) := by decide +kernel
theorem dX4_setOwner_113 : decode cX4_setOwner 113 = .ok (.iinc 5 1, 3) := by decide +kernel
theorem dX4_setOwner_116 : decode cX4_setOwner 116 = .ok (.goto (-64), 3) := by decide +kernel
theorem dX4_setOwner_119 : decode cX4_setOwner 119 = .ok (.iinc 4 1, 3) := by decide +kernel
theorem dX4_setOwner_122 : decode cX4_setOwner 122 = .ok (.goto (-89), 3) := by decide +kernel
theorem dX4_setOwner_125 : decode cX4_setOwner 125 = .ok (.aload_n 0, 1) := by decide +kernel
theorem dX4_setOwner_126 : decode cX4_setOwner 126 = .ok (.getfield 59, 3) := by decide +kernel
theorem dX4_setOwner_129 : decode cX4_setOwner 129 = .ok (.ifCond .le 5, 3) := by decide +kernel
theorem dX4_setOwner_132 : decode cX4_setOwner 132 = .ok (.iconst 0, 1) := by decide +kernel
theorem dX4_setOwner_133 : decode cX4_setOwner 133 = .ok (.ireturn, 1) := by decide +kernel
theorem dX4_setOwner_134 : decode cX4_setOwner 134 = .ok (.aload_n 0, 1) := by decide +kernel
theorem dX4_setOwner_135 : decode cX4_setOwner 135 = .ok (.getfield 47, 3) := by decide +kernel
theorem dX4_setOwner_138 : decode cX4_setOwner 138 = .ok (.iload_n 3, 1) := by decide +kernel
theorem dX4_setOwner_139 : decode cX4_setOwner 139 = .ok (.iaload, 1) := by decide +kernel
theorem dX4_setOwner_140 : decode cX4_setOwner 140 = .ok (.istore 4, 2) := by decide +kernel
theorem dX4_setOwner_142 : decode cX4_setOwner 142 = .ok (.aload_n 0, 1) := by decide +kernel
theorem dX4_setOwner_143 : decode cX4_setOwner 143 = .ok (.getfield 47, 3) := by decide +kernel
theorem dX4_setOwner_146 : decode cX4_setOwner 146 = .ok (.iload_n 3, 1) := by decide +kernel
theorem dX4_setOwner_147 : decode cX4_setOwner 147 = .ok (.iload_n 2, 1) := by decide +kernel
theorem dX4_setOwner_148 : decode cX4_setOwner 148 = .ok (.iastore, 1) := by decide +kernel
theorem dX4_setOwner_149 : decode cX4_setOwner 149 = .ok (.iload 4, 2) := by decide +kernel
theorem dX4_setOwner_151 : decode cX4_setOwner 151 = .ok (.ireturn, 1) := by decide +kernel
theorem dX4_apart_0 : decode cX4_apart 0 = .ok (.iload_n 1, 1) := by decide +kernel
theorem dX4_apart_1 : decode cX4_apart 1 = .ok (.invokestatic 171, 3) := by decide +kernel
theorem dX4_apart_4 : decode cX4_apart 4 = .ok (.istore_n 2, 1) := by decide +kernel
theorem dX4_apart_5 : decode cX4_apart 5 = .ok (.aload_n 0, 1) := by decide +kernel
theorem dX4_apart_6 : decode cX4_apart 6 = .ok (.iload_n 2, 1) := by decide +kernel
theorem dX4_apart_7 : decode cX4_apart 7 = .ok (.iconst (-1), 1) := by decide +kernel
theorem dX4_apart_8 : decode cX4_apart 8 = .ok (.if_icmp .ne 7, 3) := by decide +kernel
theorem dX4_apart_11 : decode cX4_apart 11 = .ok (.iconst 1, 1) := by decide +kernel
theorem dX4_apart_12 : decode cX4_apart 12 = .ok (.goto 4, 3) := by decide +kernel
theorem dX4_apart_15 : decode cX4_apart 15 = .ok (.iconst 0, 1) := by decide +kernel
theorem dX4_apart_16 : decode cX4_apart 16 = .ok (.putfield 59, 3) := by decide +kernel
theorem dX4_apart_19 : decode cX4_apart 19 = .ok (.iconst 0, 1) := by decide +kernel
theorem dX4_apart_20 : decode cX4_apart 20 = .ok (.istore_n 3, 1) := by decide +kernel
theorem dX4_apart_21 : decode cX4_apart 21 = .ok (.iconst 0, 1) := by decide +kernel
theorem dX4_apart_22 : decode cX4_apart 22 = .ok (.istore 4, 2) := by decide +kernel
theorem dX4_apart_24 : decode cX4_apart 24 = .ok (.iload 4, 2) := by decide +kernel
theorem dX4_apart_26 : decode cX4_apart 26 = .ok (.aload_n 0, 1) := by decide +kernel
theorem dX4_apart_27 : decode cX4_apart 27 = .ok (.getfield 63, 3) := by decide +kernel
theorem dX4_apart_30 : decode cX4_apart 30 = .ok (.if_icmp .ge 54, 3) := by decide +kernel
theorem dX4_apart_33 : decode cX4_apart 33 = .ok (.aload_n 0, 1) := by decide +kernel
theorem dX4_apart_34 : decode cX4_apart 34 = .ok (.getfield 59, 3) := by decide +kernel
theorem dX4_apart_37 : decode cX4_apart 37 = .ok (.ifCond .ne 47, 3) := by decide +kernel
theorem dX4_apart_40 : decode cX4_apart 40 = .ok (.iconst 0, 1) := by decide +kernel
theorem dX4_apart_41 : decode cX4_apart 41 = .ok (.istore 5, 2) := by decide +kernel
theorem dX4_apart_43 : decode cX4_apart 43 = .ok (.iload 5, 2) := by decide +kernel
theorem dX4_apart_45 : decode cX4_apart 45 = .ok (.aload_n 0, 1) := by decide +kernel
theorem dX4_apart_46 : decode cX4_apart 46 = .ok (.getfield 70, 3) := by decide +kernel
theorem dX4_apart_49 : decode cX4_apart 49 = .ok (.if_icmp .ge 29, 3) := by decide +kernel
theorem dX4_apart_52 : decode cX4_apart 52 = .ok (.iload_n 3, 1) := by decide +kernel
theorem dX4_apart_53 : decode cX4_apart 53 = .ok (.aload_n 0, 1) := by decide +kernel
theorem dX4_apart_54 : decode cX4_apart 54 = .ok (.iload 4, 2) := by decide +kernel
theorem dX4_apart_56 : decode cX4_apart 56 = .ok (.iload 5, 2) := by decide +kernel
theorem dX4_apart_58 : decode cX4_apart 58 = .ok (.iload_n 2, 1) := by decide +kernel
theorem dX4_apart_59 : decode cX4_apart 59 = .ok (.invokevirtual 107, 3) := by decide +kernel
theorem dX4_apart_62 : decode cX4_apart 62 = .ok (.ifCond .eq 7, 3) := by decide +kernel
theorem dX4_apart_65 : decode cX4_apart 65 = .ok (.iconst 0, 1) := by decide +kernel
theorem dX4_apart_66 : decode cX4_apart 66 = .ok (.goto 4, 3) := by decide +kernel
theorem dX4_apart_69 : decode cX4_apart 69 = .ok (.iconst 1, 1) := by decide +kernel
theorem dX4_apart_70 : decode cX4_apart 70 = .ok (.iadd, 1) := by decide +kernel
theorem dX4_apart_71 : decode cX4_apart 71 = .ok (.istore_n 3, 1) := by decide +kernel
theorem dX4_apart_72 : decode cX4_apart 72 = .ok (.iinc 5 1, 3) := by decide +kernel
theorem dX4_apart_75 : decode cX4_apart 75 = .ok (.goto (-32), 3) := by decide +kernel
theorem dX4_apart_78 : decode cX4_apart 78 = .ok (.iinc 4 1, 3) := by decide +kernel
theorem dX4_apart_81 : decode cX4_apart 81 = .ok (.goto (-57), 3) := by decide +kernel
theorem dX4_apart_84 : decode cX4_apart 84 = .ok (.iload_n 3, 1) := by decide +kernel
theorem dX4_apart_85 : decode cX4_apart 85 = .ok (.ireturn, 1) := by decide +kernel
theorem dX4_maySit_0 : decode cX4_maySit 0 = .ok (.aload_n 0, 1) := by decide +kernel
theorem dX4_maySit_1 : decode cX4_maySit 1 = .ok (.aload_n 0, 1) := by decide +kernel
theorem dX4_maySit_2 : decode cX4_maySit 2 = .ok (.iload_n 1, 1) := by decide +kernel
theorem dX4_maySit_3 : decode cX4_maySit 3 = .ok (.invokevirtual 90, 3) := by decide +kernel
theorem dX4_maySit_6 : decode cX4_maySit 6 = .ok (.ifCond .eq 11, 3) := by decide +kernel
theorem dX4_maySit_9 : decode cX4_maySit 9 = .ok (.aload_n 0, 1) := by decide +kernel
theorem dX4_maySit_10 : decode cX4_maySit 10 = .ok (.iload_n 2, 1) := by decide +kernel
theorem dX4_maySit_11 : decode cX4_maySit 11 = .ok (.invokevirtual 79, 3) := by decide +kernel
theorem dX4_maySit_14 : decode cX4_maySit 14 = .ok (.ifCond .ne 7, 3) := by decide +kernel
theorem dX4_maySit_17 : decode cX4_maySit 17 = .ok (.iconst 1, 1) := by decide +kernel
theorem dX4_maySit_18 : decode cX4_maySit 18 = .ok (.goto 4, 3) := by decide +kernel
theorem dX4_maySit_21 : decode cX4_maySit 21 = .ok (.iconst 0, 1) := by decide +kernel
theorem dX4_maySit_22 : decode cX4_maySit 22 = .ok (.putfield 59, 3) := by decide +kernel
theorem dX4_maySit_25 : decode cX4_maySit 25 = .ok (.aload_n 0, 1) := by decide +kernel
theorem dX4_maySit_26 : decode cX4_maySit 26 = .ok (.getfield 59, 3) := by decide +kernel
theorem dX4_maySit_29 : decode cX4_maySit 29 = .ok (.ifCond .ne 16, 3) := by decide +kernel
theorem dX4_maySit_32 : decode cX4_maySit 32 = .ok (.aload_n 0, 1) := by decide +kernel
theorem dX4_maySit_33 : decode cX4_maySit 33 = .ok (.iload_n 1, 1) := by decide +kernel
theorem dX4_maySit_34 : decode cX4_maySit 34 = .ok (.iload_n 2, 1) := by decide +kernel
theorem dX4_maySit_35 : decode cX4_maySit 35 = .ok (.invokevirtual 113, 3) := by decide +kernel
theorem dX4_maySit_38 : decode cX4_maySit 38 = .ok (.ifCond .eq 7, 3) := by decide +kernel
theorem dX4_maySit_41 : decode cX4_maySit 41 = .ok (.iconst 1, 1) := by decide +kernel
theorem dX4_maySit_42 : decode cX4_maySit 42 = .ok (.goto 4, 3) := by decide +kernel
theorem dX4_maySit_45 : decode cX4_maySit 45 = .ok (.iconst 0, 1) := by decide +kernel
theorem dX4_maySit_46 : decode cX4_maySit 46 = .ok (.ireturn, 1) := by decide +kernel
theorem dX4_isOpen_0 : decode cX4_isOpen 0 = .ok (.aload_n 0, 1) := by decide +kernel
theorem dX4_isOpen_1 : decode cX4_isOpen 1 = .ok (.aload_n 0, 1) := by decide +kernel
theorem dX4_isOpen_2 : decode cX4_isOpen 2 = .ok (.iload_n 1, 1) := by decide +kernel
theorem dX4_isOpen_3 : decode cX4_isOpen 3 = .ok (.invokevirtual 90, 3) := by decide +kernel
theorem dX4_isOpen_6 : decode cX4_isOpen 6 = .ok (.ifCond .eq 11, 3) := by decide +kernel
theorem dX4_isOpen_9 : decode cX4_isOpen 9 = .ok (.aload_n 0, 1) := by decide +kernel
theorem dX4_isOpen_10 : decode cX4_isOpen 10 = .ok (.iload_n 2, 1) := by decide +kernel
theorem dX4_isOpen_11 : decode cX4_isOpen 11 = .ok (.invokevirtual 79, 3) := by decide +kernel
theorem dX4_isOpen_14 : decode cX4_isOpen 14 = .ok (.ifCond .ne 7, 3) := by decide +kernel
theorem dX4_isOpen_17 : decode cX4_isOpen 17 = .ok (.iconst 1, 1) := by decide +kernel
theorem dX4_isOpen_18 : decode cX4_isOpen 18 = .ok (.goto 4, 3) := by decide +kernel
theorem dX4_isOpen_21 : decode cX4_isOpen 21 = .ok (.iconst 0, 1) := by decide +kernel
theorem dX4_isOpen_22 : decode cX4_isOpen 22 = .ok (.putfield 59, 3) := by decide +kernel
theorem dX4_isOpen_25 : decode cX4_isOpen 25 = .ok (.aload_n 0, 1) := by decide +kernel
theorem dX4_isOpen_26 : decode cX4_isOpen 26 = .ok (.getfield 59, 3) := by decide +kernel
theorem dX4_isOpen_29 : decode cX4_isOpen 29 = .ok (.ifCond .ne 16, 3) := by decide +kernel
theorem dX4_isOpen_32 : decode cX4_isOpen 32 = .ok (.aload_n 0, 1) := by decide +kernel
theorem dX4_isOpen_33 : decode cX4_isOpen 33 = .ok (.iload_n 1, 1) := by decide +kernel
theorem dX4_isOpen_34 : decode cX4_isOpen 34 = .ok (.iload_n 2, 1) := by decide +kernel
theorem dX4_isOpen_35 : decode cX4_isOpen 35 = .ok (.invokevirtual 110, 3) := by decide +kernel
theorem dX4_isOpen_38 : decode cX4_isOpen 38 = .ok (.ifCond .eq 7, 3) := by decide +kernel
theorem dX4_isOpen_41 : decode cX4_isOpen 41 = .ok (.iconst 1, 1) := by decide +kernel
theorem dX4_isOpen_42 : decode cX4_isOpen 42 = .ok (.goto 4, 3) := by decide +kernel
theorem dX4_isOpen_45 : decode cX4_isOpen 45 = .ok (.iconst 0, 1) := by decide +kernel
theorem dX4_isOpen_46 : decode cX4_isOpen 46 = .ok (.ireturn, 1) := by decide +kernel
theorem dX4_satCell_0 : decode cX4_satCell 0 = .ok (.iconst 2, 1) := by decide +kernel
theorem dX4_satCell_1 : decode cX4_satCell 1 = .ok (.iload_n 0, 1) := by decide +kernel
theorem dX4_satCell_2 : decode cX4_satCell 2 = .ok (.bipush 6, 2) := by decide +kernel
theorem dX4_satCell_4 : decode cX4_satCell 4 = .ok (.imul, 1) := by decide +kernel
theorem dX4_satCell_5 : decode cX4_satCell 5 = .ok (.iload_n 1, 1) := by decide +kernel
theorem dX4_satCell_6 : decode cX4_satCell 6 = .ok (.iadd, 1) := by decide +kernel
theorem dX4_satCell_7 : decode cX4_satCell 7 = .ok (.imul, 1) := by decide +kernel
theorem dX4_satCell_8 : decode cX4_satCell 8 = .ok (.iload_n 2, 1) := by decide +kernel
theorem dX4_satCell_9 : decode cX4_satCell 9 = .ok (.ifCond .eq 7, 3) := by decide +kernel
theorem dX4_satCell_12 : decode cX4_satCell 12 = .ok (.iconst 1, 1) := by decide +kernel
theorem dX4_satCell_13 : decode cX4_satCell 13 = .ok (.goto 4, 3) := by decide +kernel
theorem dX4_satCell_16 : decode cX4_satCell 16 = .ok (.iconst 0, 1) := by decide +kernel
theorem dX4_satCell_17 : decode cX4_satCell 17 = .ok (.iadd, 1) := by decide +kernel
theorem dX4_satCell_18 : decode cX4_satCell 18 = .ok (.ireturn, 1) := by decide +kernel
theorem dX4_sit_0 : decode cX4_sit 0 = .ok (.aload_n 0, 1) := by decide +kernel
theorem dX4_sit_1 : decode cX4_sit 1 = .ok (.iload_n 1, 1) := by decide +kernel
theorem dX4_sit_2 : decode cX4_sit 2 = .ok (.invokestatic 83, 3) := by decide +kernel
theorem dX4_sit_5 : decode cX4_sit 5 = .ok (.ifCond .ne 7, 3) := by decide +kernel
theorem dX4_sit_8 : decode cX4_sit 8 = .ok (.iconst 1, 1) := by decide +kernel
theorem dX4_sit_9 : decode cX4_sit 9 = .ok (.goto 4, 3) := by decide +kernel
theorem dX4_sit_12 : decode cX4_sit 12 = .ok (.iconst 0, 1) := by decide +kernel
theorem dX4_sit_13 : decode cX4_sit 13 = .ok (.putfield 59, 3) := by decide +kernel
theorem dX4_sit_16 : decode cX4_sit 16 = .ok (.aload_n 0, 1) := by decide +kernel
theorem dX4_sit_17 : decode cX4_sit 17 = .ok (.getfield 59, 3) := by decide +kernel
theorem dX4_sit_20 : decode cX4_sit 20 = .ok (.ifCond .ne 21, 3) := by decide +kernel
theorem dX4_sit_23 : decode cX4_sit 23 = .ok (.aload_n 0, 1) := by decide +kernel
theorem dX4_sit_24 : decode cX4_sit 24 = .ok (.aload_n 0, 1) := by decide +kernel
theorem dX4_sit_25 : decode cX4_sit 25 = .ok (.getfield 53, 3) := by decide +kernel
theorem dX4_sit_28 : decode cX4_sit 28 = .ok (.iload_n 1, 1) := by decide +kernel
theorem dX4_sit_29 : decode cX4_sit 29 = .ok (.baload, 1) := by decide +kernel
theorem dX4_sit_30 : decode cX4_sit 30 = .ok (.ifCond .eq 7, 3) := by decide +kernel
theorem dX4_sit_33 : decode cX4_sit 33 = .ok (.iconst 2, 1) := by decide +kernel
theorem dX4_sit_34 : decode cX4_sit 34 = .ok (.goto 4, 3) := by decide +kernel
theorem dX4_sit_37 : decode cX4_sit 37 = .ok (.iconst 0, 1) := by decide +kernel
theorem dX4_sit_38 : decode cX4_sit 38 = .ok (.putfield 59, 3) := by decide +kernel
theorem dX4_sit_41 : decode cX4_sit 41 = .ok (.aload_n 0, 1) := by decide +kernel
theorem dX4_sit_42 : decode cX4_sit 42 = .ok (.getfield 59, 3) := by decide +kernel
theorem dX4_sit_45 : decode cX4_sit 45 = .ok (.ifCond .le 5, 3) := by decide +kernel
theorem dX4_sit_48 : decode cX4_sit 48 = .ok (.iconst 0, 1) := by decide +kernel
theorem dX4_sit_49 : decode cX4_sit 49 = .ok (.ireturn, 1) := by decide +kernel
theorem dX4_sit_50 : decode cX4_sit 50 = .ok (.iconst 0, 1) := by decide +kernel
theorem dX4_sit_51 : decode cX4_sit 51 = .ok (.istore_n 2, 1) := by decide +kernel
theorem dX4_sit_52 : decode cX4_sit 52 = .ok (.iconst 0, 1) := by decide +kernel
theorem dX4_sit_53 : decode cX4_sit 53 = .ok (.istore_n 3, 1) := by decide +kernel
theorem dX4_sit_54 : decode cX4_sit 54 = .ok (.iload_n 3, 1) := by decide +kernel
theorem dX4_sit_55 : decode cX4_sit 55 = .ok (.aload_n 0, 1) := by decide +kernel
theorem dX4_sit_56 : decode cX4_sit 56 = .ok (.getfield 73, 3) := by decide +kernel
theorem dX4_sit_59 : decode cX4_sit 59 = .ok (.if_icmp .ge 126, 3) := by decide +kernel
theorem dX4_sit_62 : decode cX4_sit 62 = .ok (.iconst 0, 1) := by decide +kernel
theorem dX4_sit_63 : decode cX4_sit 63 = .ok (.istore 4, 2) := by decide +kernel
theorem dX4_sit_65 : decode cX4_sit 65 = .ok (.iload 4, 2) := by decide +kernel
theorem dX4_sit_67 : decode cX4_sit 67 = .ok (.aload_n 0, 1) := by decide +kernel
theorem dX4_sit_68 : decode cX4_sit 68 = .ok (.getfield 63, 3) := by decide +kernel
theorem dX4_sit_71 : decode cX4_sit 71 = .ok (.if_icmp .ge 108, 3) := by decide +kernel
theorem dX4_sit_74 : decode cX4_sit 74 = .ok (.aload_n 0, 1) := by decide +kernel
theorem dX4_sit_75 : decode cX4_sit 75 = .ok (.getfield 16, 3) := by decide +kernel
theorem dX4_sit_78 : decode cX4_sit 78 = .ok (.iload_n 3, 1) := by decide +kernel
theorem dX4_sit_79 : decode cX4_sit 79 = .ok (.iaload, 1) := by decide +kernel
theorem dX4_sit_80 : decode cX4_sit 80 = .ok (.iload_n 1, 1) := by decide +kernel
theorem dX4_sit_81 : decode cX4_sit 81 = .ok (.if_icmp .ne 98, 3) := by decide +kernel
theorem dX4_sit_84 : decode cX4_sit 84 = .ok (.aload_n 0, 1) := by decide +kernel
theorem dX4_sit_85 : decode cX4_sit 85 = .ok (.getfield 41, 3) := by decide +kernel
theorem dX4_sit_88 : decode cX4_sit 88 = .ok (.iload 4, 2) := by decide +kernel
theorem dX4_sit_90 : decode cX4_sit 90 = .ok (.iload_n 3, 1) := by decide +kernel
theorem dX4_sit_91 : decode cX4_sit 91 = .ok (.invokestatic 96, 3) := by decide +kernel
theorem dX4_sit_94 : decode cX4_sit 94 = .ok (.iaload, 1) := by decide +kernel
theorem dX4_sit_95 : decode cX4_sit 95 = .ok (.istore 5, 2) := by decide +kernel
theorem dX4_sit_97 : decode cX4_sit 97 = .ok (.iload 5, 2) := by decide +kernel
theorem dX4_sit_99 : decode cX4_sit 99 = .ok (.iconst (-1), 1) := by decide +kernel
theorem dX4_sit_100 : decode cX4_sit 100 = .ok (.if_icmp .eq 47, 3) := by decide +kernel
theorem dX4_sit_103 : decode cX4_sit 103 = .ok (.aload_n 0, 1) := by decide +kernel
theorem dX4_sit_104 : decode cX4_sit 104 = .ok (.iload 4, 2) := by decide +kernel
theorem dX4_sit_106 : decode cX4_sit 106 = .ok (.aload_n 0, 1) := by decide +kernel
theorem dX4_sit_107 : decode cX4_sit 107 = .ok (.getfield 13, 3) := by decide +kernel
theorem dX4_sit_110 : decode cX4_sit 110 = .ok (.iload_n 3, 1) := by decide +kernel
theorem dX4_sit_111 : decode cX4_sit 111 = .ok (.iaload, 1) := by decide +kernel
theorem dX4_sit_112 : decode cX4_sit 112 = .ok (.invokevirtual 113, 3) := by decide +kernel
theorem dX4_sit_115 : decode cX4_sit 115 = .ok (.ifCond .eq 32, 3) := by decide +kernel
theorem dX4_sit_118 : decode cX4_sit 118 = .ok (.aload_n 0, 1) := by decide +kernel
theorem dX4_sit_119 : decode cX4_sit 119 = .ok (.getfield 56, 3) := by decide +kernel
theorem dX4_sit_122 : decode cX4_sit 122 = .ok (.iload 4, 2) := by decide +kernel
theorem dX4_sit_124 : decode cX4_sit 124 = .ok (.aload_n 0, 1) := by decide +kernel
theorem dX4_sit_125 : decode cX4_sit 125 = .ok (.getfield 13, 3) := by decide +kernel
theorem dX4_sit_128 : decode cX4_sit 128 = .ok (.iload_n 3, 1) := by decide +kernel
theorem dX4_sit_129 : decode cX4_sit 129 = .ok (.iaload, 1) := by decide +kernel
theorem dX4_sit_130 : decode cX4_sit 130 = .ok (.aload_n 0, 1) := by decide +kernel
theorem dX4_sit_131 : decode cX4_sit 131 = .ok (.getfield 22, 3) := by decide +kernel
theorem dX4_sit_134 : decode cX4_sit 134 = .ok (.iload_n 3, 1) := by decide +kernel
theorem dX4_sit_135 : decode cX4_sit 135 = .ok (.baload, 1) := by decide +kernel
theorem dX4_sit_136 : decode cX4_sit 136 = .ok (.invokestatic 178, 3) := by decide +kernel
theorem dX4_sit_139 : decode cX4_sit 139 = .ok (.iconst 1, 1) := by decide +kernel
theorem dX4_sit_140 : decode cX4_sit 140 = .ok (.bastore, 1) := by decide +kernel
theorem dX4_sit_141 : decode cX4_sit 141 = .ok (.iinc 2 1, 3) := by decide +kernel
theorem dX4_sit_144 : decode cX4_sit 144 = .ok (.goto 29, 3) := by decide +kernel
theorem dX4_sit_147 : decode cX4_sit 147 = .ok (.iload 5, 2) := by decide +kernel
theorem dX4_sit_149 : decode cX4_sit 149 = .ok (.iconst (-1), 1) := by decide +kernel
theorem dX4_sit_150 : decode cX4_sit 150 = .ok (.if_icmp .eq 23, 3) := by decide +kernel
theorem dX4_sit_153 : decode cX4_sit 153 = .ok (.aload_n 0, 1) := by decide +kernel
theorem dX4_sit_154 : decode cX4_sit 154 = .ok (.iload 4, 2) := by decide +kernel
theorem dX4_sit_156 : decode cX4_sit 156 = .ok (.iload 5, 2) := by decide +kernel
theorem dX4_sit_158 : decode cX4_sit 158 = .ok (.invokevirtual 162, 3) := by decide +kernel
theorem dX4_sit_161 : decode cX4_sit 161 = .ok (.aload_n 0, 1) := by decide +kernel
theorem dX4_sit_162 : decode cX4_sit 162 = .ok (.getfield 41, 3) := by decide +kernel
theorem dX4_sit_165 : decode cX4_sit 165 = .ok (.iload 4, 2) := by decide +kernel
theorem dX4_sit_167 : decode cX4_sit 167 = .ok (.iload_n 3, 1) := by decide +kernel
theorem dX4_sit_168 : decode cX4_sit 168 = .ok (.invokestatic 96, 3) := by decide +kernel
theorem dX4_sit_171 : decode cX4_sit 171 = .ok (.iconst (-1), 1) := by decide +kernel
theorem dX4_sit_172 : decode cX4_sit 172 = .ok (.iastore, 1) := by decide +kernel
theorem dX4_sit_173 : decode cX4_sit 173 = .ok (.iinc 4 1, 3) := by decide +kernel
theorem dX4_sit_176 : decode cX4_sit 176 = .ok (.goto (-111), 3) := by decide +kernel
theorem dX4_sit_179 : decode cX4_sit 179 = .ok (.iinc 3 1, 3) := by decide +kernel
theorem dX4_sit_182 : decode cX4_sit 182 = .ok (.goto (-128), 3) := by decide +kernel
theorem dX4_sit_185 : decode cX4_sit 185 = .ok (.aload_n 0, 1) := by decide +kernel
theorem dX4_sit_186 : decode cX4_sit 186 = .ok (.getfield 53, 3) := by decide +kernel
theorem dX4_sit_189 : decode cX4_sit 189 = .ok (.iload_n 1, 1) := by decide +kernel
theorem dX4_sit_190 : decode cX4_sit 190 = .ok (.iconst 1, 1) := by decide +kernel
theorem dX4_sit_191 : decode cX4_sit 191 = .ok (.bastore, 1) := by decide +kernel
theorem dX4_sit_192 : decode cX4_sit 192 = .ok (.iload_n 2, 1) := by decide +kernel
theorem dX4_sit_193 : decode cX4_sit 193 = .ok (.ireturn, 1) := by decide +kernel
theorem dX4_hasSat_0 : decode cX4_hasSat 0 = .ok (.aload_n 0, 1) := by decide +kernel
theorem dX4_hasSat_1 : decode cX4_hasSat 1 = .ok (.aload_n 0, 1) := by decide +kernel
theorem dX4_hasSat_2 : decode cX4_hasSat 2 = .ok (.iload_n 1, 1) := by decide +kernel
theorem dX4_hasSat_3 : decode cX4_hasSat 3 = .ok (.invokevirtual 90, 3) := by decide +kernel
theorem dX4_hasSat_6 : decode cX4_hasSat 6 = .ok (.ifCond .eq 11, 3) := by decide +kernel
theorem dX4_hasSat_9 : decode cX4_hasSat 9 = .ok (.aload_n 0, 1) := by decide +kernel
theorem dX4_hasSat_10 : decode cX4_hasSat 10 = .ok (.iload_n 2, 1) := by decide +kernel
theorem dX4_hasSat_11 : decode cX4_hasSat 11 = .ok (.invokevirtual 79, 3) := by decide +kernel
theorem dX4_hasSat_14 : decode cX4_hasSat 14 = .ok (.ifCond .ne 7, 3) := by decide +kernel
theorem dX4_hasSat_17 : decode cX4_hasSat 17 = .ok (.iconst 1, 1) := by decide +kernel
theorem dX4_hasSat_18 : decode cX4_hasSat 18 = .ok (.goto 4, 3) := by decide +kernel
theorem dX4_hasSat_21 : decode cX4_hasSat 21 = .ok (.iconst 0, 1) := by decide +kernel
theorem dX4_hasSat_22 : decode cX4_hasSat 22 = .ok (.putfield 59, 3) := by decide +kernel
theorem dX4_hasSat_25 : decode cX4_hasSat 25 = .ok (.aload_n 0, 1) := by decide +kernel
theorem dX4_hasSat_26 : decode cX4_hasSat 26 = .ok (.getfield 59, 3) := by decide +kernel
theorem dX4_hasSat_29 : decode cX4_hasSat 29 = .ok (.ifCond .ne 21, 3) := by decide +kernel
theorem dX4_hasSat_32 : decode cX4_hasSat 32 = .ok (.aload_n 0, 1) := by decide +kernel
theorem dX4_hasSat_33 : decode cX4_hasSat 33 = .ok (.getfield 56, 3) := by decide +kernel
theorem dX4_hasSat_36 : decode cX4_hasSat 36 = .ok (.iload_n 1, 1) := by decide +kernel
theorem dX4_hasSat_37 : decode cX4_hasSat 37 = .ok (.iload_n 2, 1) := by decide +kernel
theorem dX4_hasSat_38 : decode cX4_hasSat 38 = .ok (.iload_n 3, 1) := by decide +kernel
theorem dX4_hasSat_39 : decode cX4_hasSat 39 = .ok (.invokestatic 178, 3) := by decide +kernel
theorem dX4_hasSat_42 : decode cX4_hasSat 42 = .ok (.baload, 1) := by decide +kernel
theorem dX4_hasSat_43 : decode cX4_hasSat 43 = .ok (.ifCond .eq 7, 3) := by decide +kernel
theorem dX4_hasSat_46 : decode cX4_hasSat 46 = .ok (.iconst 1, 1) := by decide +kernel
theorem dX4_hasSat_47 : decode cX4_hasSat 47 = .ok (.goto 4, 3) := by decide +kernel
theorem dX4_hasSat_50 : decode cX4_hasSat 50 = .ok (.iconst 0, 1) := by decide +kernel
theorem dX4_hasSat_51 : decode cX4_hasSat 51 = .ok (.ireturn, 1) := by decide +kernel
theorem dX4_more_0 : decode cX4_more 0 = .ok (.aload_n 0, 1) := by decide +kernel
theorem dX4_more_1 : decode cX4_more 1 = .ok (.iload_n 1, 1) := by decide +kernel
theorem dX4_more_2 : decode cX4_more 2 = .ok (.iload_n 2, 1) := by decide +kernel
theorem dX4_more_3 : decode cX4_more 3 = .ok (.invokevirtual 156, 3) := by decide +kernel
theorem dX4_more_6 : decode cX4_more 6 = .ok (.ifCond .eq 7, 3) := by decide +kernel
theorem dX4_more_9 : decode cX4_more 9 = .ok (.iconst 0, 1) := by decide +kernel
theorem dX4_more_10 : decode cX4_more 10 = .ok (.goto 30, 3) := by decide +kernel
theorem dX4_more_13 : decode cX4_more 13 = .ok (.aload_n 0, 1) := by decide +kernel
theorem dX4_more_14 : decode cX4_more 14 = .ok (.getfield 44, 3) := by decide +kernel
theorem dX4_more_17 : decode cX4_more 17 = .ok (.aload_n 0, 1) := by decide +kernel
theorem dX4_more_18 : decode cX4_more 18 = .ok (.getfield 47, 3) := by decide +kernel
theorem dX4_more_21 : decode cX4_more 21 = .ok (.iconst 2, 1) := by decide +kernel
theorem dX4_more_22 : decode cX4_more 22 = .ok (.iaload, 1) := by decide +kernel
theorem dX4_more_23 : decode cX4_more 23 = .ok (.iload_n 1, 1) := by decide +kernel
theorem dX4_more_24 : decode cX4_more 24 = .ok (.aload_n 0, 1) := by decide +kernel
theorem dX4_more_25 : decode cX4_more 25 = .ok (.getfield 13, 3) := by decide +kernel
theorem dX4_more_28 : decode cX4_more 28 = .ok (.aload_n 0, 1) := by decide +kernel
theorem dX4_more_29 : decode cX4_more 29 = .ok (.iload_n 1, 1) := by decide +kernel
theorem dX4_more_30 : decode cX4_more 30 = .ok (.iload_n 2, 1) := by decide +kernel
theorem dX4_more_31 : decode cX4_more 31 = .ok (.invokevirtual 153, 3) := by decide +kernel
theorem dX4_more_34 : decode cX4_more 34 = .ok (.iaload, 1) := by decide +kernel
theorem dX4_more_35 : decode cX4_more 35 = .ok (.iconst 2, 1) := by decide +kernel
theorem dX4_more_36 : decode cX4_more 36 = .ok (.invokestatic 103, 3) := by decide +kernel
theorem dX4_more_39 : decode cX4_more 39 = .ok (.iaload, 1) := by decide +kernel
theorem dX4_more_40 : decode cX4_more 40 = .ok (.ireturn, 1) := by decide +kernel
theorem dX4_takenShare_0 : decode cX4_takenShare 0 = .ok (.aload_n 0, 1) := by decide +kernel
theorem dX4_takenShare_1 : decode cX4_takenShare 1 = .ok (.aload_n 0, 1) := by decide +kernel
theorem dX4_takenShare_2 : decode cX4_takenShare 2 = .ok (.getfield 73, 3) := by decide +kernel
theorem dX4_takenShare_5 : decode cX4_takenShare 5 = .ok (.ifCond .ne 7, 3) := by decide +kernel
theorem dX4_takenShare_8 : decode cX4_takenShare 8 = .ok (.iconst 1, 1) := by decide +kernel
theorem dX4_takenShare_9 : decode cX4_takenShare 9 = .ok (.goto 4, 3) := by decide +kernel
theorem dX4_takenShare_12 : decode cX4_takenShare 12 = .ok (.iconst 0, 1) := by decide +kernel
theorem dX4_takenShare_13 : decode cX4_takenShare 13 = .ok (.putfield 59, 3) := by decide +kernel
theorem dX4_takenShare_16 : decode cX4_takenShare 16 = .ok (.iconst 0, 1) := by decide +kernel
theorem dX4_takenShare_17 : decode cX4_takenShare 17 = .ok (.istore_n 1, 1) := by decide +kernel
theorem dX4_takenShare_18 : decode cX4_takenShare 18 = .ok (.iconst 0, 1) := by decide +kernel
theorem dX4_takenShare_19 : decode cX4_takenShare 19 = .ok (.istore_n 2, 1) := by decide +kernel
theorem dX4_takenShare_20 : decode cX4_takenShare 20 = .ok (.iconst 0, 1) := by decide +kernel
theorem dX4_takenShare_21 : decode cX4_takenShare 21 = .ok (.istore_n 3, 1) := by decide +kernel
theorem dX4_takenShare_22 : decode cX4_takenShare 22 = .ok (.iload_n 3, 1) := by decide +kernel
theorem dX4_takenShare_23 : decode cX4_takenShare 23 = .ok (.aload_n 0, 1) := by decide +kernel
theorem dX4_takenShare_24 : decode cX4_takenShare 24 = .ok (.getfield 73, 3) := by decide +kernel
theorem dX4_takenShare_27 : decode cX4_takenShare 27 = .ok (.if_icmp .ge 31, 3) := by decide +kernel
theorem dX4_takenShare_30 : decode cX4_takenShare 30 = .ok (.iload_n 1, 1) := by decide +kernel
theorem dX4_takenShare_31 : decode cX4_takenShare 31 = .ok (.aload_n 0, 1) := by decide +kernel
theorem dX4_takenShare_32 : decode cX4_takenShare 32 = .ok (.iload_n 3, 1) := by decide +kernel
theorem dX4_takenShare_33 : decode cX4_takenShare 33 = .ok (.invokevirtual 119, 3) := by decide +kernel
theorem dX4_takenShare_36 : decode cX4_takenShare 36 = .ok (.iadd, 1) := by decide +kernel
theorem dX4_takenShare_37 : decode cX4_takenShare 37 = .ok (.istore_n 1, 1) := by decide +kernel
theorem dX4_takenShare_38 : decode cX4_takenShare 38 = .ok (.iload_n 2, 1) := by decide +kernel
theorem dX4_takenShare_39 : decode cX4_takenShare 39 = .ok (.aload_n 0, 1) := by decide +kernel
theorem dX4_takenShare_40 : decode cX4_takenShare 40 = .ok (.getfield 7, 3) := by decide +kernel
theorem dX4_takenShare_43 : decode cX4_takenShare 43 = .ok (.aload_n 0, 1) := by decide +kernel
theorem dX4_takenShare_44 : decode cX4_takenShare 44 = .ok (.getfield 19, 3) := by decide +kernel
theorem dX4_takenShare_47 : decode cX4_takenShare 47 = .ok (.iload_n 3, 1) := by decide +kernel
theorem dX4_takenShare_48 : decode cX4_takenShare 48 = .ok (.iaload, 1) := by decide +kernel
theorem dX4_takenShare_49 : decode cX4_takenShare 49 = .ok (.iaload, 1) := by decide +kernel
theorem dX4_takenShare_50 : decode cX4_takenShare 50 = .ok (.iadd, 1) := by decide +kernel
theorem dX4_takenShare_51 : decode cX4_takenShare 51 = .ok (.istore_n 2, 1) := by decide +kernel
theorem dX4_takenShare_52 : decode cX4_takenShare 52 = .ok (.iinc 3 1, 3) := by decide +kernel
theorem dX4_takenShare_55 : decode cX4_takenShare 55 = .ok (.goto (-33), 3) := by decide +kernel
theorem dX4_takenShare_58 : decode cX4_takenShare 58 = .ok (.aload_n 0, 1) := by decide +kernel
theorem dX4_takenShare_59 : decode cX4_takenShare 59 = .ok (.getfield 59, 3) := by decide +kernel
theorem dX4_takenShare_62 : decode cX4_takenShare 62 = .ok (.ifCond .le 7, 3) := by decide +kernel
theorem dX4_takenShare_65 : decode cX4_takenShare 65 = .ok (.fconst 0, 1) := by decide +kernel
theorem dX4_takenShare_66 : decode cX4_takenShare 66 = .ok (.goto 8, 3) := by decide +kernel
theorem dX4_takenShare_69 : decode cX4_takenShare 69 = .ok (.iload_n 1, 1) := by decide +kernel
theorem dX4_takenShare_70 : decode cX4_takenShare 70 = .ok (.i2f, 1) := by decide +kernel
theorem dX4_takenShare_71 : decode cX4_takenShare 71 = .ok (.iload_n 2, 1) := by decide +kernel
theorem dX4_takenShare_72 : decode cX4_takenShare 72 = .ok (.i2f, 1) := by decide +kernel
theorem dX4_takenShare_73 : decode cX4_takenShare 73 = .ok (.fdiv, 1) := by decide +kernel
theorem dX4_takenShare_74 : decode cX4_takenShare 74 = .ok (.freturn, 1) := by decide +kernel
theorem dX4_meanPoints_0 : decode cX4_meanPoints 0 = .ok (.aload_n 0, 1) := by decide +kernel
theorem dX4_meanPoints_1 : decode cX4_meanPoints 1 = .ok (.aload_n 0, 1) := by decide +kernel
theorem dX4_meanPoints_2 : decode cX4_meanPoints 2 = .ok (.getfield 63, 3) := by decide +kernel
theorem dX4_meanPoints_5 : decode cX4_meanPoints 5 = .ok (.ifCond .ne 7, 3) := by decide +kernel
theorem dX4_meanPoints_8 : decode cX4_meanPoints 8 = .ok (.iconst 1, 1) := by decide +kernel
theorem dX4_meanPoints_9 : decode cX4_meanPoints 9 = .ok (.goto 4, 3) := by decide +kernel
theorem dX4_meanPoints_12 : decode cX4_meanPoints 12 = .ok (.iconst 0, 1) := by decide +kernel
theorem dX4_meanPoints_13 : decode cX4_meanPoints 13 = .ok (.putfield 59, 3) := by decide +kernel
theorem dX4_meanPoints_16 : decode cX4_meanPoints 16 = .ok (.iconst 0, 1) := by decide +kernel
theorem dX4_meanPoints_17 : decode cX4_meanPoints 17 = .ok (.istore_n 1, 1) := by decide +kernel
theorem dX4_meanPoints_18 : decode cX4_meanPoints 18 = .ok (.iconst 0, 1) := by decide +kernel
theorem dX4_meanPoints_19 : decode cX4_meanPoints 19 = .ok (.istore_n 2, 1) := by decide +kernel
theorem dX4_meanPoints_20 : decode cX4_meanPoints 20 = .ok (.iload_n 2, 1) := by decide +kernel
theorem dX4_meanPoints_21 : decode cX4_meanPoints 21 = .ok (.aload_n 0, 1) := by decide +kernel
theorem dX4_meanPoints_22 : decode cX4_meanPoints 22 = .ok (.getfield 63, 3) := by decide +kernel
theorem dX4_meanPoints_25 : decode cX4_meanPoints 25 = .ok (.if_icmp .ge 18, 3) := by decide +kernel
theorem dX4_meanPoints_28 : decode cX4_meanPoints 28 = .ok (.iload_n 1, 1) := by decide +kernel
theorem dX4_meanPoints_29 : decode cX4_meanPoints 29 = .ok (.aload_n 0, 1) := by decide +kernel
theorem dX4_meanPoints_30 : decode cX4_meanPoints 30 = .ok (.getfield 50, 3) := by decide +kernel
theorem dX4_meanPoints_33 : decode cX4_meanPoints 33 = .ok (.iload_n 2, 1) := by decide +kernel
theorem dX4_meanPoints_34 : decode cX4_meanPoints 34 = .ok (.iaload, 1) := by decide +kernel
theorem dX4_meanPoints_35 : decode cX4_meanPoints 35 = .ok (.iadd, 1) := by decide +kernel
theorem dX4_meanPoints_36 : decode cX4_meanPoints 36 = .ok (.istore_n 1, 1) := by decide +kernel
theorem dX4_meanPoints_37 : decode cX4_meanPoints 37 = .ok (.iinc 2 1, 3) := by decide +kernel
theorem dX4_meanPoints_40 : decode cX4_meanPoints 40 = .ok (.goto (-20), 3) := by decide +kernel
theorem dX4_meanPoints_43 : decode cX4_meanPoints 43 = .ok (.aload_n 0, 1) := by decide +kernel
theorem dX4_meanPoints_44 : decode cX4_meanPoints 44 = .ok (.getfield 59, 3) := by decide +kernel
theorem dX4_meanPoints_47 : decode cX4_meanPoints 47 = .ok (.ifCond .le 7, 3) := by decide +kernel
theorem dX4_meanPoints_50 : decode cX4_meanPoints 50 = .ok (.dconst 0, 1) := by decide +kernel
theorem dX4_meanPoints_51 : decode cX4_meanPoints 51 = .ok (.goto 11, 3) := by decide +kernel
theorem dX4_meanPoints_54 : decode cX4_meanPoints 54 = .ok (.iload_n 1, 1) := by decide +kernel
theorem dX4_meanPoints_55 : decode cX4_meanPoints 55 = .ok (.i2d, 1) := by decide +kernel
theorem dX4_meanPoints_56 : decode cX4_meanPoints 56 = .ok (.aload_n 0, 1) := by decide +kernel
theorem dX4_meanPoints_57 : decode cX4_meanPoints 57 = .ok (.getfield 63, 3) := by decide +kernel
theorem dX4_meanPoints_60 : decode cX4_meanPoints 60 = .ok (.i2d, 1) := by decide +kernel
theorem dX4_meanPoints_61 : decode cX4_meanPoints 61 = .ok (.ddiv, 1) := by decide +kernel
theorem dX4_meanPoints_62 : decode cX4_meanPoints 62 = .ok (.dreturn, 1) := by decide +kernel
theorem dX4_isTrue_0 : decode cX4_isTrue 0 = .ok (.aload_n 0, 1) := by decide +kernel
theorem dX4_isTrue_1 : decode cX4_isTrue 1 = .ok (.iconst 0, 1) := by decide +kernel
theorem dX4_isTrue_2 : decode cX4_isTrue 2 = .ok (.putfield 59, 3) := by decide +kernel
theorem dX4_isTrue_5 : decode cX4_isTrue 5 = .ok (.iconst 1, 1) := by decide +kernel
theorem dX4_isTrue_6 : decode cX4_isTrue 6 = .ok (.ireturn, 1) := by decide +kernel
