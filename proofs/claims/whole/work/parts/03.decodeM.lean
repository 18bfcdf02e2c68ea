theorem dX10_init_0 : decode cX10_init 0 = .ok (.aload_n 0, 1) := by decide +kernel
theorem dX10_init_1 : decode cX10_init 1 = .ok (.invokespecial 1, 3) := by decide +kernel
theorem dX10_init_4 : decode cX10_init 4 = .ok (.aload_n 0, 1) := by decide +kernel
theorem dX10_init_5 : decode cX10_init 5 = .ok (.sipush 12960, 3) := by decide +kernel
theorem dX10_init_8 : decode cX10_init 8 = .ok (.newarray .int, 2) := by decide +kernel
theorem dX10_init_10 : decode cX10_init 10 = .ok (.putfield 7, 3) := by decide +kernel
theorem dX10_init_13 : decode cX10_init 13 = .ok (.aload_n 0, 1) := by decide +kernel
theorem dX10_init_14 : decode cX10_init 14 = .ok (.bipush 40, 2) := by decide +kernel
theorem dX10_init_16 : decode cX10_init 16 = .ok (.newarray .int, 2) := by decide +kernel
theorem dX10_init_18 : decode cX10_init 18 = .ok (.putfield 13, 3) := by decide +kernel
theorem dX10_init_21 : decode cX10_init 21 = .ok (.aload_n 0, 1) := by decide +kernel
theorem dX10_init_22 : decode cX10_init 22 = .ok (.bipush 16, 2) := by decide +kernel
theorem dX10_init_24 : decode cX10_init 24 = .ok (.newarray .int, 2) := by decide +kernel
theorem dX10_init_26 : decode cX10_init 26 = .ok (.putfield 16, 3) := by decide +kernel
theorem dX10_init_29 : decode cX10_init 29 = .ok (.aload_n 0, 1) := by decide +kernel
theorem dX10_init_30 : decode cX10_init 30 = .ok (.bipush 16, 2) := by decide +kernel
theorem dX10_init_32 : decode cX10_init 32 = .ok (.newarray .int, 2) := by decide +kernel
theorem dX10_init_34 : decode cX10_init 34 = .ok (.putfield 19, 3) := by decide +kernel
theorem dX10_init_37 : decode cX10_init 37 = .ok (.aload_n 0, 1) := by decide +kernel
theorem dX10_init_38 : decode cX10_init 38 = .ok (.bipush 16, 2) := by decide +kernel
theorem dX10_init_40 : decode cX10_init 40 = .ok (.newarray .int, 2) := by decide +kernel
theorem dX10_init_42 : decode cX10_init 42 = .ok (.putfield 22, 3) := by decide +kernel
theorem dX10_init_45 : decode cX10_init 45 = .ok (.aload_n 0, 1) := by decide +kernel
theorem dX10_init_46 : decode cX10_init 46 = .ok (.bipush 16, 2) := by decide +kernel
theorem dX10_init_48 : decode cX10_init 48 = .ok (.newarray .int, 2) := by decide +kernel
theorem dX10_init_50 : decode cX10_init 50 = .ok (.putfield 25, 3) := by decide +kernel
theorem dX10_init_53 : decode cX10_init 53 = .ok (.aload_n 0, 1) := by decide +kernel
theorem dX10_init_54 : decode cX10_init 54 = .ok (.bipush 16, 2) := by decide +kernel
theorem dX10_init_56 : decode cX10_init 56 = .ok (.newarray .int, 2) := by decide +kernel
theorem dX10_init_58 : decode cX10_init 58 = .ok (.putfield 28, 3) := by decide +kernel
theorem dX10_init_61 : decode cX10_init 61 = .ok (.aload_n 0, 1) := by decide +kernel
theorem dX10_init_62 : decode cX10_init 62 = .ok (.bipush 16, 2) := by decide +kernel
theorem dX10_init_64 : decode cX10_init 64 = .ok (.newarray .int, 2) := by decide +kernel
theorem dX10_init_66 : decode cX10_init 66 = .ok (.putfield 31, 3) := by decide +kernel
theorem dX10_init_69 : decode cX10_init 69 = .ok (.aload_n 0, 1) := by decide +kernel
theorem dX10_init_70 : decode cX10_init 70 = .ok (.bipush 16, 2) := by decide +kernel
theorem dX10_init_72 : decode cX10_init 72 = .ok (.newarray .int, 2) := by decide +kernel
theorem dX10_init_74 : decode cX10_init 74 = .ok (.putfield 34, 3) := by decide +kernel
theorem dX10_init_77 : decode cX10_init 77 = .ok (.aload_n 0, 1) := by decide +kernel
theorem dX10_init_78 : decode cX10_init 78 = .ok (.bipush 16, 2) := by decide +kernel
theorem dX10_init_80 : decode cX10_init 80 = .ok (.newarray .int, 2) := by decide +kernel
theorem dX10_init_82 : decode cX10_init 82 = .ok (.putfield 37, 3) := by decide +kernel
theorem dX10_init_85 : decode cX10_init 85 = .ok (.aload_n 0, 1) := by decide +kernel
theorem dX10_init_86 : decode cX10_init 86 = .ok (.bipush 16, 2) := by decide +kernel
theorem dX10_init_88 : decode cX10_init 88 = .ok (.newarray .int, 2) := by decide +kernel
theorem dX10_init_90 : decode cX10_init 90 = .ok (.putfield 40, 3) := by decide +kernel
theorem dX10_init_93 : decode cX10_init 93 = .ok (.aload_n 0, 1) := by decide +kernel
theorem dX10_init_94 : decode cX10_init 94 = .ok (.bipush 16, 2) := by decide +kernel
theorem dX10_init_96 : decode cX10_init 96 = .ok (.newarray .int, 2) := by decide +kernel
theorem dX10_init_98 : decode cX10_init 98 = .ok (.putfield 43, 3) := by decide +kernel
theorem dX10_init_101 : decode cX10_init 101 = .ok (.aload_n 0, 1) := by decide +kernel
theorem dX10_init_102 : decode cX10_init 102 = .ok (.sipush 1344, 3) := by decide +kernel
theorem dX10_init_105 : decode cX10_init 105 = .ok (.newarray .int, 2) := by decide +kernel
theorem dX10_init_107 : decode cX10_init 107 = .ok (.putfield 46, 3) := by decide +kernel
theorem dX10_init_110 : decode cX10_init 110 = .ok (.aload_n 0, 1) := by decide +kernel
theorem dX10_init_111 : decode cX10_init 111 = .ok (.getfield 7, 3) := by decide +kernel
theorem dX10_init_114 : decode cX10_init 114 = .ok (.sipush 1435, 3) := by decide +kernel
theorem dX10_init_117 : decode cX10_init 117 = .ok (.iconst 2, 1) := by decide +kernel
theorem dX10_init_118 : decode cX10_init 118 = .ok (.iastore, 1) := by decide +kernel
theorem dX10_init_119 : decode cX10_init 119 = .ok (.aload_n 0, 1) := by decide +kernel
theorem dX10_init_120 : decode cX10_init 120 = .ok (.getfield 7, 3) := by decide +kernel
theorem dX10_init_123 : decode cX10_init 123 = .ok (.sipush 1436, 3) := by decide +kernel
theorem dX10_init_126 : decode cX10_init 126 = .ok (.bipush 24, 2) := by decide +kernel
theorem dX10_init_128 : decode cX10_init 128 = .ok (.iastore, 1) := by decide +kernel
theorem dX10_init_129 : decode cX10_init 129 = .ok (.aload_n 0, 1) := by decide +kernel
theorem dX10_init_130 : decode cX10_init 130 = .ok (.getfield 7, 3) := by decide +kernel
theorem dX10_init_133 : decode cX10_init 133 = .ok (.sipush 1437, 3) := by decide +kernel
theorem dX10_init_136 : decode cX10_init 136 = .ok (.iconst 2, 1) := by decide +kernel
theorem dX10_init_137 : decode cX10_init 137 = .ok (.iastore, 1) := by decide +kernel
theorem dX10_init_138 : decode cX10_init 138 = .ok (.aload_n 0, 1) := by decide +kernel
theorem dX10_init_139 : decode cX10_init 139 = .ok (.getfield 7, 3) := by decide +kernel
theorem dX10_init_142 : decode cX10_init 142 = .ok (.sipush 1438, 3) := by decide +kernel
theorem dX10_init_145 : decode cX10_init 145 = .ok (.bipush 6, 2) := by decide +kernel
theorem dX10_init_147 : decode cX10_init 147 = .ok (.iastore, 1) := by decide +kernel
theorem dX10_init_148 : decode cX10_init 148 = .ok (.aload_n 0, 1) := by decide +kernel
theorem dX10_init_149 : decode cX10_init 149 = .ok (.getfield 7, 3) := by decide +kernel
theorem dX10_init_152 : decode cX10_init 152 = .ok (.sipush 1439, 3) := by decide +kernel
theorem dX10_init_155 : decode cX10_init 155 = .ok (.bipush 16, 2) := by decide +kernel
theorem dX10_init_157 : decode cX10_init 157 = .ok (.iastore, 1) := by decide +kernel
theorem dX10_init_158 : decode cX10_init 158 = .ok (.return_, 1) := by decide +kernel
theorem dX10_in_0 : decode cX10_in 0 = .ok (.iload_n 0, 1) := by decide +kernel
theorem dX10_in_1 : decode cX10_in 1 = .ok (.iload_n 1, 1) := by decide +kernel
theorem dX10_in_2 : decode cX10_in 2 = .ok (.if_icmp .lt 12, 3) := by decide +kernel
theorem dX10_in_5 : decode cX10_in 5 = .ok (.iload_n 0, 1) := by decide +kernel
theorem dX10_in_6 : decode cX10_in 6 = .ok (.iload_n 2, 1) := by decide +kernel
theorem dX10_in_7 : decode cX10_in 7 = .ok (.if_icmp .gt 7, 3) := by decide +kernel
theorem dX10_in_10 : decode cX10_in 10 = .ok (.iconst 1, 1) := by decide +kernel
theorem dX10_in_11 : decode cX10_in 11 = .ok (.goto 4, 3) := by decide +kernel
theorem dX10_in_14 : decode cX10_in 14 = .ok (.iconst 0, 1) := by decide +kernel
theorem dX10_in_15 : decode cX10_in 15 = .ok (.ireturn, 1) := by decide +kernel
theorem dX10_records_0 : decode cX10_records 0 = .ok (.aload_n 0, 1) := by decide +kernel
theorem dX10_records_1 : decode cX10_records 1 = .ok (.getfield 49, 3) := by decide +kernel
theorem dX10_records_4 : decode cX10_records 4 = .ok (.bipush 8, 2) := by decide +kernel
theorem dX10_records_6 : decode cX10_records 6 = .ok (.if_icmp .ne 46, 3) := by decide +kernel
theorem dX10_records_9 : decode cX10_records 9 = .ok (.sipush 1440, 3) := by decide +kernel
theorem dX10_records_12 : decode cX10_records 12 = .ok (.istore_n 1, 1) := by decide +kernel
theorem dX10_records_13 : decode cX10_records 13 = .ok (.iload_n 1, 1) := by decide +kernel
theorem dX10_records_14 : decode cX10_records 14 = .ok (.sipush 11520, 3) := by decide +kernel
theorem dX10_records_17 : decode cX10_records 17 = .ok (.if_icmp .ge 25, 3) := by decide +kernel
theorem dX10_records_20 : decode cX10_records 20 = .ok (.aload_n 0, 1) := by decide +kernel
theorem dX10_records_21 : decode cX10_records 21 = .ok (.getfield 7, 3) := by decide +kernel
theorem dX10_records_24 : decode cX10_records 24 = .ok (.iload_n 1, 1) := by decide +kernel
theorem dX10_records_25 : decode cX10_records 25 = .ok (.aload_n 0, 1) := by decide +kernel
theorem dX10_records_26 : decode cX10_records 26 = .ok (.getfield 7, 3) := by decide +kernel
theorem dX10_records_29 : decode cX10_records 29 = .ok (.iload_n 1, 1) := by decide +kernel
theorem dX10_records_30 : decode cX10_records 30 = .ok (.sipush 1440, 3) := by decide +kernel
theorem dX10_records_33 : decode cX10_records 33 = .ok (.iadd, 1) := by decide +kernel
theorem dX10_records_34 : decode cX10_records 34 = .ok (.iaload, 1) := by decide +kernel
theorem dX10_records_35 : decode cX10_records 35 = .ok (.iastore, 1) := by decide +kernel
theorem dX10_records_36 : decode cX10_records 36 = .ok (.iinc 1 1, 3) := by decide +kernel
theorem dX10_records_39 : decode cX10_records 39 = .ok (.goto (-26), 3) := by decide +kernel
theorem dX10_records_42 : decode cX10_records 42 = .ok (.aload_n 0, 1) := by decide +kernel
theorem dX10_records_43 : decode cX10_records 43 = .ok (.dup, 1) := by decide +kernel
theorem dX10_records_44 : decode cX10_records 44 = .ok (.getfield 49, 3) := by decide +kernel
theorem dX10_records_47 : decode cX10_records 47 = .ok (.iconst 1, 1) := by decide +kernel
theorem dX10_records_48 : decode cX10_records 48 = .ok (.isub, 1) := by decide +kernel
theorem dX10_records_49 : decode cX10_records 49 = .ok (.putfield 49, 3) := by decide +kernel
theorem dX10_records_52 : decode cX10_records 52 = .ok (.aload_n 0, 1) := by decide +kernel
theorem dX10_records_53 : decode cX10_records 53 = .ok (.dup, 1) := by decide +kernel
theorem dX10_records_54 : decode cX10_records 54 = .ok (.getfield 49, 3) := by decide +kernel
theorem dX10_records_57 : decode cX10_records 57 = .ok (.iconst 1, 1) := by decide +kernel
theorem dX10_records_58 : decode cX10_records 58 = .ok (.iadd, 1) := by decide +kernel
theorem dX10_records_59 : decode cX10_records 59 = .ok (.putfield 49, 3) := by decide +kernel
theorem dX10_records_62 : decode cX10_records 62 = .ok (.iconst 0, 1) := by decide +kernel
theorem dX10_records_63 : decode cX10_records 63 = .ok (.istore_n 1, 1) := by decide +kernel
theorem dX10_records_64 : decode cX10_records 64 = .ok (.iload_n 1, 1) := by decide +kernel
theorem dX10_records_65 : decode cX10_records 65 = .ok (.sipush 1440, 3) := by decide +kernel
theorem dX10_records_68 : decode cX10_records 68 = .ok (.if_icmp .ge 30, 3) := by decide +kernel
theorem dX10_records_71 : decode cX10_records 71 = .ok (.aload_n 0, 1) := by decide +kernel
theorem dX10_records_72 : decode cX10_records 72 = .ok (.getfield 7, 3) := by decide +kernel
theorem dX10_records_75 : decode cX10_records 75 = .ok (.sipush 1440, 3) := by decide +kernel
theorem dX10_records_78 : decode cX10_records 78 = .ok (.aload_n 0, 1) := by decide +kernel
theorem dX10_records_79 : decode cX10_records 79 = .ok (.getfield 49, 3) := by decide +kernel
theorem dX10_records_82 : decode cX10_records 82 = .ok (.imul, 1) := by decide +kernel
theorem dX10_records_83 : decode cX10_records 83 = .ok (.iload_n 1, 1) := by decide +kernel
theorem dX10_records_84 : decode cX10_records 84 = .ok (.iadd, 1) := by decide +kernel
theorem dX10_records_85 : decode cX10_records 85 = .ok (.aload_n 0, 1) := by decide +kernel
theorem dX10_records_86 : decode cX10_records 86 = .ok (.getfield 7, 3) := by decide +kernel
theorem dX10_records_89 : decode cX10_records 89 = .ok (.iload_n 1, 1) := by decide +kernel
theorem dX10_records_90 : decode cX10_records 90 = .ok (.iaload, 1) := by decide +kernel
theorem dX10_records_91 : decode cX10_records 91 = .ok (.iastore, 1) := by decide +kernel
theorem dX10_records_92 : decode cX10_records 92 = .ok (.iinc 1 1, 3) := by decide +kernel
theorem dX10_records_95 : decode cX10_records 95 = .ok (.goto (-31), 3) := by decide +kernel
theorem dX10_records_98 : decode cX10_records 98 = .ok (.return_, 1) := by decide +kernel
theorem dX10_setting_0 : decode cX10_setting 0 = .ok (.aload_n 0, 1) := by decide +kernel
theorem dX10_setting_1 : decode cX10_setting 1 = .ok (.getfield 7, 3) := by decide +kernel
theorem dX10_setting_4 : decode cX10_setting 4 = .ok (.sipush 1435, 3) := by decide +kernel
theorem dX10_setting_7 : decode cX10_setting 7 = .ok (.iload_n 1, 1) := by decide +kernel
theorem dX10_setting_8 : decode cX10_setting 8 = .ok (.iadd, 1) := by decide +kernel
theorem dX10_setting_9 : decode cX10_setting 9 = .ok (.iaload, 1) := by decide +kernel
theorem dX10_setting_10 : decode cX10_setting 10 = .ok (.ireturn, 1) := by decide +kernel
theorem dX10_pieceFirst_0 : decode cX10_pieceFirst 0 = .ok (.aload_n 0, 1) := by decide +kernel
theorem dX10_pieceFirst_1 : decode cX10_pieceFirst 1 = .ok (.getfield 7, 3) := by decide +kernel
theorem dX10_pieceFirst_4 : decode cX10_pieceFirst 4 = .ok (.iconst 1, 1) := by decide +kernel
theorem dX10_pieceFirst_5 : decode cX10_pieceFirst 5 = .ok (.iconst 2, 1) := by decide +kernel
theorem dX10_pieceFirst_6 : decode cX10_pieceFirst 6 = .ok (.iload_n 1, 1) := by decide +kernel
theorem dX10_pieceFirst_7 : decode cX10_pieceFirst 7 = .ok (.imul, 1) := by decide +kernel
theorem dX10_pieceFirst_8 : decode cX10_pieceFirst 8 = .ok (.iadd, 1) := by decide +kernel
theorem dX10_pieceFirst_9 : decode cX10_pieceFirst 9 = .ok (.iaload, 1) := by decide +kernel
theorem dX10_pieceFirst_10 : decode cX10_pieceFirst 10 = .ok (.ireturn, 1) := by decide +kernel
theorem dX10_pieceLong_0 : decode cX10_pieceLong 0 = .ok (.aload_n 0, 1) := by decide +kernel
theorem dX10_pieceLong_1 : decode cX10_pieceLong 1 = .ok (.getfield 7, 3) := by decide +kernel
theorem dX10_pieceLong_4 : decode cX10_pieceLong 4 = .ok (.iconst 1, 1) := by decide +kernel
theorem dX10_pieceLong_5 : decode cX10_pieceLong 5 = .ok (.iconst 2, 1) := by decide +kernel
theorem dX10_pieceLong_6 : decode cX10_pieceLong 6 = .ok (.iload_n 1, 1) := by decide +kernel
theorem dX10_pieceLong_7 : decode cX10_pieceLong 7 = .ok (.imul, 1) := by decide +kernel
theorem dX10_pieceLong_8 : decode cX10_pieceLong 8 = .ok (.iadd, 1) := by decide +kernel
theorem dX10_pieceLong_9 : decode cX10_pieceLong 9 = .ok (.iconst 1, 1) := by decide +kernel
theorem dX10_pieceLong_10 : decode cX10_pieceLong 10 = .ok (.iadd, 1) := by decide +kernel
theorem dX10_pieceLong_11 : decode cX10_pieceLong 11 = .ok (.iaload, 1) := by decide +kernel
theorem dX10_pieceLong_12 : decode cX10_pieceLong 12 = .ok (.ireturn, 1) := by decide +kernel
theorem dX10_pieceNew_0 : decode cX10_pieceNew 0 = .ok (.iconst 0, 1) := by decide +kernel
theorem dX10_pieceNew_1 : decode cX10_pieceNew 1 = .ok (.istore_n 2, 1) := by decide +kernel
theorem dX10_pieceNew_2 : decode cX10_pieceNew 2 = .ok (.iconst 0, 1) := by decide +kernel
theorem dX10_pieceNew_3 : decode cX10_pieceNew 3 = .ok (.istore_n 3, 1) := by decide +kernel
theorem dX10_pieceNew_4 : decode cX10_pieceNew 4 = .ok (.iload_n 3, 1) := by decide +kernel
theorem dX10_pieceNew_5 : decode cX10_pieceNew 5 = .ok (.iload_n 1, 1) := by decide +kernel
theorem dX10_pieceNew_6 : decode cX10_pieceNew 6 = .ok (.if_icmp .ge 17, 3) := by decide +kernel
theorem dX10_pieceNew_9 : decode cX10_pieceNew 9 = .ok (.iload_n 2, 1) := by decide +kernel
theorem dX10_pieceNew_10 : decode cX10_pieceNew 10 = .ok (.aload_n 0, 1) := by decide +kernel
theorem dX10_pieceNew_11 : decode cX10_pieceNew 11 = .ok (.iload_n 3, 1) := by decide +kernel
theorem dX10_pieceNew_12 : decode cX10_pieceNew 12 = .ok (.invokevirtual 53, 3) := by decide +kernel
theorem dX10_pieceNew_15 : decode cX10_pieceNew 15 = .ok (.iadd, 1) := by decide +kernel
theorem dX10_pieceNew_16 : decode cX10_pieceNew 16 = .ok (.istore_n 2, 1) := by decide +kernel
theorem dX10_pieceNew_17 : decode cX10_pieceNew 17 = .ok (.iinc 3 1, 3) := by decide +kernel
theorem dX10_pieceNew_20 : decode cX10_pieceNew 20 = .ok (.goto (-16), 3) := by decide +kernel
theorem dX10_pieceNew_23 : decode cX10_pieceNew 23 = .ok (.iload_n 2, 1) := by decide +kernel
theorem dX10_pieceNew_24 : decode cX10_pieceNew 24 = .ok (.ireturn, 1) := by decide +kernel
theorem dX10_newLong_0 : decode cX10_newLong 0 = .ok (.aload_n 0, 1) := by decide +kernel
theorem dX10_newLong_1 : decode cX10_newLong 1 = .ok (.aload_n 0, 1) := by decide +kernel
theorem dX10_newLong_2 : decode cX10_newLong 2 = .ok (.getfield 7, 3) := by decide +kernel
theorem dX10_newLong_5 : decode cX10_newLong 5 = .ok (.iconst 0, 1) := by decide +kernel
theorem dX10_newLong_6 : decode cX10_newLong 6 = .ok (.iaload, 1) := by decide +kernel
theorem dX10_newLong_7 : decode cX10_newLong 7 = .ok (.invokevirtual 57, 3) := by decide +kernel
theorem dX10_newLong_10 : decode cX10_newLong 10 = .ok (.ireturn, 1) := by decide +kernel
theorem dX10_isPiece_0 : decode cX10_isPiece 0 = .ok (.iload_n 1, 1) := by decide +kernel
theorem dX10_isPiece_1 : decode cX10_isPiece 1 = .ok (.iconst 0, 1) := by decide +kernel
theorem dX10_isPiece_2 : decode cX10_isPiece 2 = .ok (.aload_n 0, 1) := by decide +kernel
theorem dX10_isPiece_3 : decode cX10_isPiece 3 = .ok (.getfield 7, 3) := by decide +kernel
theorem dX10_isPiece_6 : decode cX10_isPiece 6 = .ok (.iconst 0, 1) := by decide +kernel
theorem dX10_isPiece_7 : decode cX10_isPiece 7 = .ok (.iaload, 1) := by decide +kernel
theorem dX10_isPiece_8 : decode cX10_isPiece 8 = .ok (.iconst 1, 1) := by decide +kernel
theorem dX10_isPiece_9 : decode cX10_isPiece 9 = .ok (.isub, 1) := by decide +kernel
theorem dX10_isPiece_10 : decode cX10_isPiece 10 = .ok (.invokestatic 60, 3) := by decide +kernel
theorem dX10_isPiece_13 : decode cX10_isPiece 13 = .ok (.ireturn, 1) := by decide +kernel
theorem dX10_piece_0 : decode cX10_piece 0 = .ok (.iload_n 1, 1) := by decide +kernel
theorem dX10_piece_1 : decode cX10_piece 1 = .ok (.iconst 0, 1) := by decide +kernel
theorem dX10_piece_2 : decode cX10_piece 2 = .ok (.sipush 9999, 3) := by decide +kernel
theorem dX10_piece_5 : decode cX10_piece 5 = .ok (.invokestatic 60, 3) := by decide +kernel
theorem dX10_piece_8 : decode cX10_piece 8 = .ok (.ifCond .eq 23, 3) := by decide +kernel
theorem dX10_piece_11 : decode cX10_piece 11 = .ok (.iload_n 2, 1) := by decide +kernel
theorem dX10_piece_12 : decode cX10_piece 12 = .ok (.iconst 1, 1) := by decide +kernel
theorem dX10_piece_13 : decode cX10_piece 13 = .ok (.sipush 5000, 3) := by decide +kernel
theorem dX10_piece_16 : decode cX10_piece 16 = .ok (.invokestatic 60, 3) := by decide +kernel
theorem dX10_piece_19 : decode cX10_piece 19 = .ok (.ifCond .eq 12, 3) := by decide +kernel
theorem dX10_piece_22 : decode cX10_piece 22 = .ok (.iload_n 1, 1) := by decide +kernel
theorem dX10_piece_23 : decode cX10_piece 23 = .ok (.iload_n 2, 1) := by decide +kernel
theorem dX10_piece_24 : decode cX10_piece 24 = .ok (.iadd, 1) := by decide +kernel
theorem dX10_piece_25 : decode cX10_piece 25 = .ok (.sipush 10000, 3) := by decide +kernel
theorem dX10_piece_28 : decode cX10_piece 28 = .ok (.if_icmp .le 5, 3) := by decide +kernel
theorem dX10_piece_31 : decode cX10_piece 31 = .ok (.iconst (-1), 1) := by decide +kernel
theorem dX10_piece_32 : decode cX10_piece 32 = .ok (.ireturn, 1) := by decide +kernel
theorem dX10_piece_33 : decode cX10_piece 33 = .ok (.aload_n 0, 1) := by decide +kernel
theorem dX10_piece_34 : decode cX10_piece 34 = .ok (.getfield 7, 3) := by decide +kernel
theorem dX10_piece_37 : decode cX10_piece 37 = .ok (.iconst 0, 1) := by decide +kernel
theorem dX10_piece_38 : decode cX10_piece 38 = .ok (.iaload, 1) := by decide +kernel
theorem dX10_piece_39 : decode cX10_piece 39 = .ok (.bipush 10, 2) := by decide +kernel
theorem dX10_piece_41 : decode cX10_piece 41 = .ok (.if_icmp .eq 15, 3) := by decide +kernel
theorem dX10_piece_44 : decode cX10_piece 44 = .ok (.aload_n 0, 1) := by decide +kernel
theorem dX10_piece_45 : decode cX10_piece 45 = .ok (.invokevirtual 64, 3) := by decide +kernel
theorem dX10_piece_48 : decode cX10_piece 48 = .ok (.iload_n 2, 1) := by decide +kernel
theorem dX10_piece_49 : decode cX10_piece 49 = .ok (.iadd, 1) := by decide +kernel
theorem dX10_piece_50 : decode cX10_piece 50 = .ok (.sipush 9999, 3) := by decide +kernel
theorem dX10_piece_53 : decode cX10_piece 53 = .ok (.if_icmp .le 6, 3) := by decide +kernel
theorem dX10_piece_56 : decode cX10_piece 56 = .ok (.bipush (-3), 2) := by decide +kernel
theorem dX10_piece_58 : decode cX10_piece 58 = .ok (.ireturn, 1) := by decide +kernel
theorem dX10_piece_59 : decode cX10_piece 59 = .ok (.aload_n 0, 1) := by decide +kernel
theorem dX10_piece_60 : decode cX10_piece 60 = .ok (.invokevirtual 68, 3) := by decide +kernel
theorem dX10_piece_63 : decode cX10_piece 63 = .ok (.aload_n 0, 1) := by decide +kernel
theorem dX10_piece_64 : decode cX10_piece 64 = .ok (.getfield 7, 3) := by decide +kernel
theorem dX10_piece_67 : decode cX10_piece 67 = .ok (.iconst 0, 1) := by decide +kernel
theorem dX10_piece_68 : decode cX10_piece 68 = .ok (.iaload, 1) := by decide +kernel
theorem dX10_piece_69 : decode cX10_piece 69 = .ok (.istore_n 3, 1) := by decide +kernel
theorem dX10_piece_70 : decode cX10_piece 70 = .ok (.aload_n 0, 1) := by decide +kernel
theorem dX10_piece_71 : decode cX10_piece 71 = .ok (.getfield 7, 3) := by decide +kernel
theorem dX10_piece_74 : decode cX10_piece 74 = .ok (.iconst 1, 1) := by decide +kernel
theorem dX10_piece_75 : decode cX10_piece 75 = .ok (.iconst 2, 1) := by decide +kernel
theorem dX10_piece_76 : decode cX10_piece 76 = .ok (.iload_n 3, 1) := by decide +kernel
theorem dX10_piece_77 : decode cX10_piece 77 = .ok (.imul, 1) := by decide +kernel
theorem dX10_piece_78 : decode cX10_piece 78 = .ok (.iadd, 1) := by decide +kernel
theorem dX10_piece_79 : decode cX10_piece 79 = .ok (.iload_n 1, 1) := by decide +kernel
theorem dX10_piece_80 : decode cX10_piece 80 = .ok (.iastore, 1) := by decide +kernel
theorem dX10_piece_81 : decode cX10_piece 81 = .ok (.aload_n 0, 1) := by decide +kernel
theorem dX10_piece_82 : decode cX10_piece 82 = .ok (.getfield 7, 3) := by decide +kernel
theorem dX10_piece_85 : decode cX10_piece 85 = .ok (.iconst 1, 1) := by decide +kernel
theorem dX10_piece_86 : decode cX10_piece 86 = .ok (.iconst 2, 1) := by decide +kernel
theorem dX10_piece_87 : decode cX10_piece 87 = .ok (.iload_n 3, 1) := by decide +kernel
theorem dX10_piece_88 : decode cX10_piece 88 = .ok (.imul, 1) := by decide +kernel
theorem dX10_piece_89 : decode cX10_piece 89 = .ok (.iadd, 1) := by decide +kernel
theorem dX10_piece_90 : decode cX10_piece 90 = .ok (.iconst 1, 1) := by decide +kernel
theorem dX10_piece_91 : decode cX10_piece 91 = .ok (.iadd, 1) := by decide +kernel
theorem dX10_piece_92 : decode cX10_piece 92 = .ok (.iload_n 2, 1) := by decide +kernel
theorem dX10_piece_93 : decode cX10_piece 93 = .ok (.iastore, 1) := by decide +kernel
theorem dX10_piece_94 : decode cX10_piece 94 = .ok (.aload_n 0, 1) := by decide +kernel
theorem dX10_piece_95 : decode cX10_piece 95 = .ok (.getfield 7, 3) := by decide +kernel
theorem dX10_piece_98 : decode cX10_piece 98 = .ok (.iconst 0, 1) := by decide +kernel
theorem dX10_piece_99 : decode cX10_piece 99 = .ok (.dup2, 1) := by decide +kernel
theorem dX10_piece_100 : decode cX10_piece 100 = .ok (.iaload, 1) := by decide +kernel
theorem dX10_piece_101 : decode cX10_piece 101 = .ok (.iconst 1, 1) := by decide +kernel
theorem dX10_piece_102 : decode cX10_piece 102 = .ok (.iadd, 1) := by decide +kernel
theorem dX10_piece_103 : decode cX10_piece 103 = .ok (.iastore, 1) := by decide +kernel
theorem dX10_piece_104 : decode cX10_piece 104 = .ok (.iload_n 3, 1) := by decide +kernel
theorem dX10_piece_105 : decode cX10_piece 105 = .ok (.ireturn, 1) := by decide +kernel
theorem dX10_dropPiece_0 : decode cX10_dropPiece 0 = .ok (.aload_n 0, 1) := by decide +kernel
theorem dX10_dropPiece_1 : decode cX10_dropPiece 1 = .ok (.iload_n 1, 1) := by decide +kernel
theorem dX10_dropPiece_2 : decode cX10_dropPiece 2 = .ok (.invokevirtual 71, 3) := by decide +kernel
theorem dX10_dropPiece_5 : decode cX10_dropPiece 5 = .ok (.ifCond .ne 5, 3) := by decide +kernel
theorem dX10_dropPiece_8 : decode cX10_dropPiece 8 = .ok (.iconst (-1), 1) := by decide +kernel
theorem dX10_dropPiece_9 : decode cX10_dropPiece 9 = .ok (.ireturn, 1) := by decide +kernel
theorem dX10_dropPiece_10 : decode cX10_dropPiece 10 = .ok (.aload_n 0, 1) := by decide +kernel
theorem dX10_dropPiece_11 : decode cX10_dropPiece 11 = .ok (.invokevirtual 68, 3) := by decide +kernel
theorem dX10_dropPiece_14 : decode cX10_dropPiece 14 = .ok (.aload_n 0, 1) := by decide +kernel
theorem dX10_dropPiece_15 : decode cX10_dropPiece 15 = .ok (.getfield 7, 3) := by decide +kernel
theorem dX10_dropPiece_18 : decode cX10_dropPiece 18 = .ok (.iconst 0, 1) := by decide +kernel
theorem dX10_dropPiece_19 : decode cX10_dropPiece 19 = .ok (.dup2, 1) := by decide +kernel
theorem dX10_dropPiece_20 : decode cX10_dropPiece 20 = .ok (.iaload, 1) := by decide +kernel
theorem dX10_dropPiece_21 : decode cX10_dropPiece 21 = .ok (.iconst 1, 1) := by decide +kernel
theorem dX10_dropPiece_22 : decode cX10_dropPiece 22 = .ok (.isub, 1) := by decide +kernel
theorem dX10_dropPiece_23 : decode cX10_dropPiece 23 = .ok (.iastore, 1) := by decide +kernel
theorem dX10_dropPiece_24 : decode cX10_dropPiece 24 = .ok (.iconst 1, 1) := by decide +kernel
theorem dX10_dropPiece_25 : decode cX10_dropPiece 25 = .ok (.iconst 2, 1) := by decide +kernel
theorem dX10_dropPiece_26 : decode cX10_dropPiece 26 = .ok (.iload_n 1, 1) := by decide +kernel
theorem dX10_dropPiece_27 : decode cX10_dropPiece 27 = .ok (.imul, 1) := by decide +kernel
theorem dX10_dropPiece_28 : decode cX10_dropPiece 28 = .ok (.iadd, 1) := by decide +kernel
theorem dX10_dropPiece_29 : decode cX10_dropPiece 29 = .ok (.istore_n 2, 1) := by decide +kernel
theorem dX10_dropPiece_30 : decode cX10_dropPiece 30 = .ok (.iload_n 2, 1) := by decide +kernel
theorem dX10_dropPiece_31 : decode cX10_dropPiece 31 = .ok (.iconst 1, 1) := by decide +kernel
theorem dX10_dropPiece_32 : decode cX10_dropPiece 32 = .ok (.iconst 2, 1) := by decide +kernel
theorem dX10_dropPiece_33 : decode cX10_dropPiece 33 = .ok (.aload_n 0, 1) := by decide +kernel
theorem dX10_dropPiece_34 : decode cX10_dropPiece 34 = .ok (.getfield 7, 3) := by decide +kernel
theorem dX10_dropPiece_37 : decode cX10_dropPiece 37 = .ok (.iconst 0, 1) := by decide +kernel
theorem dX10_dropPiece_38 : decode cX10_dropPiece 38 = .ok (.iaload, 1) := by decide +kernel
theorem dX10_dropPiece_39 : decode cX10_dropPiece 39 = .ok (.imul, 1) := by decide +kernel
theorem dX10_dropPiece_40 : decode cX10_dropPiece 40 = .ok (.iadd, 1) := by decide +kernel
theorem dX10_dropPiece_41 : decode cX10_dropPiece 41 = .ok (.if_icmp .ge 23, 3) := by decide +kernel
theorem dX10_dropPiece_44 : decode cX10_dropPiece 44 = .ok (.aload_n 0, 1) := by decide +kernel
theorem dX10_dropPiece_45 : decode cX10_dropPiece 45 = .ok (.getfield 7, 3) := by decide +kernel
theorem dX10_dropPiece_48 : decode cX10_dropPiece 48 = .ok (.iload_n 2, 1) := by decide +kernel
theorem dX10_dropPiece_49 : decode cX10_dropPiece 49 = .ok (.aload_n 0, 1) := by decide +kernel
theorem dX10_dropPiece_50 : decode cX10_dropPiece 50 = .ok (.getfield 7, 3) := by decide +kernel
theorem dX10_dropPiece_53 : decode cX10_dropPiece 53 = .ok (.iload_n 2, 1) := by decide +kernel
theorem dX10_dropPiece_54 : decode cX10_dropPiece 54 = .ok (.iconst 2, 1) := by decide +kernel
theorem dX10_dropPiece_55 : decode cX10_dropPiece 55 = .ok (.iadd, 1) := by decide +kernel
theorem dX10_dropPiece_56 : decode cX10_dropPiece 56 = .ok (.iaload, 1) := by decide +kernel
theorem dX10_dropPiece_57 : decode cX10_dropPiece 57 = .ok (.iastore, 1) := by decide +kernel
theorem dX10_dropPiece_58 : decode cX10_dropPiece 58 = .ok (.iinc 2 1, 3) := by decide +kernel
theorem dX10_dropPiece_61 : decode cX10_dropPiece 61 = .ok (.goto (-31), 3) := by decide +kernel
theorem dX10_dropPiece_64 : decode cX10_dropPiece 64 = .ok (.aload_n 0, 1) := by decide +kernel
theorem dX10_dropPiece_65 : decode cX10_dropPiece 65 = .ok (.invokevirtual 64, 3) := by decide +kernel
theorem dX10_dropPiece_68 : decode cX10_dropPiece 68 = .ok (.ireturn, 1) := by decide +kernel
theorem dX10_pieceAt_0 : decode cX10_pieceAt 0 = .ok (.aload_n 0, 1) := by decide +kernel
theorem dX10_pieceAt_1 : decode cX10_pieceAt 1 = .ok (.iload_n 1, 1) := by decide +kernel
theorem dX10_pieceAt_2 : decode cX10_pieceAt 2 = .ok (.invokevirtual 71, 3) := by decide +kernel
theorem dX10_pieceAt_5 : decode cX10_pieceAt 5 = .ok (.ifCond .eq 12, 3) := by decide +kernel
theorem dX10_pieceAt_8 : decode cX10_pieceAt 8 = .ok (.iload_n 2, 1) := by decide +kernel
theorem dX10_pieceAt_9 : decode cX10_pieceAt 9 = .ok (.iconst 0, 1) := by decide +kernel
theorem dX10_pieceAt_10 : decode cX10_pieceAt 10 = .ok (.iconst 2, 1) := by decide +kernel
theorem dX10_pieceAt_11 : decode cX10_pieceAt 11 = .ok (.invokestatic 60, 3) := by decide +kernel
theorem dX10_pieceAt_14 : decode cX10_pieceAt 14 = .ok (.ifCond .ne 5, 3) := by decide +kernel
theorem dX10_pieceAt_17 : decode cX10_pieceAt 17 = .ok (.iconst (-1), 1) := by decide +kernel
theorem dX10_pieceAt_18 : decode cX10_pieceAt 18 = .ok (.ireturn, 1) := by decide +kernel
theorem dX10_pieceAt_19 : decode cX10_pieceAt 19 = .ok (.iload_n 2, 1) := by decide +kernel
theorem dX10_pieceAt_20 : decode cX10_pieceAt 20 = .ok (.ifCond .ne 11, 3) := by decide +kernel
theorem dX10_pieceAt_23 : decode cX10_pieceAt 23 = .ok (.aload_n 0, 1) := by decide +kernel
theorem dX10_pieceAt_24 : decode cX10_pieceAt 24 = .ok (.iload_n 1, 1) := by decide +kernel
theorem dX10_pieceAt_25 : decode cX10_pieceAt 25 = .ok (.invokevirtual 75, 3) := by decide +kernel
theorem dX10_pieceAt_28 : decode cX10_pieceAt 28 = .ok (.goto 21, 3) := by decide +kernel
theorem dX10_pieceAt_31 : decode cX10_pieceAt 31 = .ok (.iload_n 2, 1) := by decide +kernel
theorem dX10_pieceAt_32 : decode cX10_pieceAt 32 = .ok (.iconst 1, 1) := by decide +kernel
theorem dX10_pieceAt_33 : decode cX10_pieceAt 33 = .ok (.if_icmp .ne 11, 3) := by decide +kernel
theorem dX10_pieceAt_36 : decode cX10_pieceAt 36 = .ok (.aload_n 0, 1) := by decide +kernel
theorem dX10_pieceAt_37 : decode cX10_pieceAt 37 = .ok (.iload_n 1, 1) := by decide +kernel
theorem dX10_pieceAt_38 : decode cX10_pieceAt 38 = .ok (.invokevirtual 53, 3) := by decide +kernel
theorem dX10_pieceAt_41 : decode cX10_pieceAt 41 = .ok (.goto 8, 3) := by decide +kernel
theorem dX10_pieceAt_44 : decode cX10_pieceAt 44 = .ok (.aload_n 0, 1) := by decide +kernel
theorem dX10_pieceAt_45 : decode cX10_pieceAt 45 = .ok (.iload_n 1, 1) := by decide +kernel
theorem dX10_pieceAt_46 : decode cX10_pieceAt 46 = .ok (.invokevirtual 57, 3) := by decide +kernel
theorem dX10_pieceAt_49 : decode cX10_pieceAt 49 = .ok (.ireturn, 1) := by decide +kernel
theorem dX10_isShot_0 : decode cX10_isShot 0 = .ok (.iconst 0, 1) := by decide +kernel
theorem dX10_isShot_1 : decode cX10_isShot 1 = .ok (.istore_n 2, 1) := by decide +kernel
theorem dX10_isShot_2 : decode cX10_isShot 2 = .ok (.iconst 0, 1) := by decide +kernel
theorem dX10_isShot_3 : decode cX10_isShot 3 = .ok (.istore_n 3, 1) := by decide +kernel
theorem dX10_isShot_4 : decode cX10_isShot 4 = .ok (.iload_n 3, 1) := by decide +kernel
theorem dX10_isShot_5 : decode cX10_isShot 5 = .ok (.aload_n 0, 1) := by decide +kernel
theorem dX10_isShot_6 : decode cX10_isShot 6 = .ok (.getfield 7, 3) := by decide +kernel
theorem dX10_isShot_9 : decode cX10_isShot 9 = .ok (.bipush 21, 2) := by decide +kernel
theorem dX10_isShot_11 : decode cX10_isShot 11 = .ok (.iaload, 1) := by decide +kernel
theorem dX10_isShot_12 : decode cX10_isShot 12 = .ok (.if_icmp .ge 32, 3) := by decide +kernel
theorem dX10_isShot_15 : decode cX10_isShot 15 = .ok (.iload_n 2, 1) := by decide +kernel
theorem dX10_isShot_16 : decode cX10_isShot 16 = .ok (.ifCond .ne 16, 3) := by decide +kernel
theorem dX10_isShot_19 : decode cX10_isShot 19 = .ok (.aload_n 0, 1) := by decide +kernel
theorem dX10_isShot_20 : decode cX10_isShot 20 = .ok (.getfield 7, 3) := by decide +kernel
theorem dX10_isShot_23 : decode cX10_isShot 23 = .ok (.bipush 22, 2) := by decide +kernel
theorem dX10_isShot_25 : decode cX10_isShot 25 = .ok (.iload_n 3, 1) := by decide +kernel
theorem dX10_isShot_26 : decode cX10_isShot 26 = .ok (.iadd, 1) := by decide +kernel
theorem dX10_isShot_27 : decode cX10_isShot 27 = .ok (.iaload, 1) := by decide +kernel
theorem dX10_isShot_28 : decode cX10_isShot 28 = .ok (.iload_n 1, 1) := by decide +kernel
theorem dX10_isShot_29 : decode cX10_isShot 29 = .ok (.if_icmp .ne 7, 3) := by decide +kernel
theorem dX10_isShot_32 : decode cX10_isShot 32 = .ok (.iconst 1, 1) := by decide +kernel
theorem dX10_isShot_33 : decode cX10_isShot 33 = .ok (.goto 4, 3) := by decide +kernel
theorem dX10_isShot_36 : decode cX10_isShot 36 = .ok (.iconst 0, 1) := by decide +kernel
theorem dX10_isShot_37 : decode cX10_isShot 37 = .ok (.istore_n 2, 1) := by decide +kernel
theorem dX10_isShot_38 : decode cX10_isShot 38 = .ok (.iinc 3 1, 3) := by decide +kernel
theorem dX10_isShot_41 : decode cX10_isShot 41 = .ok (.goto (-37), 3) := by decide +kernel
theorem dX10_isShot_44 : decode cX10_isShot 44 = .ok (.iload_n 2, 1) := by decide +kernel
theorem dX10_isShot_45 : decode cX10_isShot 45 = .ok (.ireturn, 1) := by decide +kernel
theorem dX10_shot_0 : decode cX10_shot 0 = .ok (.iload_n 1, 1) := by decide +kernel
theorem dX10_shot_1 : decode cX10_shot 1 = .ok (.iconst 1, 1) := by decide +kernel
theorem dX10_shot_2 : decode cX10_shot 2 = .ok (.sipush 9998, 3) := by decide +kernel
theorem dX10_shot_5 : decode cX10_shot 5 = .ok (.invokestatic 60, 3) := by decide +kernel
theorem dX10_shot_8 : decode cX10_shot 8 = .ok (.ifCond .ne 5, 3) := by decide +kernel
theorem dX10_shot_11 : decode cX10_shot 11 = .ok (.iconst (-1), 1) := by decide +kernel
theorem dX10_shot_12 : decode cX10_shot 12 = .ok (.ireturn, 1) := by decide +kernel
theorem dX10_shot_13 : decode cX10_shot 13 = .ok (.aload_n 0, 1) := by decide +kernel
theorem dX10_shot_14 : decode cX10_shot 14 = .ok (.iload_n 1, 1) := by decide +kernel
theorem dX10_shot_15 : decode cX10_shot 15 = .ok (.invokevirtual 78, 3) := by decide +kernel
theorem dX10_shot_18 : decode cX10_shot 18 = .ok (.istore_n 3, 1) := by decide +kernel
theorem dX10_shot_19 : decode cX10_shot 19 = .ok (.iload_n 2, 1) := by decide +kernel
theorem dX10_shot_20 : decode cX10_shot 20 = .ok (.ifCond .eq 22, 3) := by decide +kernel
theorem dX10_shot_23 : decode cX10_shot 23 = .ok (.iload_n 3, 1) := by decide +kernel
theorem dX10_shot_24 : decode cX10_shot 24 = .ok (.ifCond .ne 18, 3) := by decide +kernel
theorem dX10_shot_27 : decode cX10_shot 27 = .ok (.aload_n 0, 1) := by decide +kernel
theorem dX10_shot_28 : decode cX10_shot 28 = .ok (.getfield 7, 3) := by decide +kernel
theorem dX10_shot_31 : decode cX10_shot 31 = .ok (.bipush 21, 2) := by decide +kernel
theorem dX10_shot_33 : decode cX10_shot 33 = .ok (.iaload, 1) := by decide +kernel
theorem dX10_shot_34 : decode cX10_shot 34 = .ok (.bipush 20, 2) := by decide +kernel
theorem dX10_shot_36 : decode cX10_shot 36 = .ok (.if_icmp .ne 6, 3) := by decide +kernel
theorem dX10_shot_39 : decode cX10_shot 39 = .ok (.bipush (-3), 2) := by decide +kernel
theorem dX10_shot_41 : decode cX10_shot 41 = .ok (.ireturn, 1) := by decide +kernel
theorem dX10_shot_42 : decode cX10_shot 42 = .ok (.aload_n 0, 1) := by decide +kernel
theorem dX10_shot_43 : decode cX10_shot 43 = .ok (.invokevirtual 68, 3) := by decide +kernel
theorem dX10_shot_46 : decode cX10_shot 46 = .ok (.iconst 0, 1) := by decide +kernel
theorem dX10_shot_47 : decode cX10_shot 47 = .ok (.istore 4, 2) := by decide +kernel
theorem dX10_shot_49 : decode cX10_shot 49 = .ok (.iload 4, 2) := by decide +kernel
theorem dX10_shot_51 : decode cX10_shot 51 = .ok (.aload_n 0, 1) := by decide +kernel
theorem dX10_shot_52 : decode cX10_shot 52 = .ok (.getfield 7, 3) := by decide +kernel
theorem dX10_shot_55 : decode cX10_shot 55 = .ok (.bipush 21, 2) := by decide +kernel
theorem dX10_shot_57 : decode cX10_shot 57 = .ok (.iaload, 1) := by decide +kernel
theorem dX10_shot_58 : decode cX10_shot 58 = .ok (.if_icmp .ge 23, 3) := by decide +kernel
theorem dX10_shot_61 : decode cX10_shot 61 = .ok (.aload_n 0, 1) := by decide +kernel
theorem dX10_shot_62 : decode cX10_shot 62 = .ok (.getfield 7, 3) := by decide +kernel
theorem dX10_shot_65 : decode cX10_shot 65 = .ok (.bipush 22, 2) := by decide +kernel
theorem dX10_shot_67 : decode cX10_shot 67 = .ok (.iload 4, 2) := by decide +kernel
theorem dX10_shot_69 : decode cX10_shot 69 = .ok (.iadd, 1) := by decide +kernel
theorem dX10_shot_70 : decode cX10_shot 70 = .ok (.iaload, 1) := by decide +kernel
theorem dX10_shot_71 : decode cX10_shot 71 = .ok (.iload_n 1, 1) := by decide +kernel
theorem dX10_shot_72 : decode cX10_shot 72 = .ok (.if_icmp .ge 9, 3) := by decide +kernel
theorem dX10_shot_75 : decode cX10_shot 75 = .ok (.iinc 4 1, 3) := by decide +kernel
theorem dX10_shot_78 : decode cX10_shot 78 = .ok (.goto (-29), 3) := by decide +kernel
theorem dX10_shot_81 : decode cX10_shot 81 = .ok (.iload_n 2, 1) := by decide +kernel
theorem dX10_shot_82 : decode cX10_shot 82 = .ok (.ifCond .eq 76, 3) := by decide +kernel
theorem dX10_shot_85 : decode cX10_shot 85 = .ok (.iload_n 3, 1) := by decide +kernel
theorem dX10_shot_86 : decode cX10_shot 86 = .ok (.ifCond .ne 72, 3) := by decide +kernel
theorem dX10_shot_89 : decode cX10_shot 89 = .ok (.aload_n 0, 1) := by decide +kernel
theorem dX10_shot_90 : decode cX10_shot 90 = .ok (.getfield 7, 3) := by decide +kernel
theorem dX10_shot_93 : decode cX10_shot 93 = .ok (.bipush 21, 2) := by decide +kernel
theorem dX10_shot_95 : decode cX10_shot 95 = .ok (.iaload, 1) := by decide +kernel
theorem dX10_shot_96 : decode cX10_shot 96 = .ok (.istore 5, 2) := by decide +kernel
theorem dX10_shot_98 : decode cX10_shot 98 = .ok (.iload 5, 2) := by decide +kernel
theorem dX10_shot_100 : decode cX10_shot 100 = .ok (.iload 4, 2) := by decide +kernel
theorem dX10_shot_102 : decode cX10_shot 102 = .ok (.if_icmp .le 31, 3) := by decide +kernel
theorem dX10_shot_105 : decode cX10_shot 105 = .ok (.aload_n 0, 1) := by decide +kernel
theorem dX10_shot_106 : decode cX10_shot 106 = .ok (.getfield 7, 3) := by decide +kernel
theorem dX10_shot_109 : decode cX10_shot 109 = .ok (.bipush 22, 2) := by decide +kernel
theorem dX10_shot_111 : decode cX10_shot 111 = .ok (.iload 5, 2) := by decide +kernel
theorem dX10_shot_113 : decode cX10_shot 113 = .ok (.iadd, 1) := by decide +kernel
theorem dX10_shot_114 : decode cX10_shot 114 = .ok (.aload_n 0, 1) := by decide +kernel
theorem dX10_shot_115 : decode cX10_shot 115 = .ok (.getfield 7, 3) := by decide +kernel
theorem dX10_shot_118 : decode cX10_shot 118 = .ok (.bipush 22, 2) := by decide +kernel
theorem dX10_shot_120 : decode cX10_shot 120 = .ok (.iload 5, 2) := by decide +kernel
theorem dX10_shot_122 : decode cX10_shot 122 = .ok (.iadd, 1) := by decide +kernel
theorem dX10_shot_123 : decode cX10_shot 123 = .ok (.iconst 1, 1) := by decide +kernel
theorem dX10_shot_124 : decode cX10_shot 124 = .ok (.isub, 1) := by decide +kernel
theorem dX10_shot_125 : decode cX10_shot 125 = .ok (.iaload, 1) := by decide +kernel
theorem dX10_shot_126 : decode cX10_shot 126 = .ok (.iastore, 1) := by decide +kernel
theorem dX10_shot_127 : decode cX10_shot 127 = .ok (.iinc 5 (-1), 3) := by decide +kernel
theorem dX10_shot_130 : decode cX10_shot 130 = .ok (.goto (-32), 3) := by decide +kernel
theorem dX10_shot_133 : decode cX10_shot 133 = .ok (.aload_n 0, 1) := by decide +kernel
theorem dX10_shot_134 : decode cX10_shot 134 = .ok (.getfield 7, 3) := by decide +kernel
theorem dX10_shot_137 : decode cX10_shot 137 = .ok (.bipush 22, 2) := by decide +kernel
theorem dX10_shot_139 : decode cX10_shot 139 = .ok (.iload 4, 2) := by decide +kernel
theorem dX10_shot_141 : decode cX10_shot 141 = .ok (.iadd, 1) := by decide +kernel
theorem dX10_shot_142 : decode cX10_shot 142 = .ok (.iload_n 1, 1) := by decide +kernel
theorem dX10_shot_143 : decode cX10_shot 143 = .ok (.iastore, 1) := by decide +kernel
theorem dX10_shot_144 : decode cX10_shot 144 = .ok (.aload_n 0, 1) := by decide +kernel
theorem dX10_shot_145 : decode cX10_shot 145 = .ok (.getfield 7, 3) := by decide +kernel
theorem dX10_shot_148 : decode cX10_shot 148 = .ok (.bipush 21, 2) := by decide +kernel
theorem dX10_shot_150 : decode cX10_shot 150 = .ok (.dup2, 1) := by decide +kernel
theorem dX10_shot_151 : decode cX10_shot 151 = .ok (.iaload, 1) := by decide +kernel
theorem dX10_shot_152 : decode cX10_shot 152 = .ok (.iconst 1, 1) := by decide +kernel
theorem dX10_shot_153 : decode cX10_shot 153 = .ok (.iadd, 1) := by decide +kernel
theorem dX10_shot_154 : decode cX10_shot 154 = .ok (.iastore, 1) := by decide +kernel
theorem dX10_shot_155 : decode cX10_shot 155 = .ok (.goto 66, 3) := by decide +kernel
theorem dX10_shot_158 : decode cX10_shot 158 = .ok (.iload_n 2, 1) := by decide +kernel
theorem dX10_shot_159 : decode cX10_shot 159 = .ok (.ifCond .ne 62, 3) := by decide +kernel
theorem dX10_shot_162 : decode cX10_shot 162 = .ok (.iload_n 3, 1) := by decide +kernel
theorem dX10_shot_163 : decode cX10_shot 163 = .ok (.ifCond .eq 58, 3) := by decide +kernel
theorem dX10_shot_166 : decode cX10_shot 166 = .ok (.aload_n 0, 1) := by decide +kernel
theorem dX10_shot_167 : decode cX10_shot 167 = .ok (.getfield 7, 3) := by decide +kernel
theorem dX10_shot_170 : decode cX10_shot 170 = .ok (.bipush 21, 2) := by decide +kernel
theorem dX10_shot_172 : decode cX10_shot 172 = .ok (.dup2, 1) := by decide +kernel
theorem dX10_shot_173 : decode cX10_shot 173 = .ok (.iaload, 1) := by decide +kernel
theorem dX10_shot_174 : decode cX10_shot 174 = .ok (.iconst 1, 1) := by decide +kernel
theorem dX10_shot_175 : decode cX10_shot 175 = .ok (.isub, 1) := by decide +kernel
theorem dX10_shot_176 : decode cX10_shot 176 = .ok (.iastore, 1) := by decide +kernel
theorem dX10_shot_177 : decode cX10_shot 177 = .ok (.iload 4, 2) := by decide +kernel
theorem dX10_shot_179 : decode cX10_shot 179 = .ok (.istore 5, 2) := by decide +kernel
theorem dX10_shot_181 : decode cX10_shot 181 = .ok (.iload 5, 2) := by decide +kernel
theorem dX10_shot_183 : decode cX10_shot 183 = .ok (.aload_n 0, 1) := by decide +kernel
theorem dX10_shot_184 : decode cX10_shot 184 = .ok (.getfield 7, 3) := by decide +kernel
theorem dX10_shot_187 : decode cX10_shot 187 = .ok (.bipush 21, 2) := by decide +kernel
theorem dX10_shot_189 : decode cX10_shot 189 = .ok (.iaload, 1) := by decide +kernel
theorem dX10_shot_190 : decode cX10_shot 190 = .ok (.if_icmp .ge 31, 3) := by decide +kernel
theorem dX10_shot_193 : decode cX10_shot 193 = .ok (.aload_n 0, 1) := by decide +kernel
theorem dX10_shot_194 : decode cX10_shot 194 = .ok (.getfield 7, 3) := by decide +kernel
theorem dX10_shot_197 : decode cX10_shot 197 = .ok (.bipush 22, 2) := by decide +kernel
theorem dX10_shot_199 : decode cX10_shot 199 = .ok (.iload 5, 2) := by decide +kernel
theorem dX10_shot_201 : decode cX10_shot 201 = .ok (.iadd, 1) := by decide +kernel
theorem dX10_shot_202 : decode cX10_shot 202 = .ok (.aload_n 0, 1) := by decide +kernel
theorem dX10_shot_203 : decode cX10_shot 203 = .ok (.getfield 7, 3) := by decide +kernel
theorem dX10_shot_206 : decode cX10_shot 206 = .ok (.bipush 22, 2) := by decide +kernel
theorem dX10_shot_208 : decode cX10_shot 208 = .ok (.iload 5, 2) := by decide +kernel
theorem dX10_shot_210 : decode cX10_shot 210 = .ok (.iadd, 1) := by decide +kernel
theorem dX10_shot_211 : decode cX10_shot 211 = .ok (.iconst 1, 1) := by decide +kernel
theorem dX10_shot_212 : decode cX10_shot 212 = .ok (.iadd, 1) := by decide +kernel
theorem dX10_shot_213 : decode cX10_shot 213 = .ok (.iaload, 1) := by decide +kernel
theorem dX10_shot_214 : decode cX10_shot 214 = .ok (.iastore, 1) := by decide +kernel
theorem dX10_shot_215 : decode cX10_shot 215 = .ok (.iinc 5 1, 3) := by decide +kernel
theorem dX10_shot_218 : decode cX10_shot 218 = .ok (.goto (-37), 3) := by decide +kernel
theorem dX10_shot_221 : decode cX10_shot 221 = .ok (.aload_n 0, 1) := by decide +kernel
theorem dX10_shot_222 : decode cX10_shot 222 = .ok (.getfield 7, 3) := by decide +kernel
theorem dX10_shot_225 : decode cX10_shot 225 = .ok (.bipush 21, 2) := by decide +kernel
theorem dX10_shot_227 : decode cX10_shot 227 = .ok (.iaload, 1) := by decide +kernel
theorem dX10_shot_228 : decode cX10_shot 228 = .ok (.ireturn, 1) := by decide +kernel
theorem dX10_shotAt_0 : decode cX10_shotAt 0 = .ok (.iload_n 1, 1) := by decide +kernel
theorem dX10_shotAt_1 : decode cX10_shotAt 1 = .ok (.ifCond .ge 7, 3) := by decide +kernel
theorem dX10_shotAt_4 : decode cX10_shotAt 4 = .ok (.iconst (-1), 1) := by decide +kernel
theorem dX10_shotAt_5 : decode cX10_shotAt 5 = .ok (.goto 28, 3) := by decide +kernel
theorem dX10_shotAt_8 : decode cX10_shotAt 8 = .ok (.iload_n 1, 1) := by decide +kernel
theorem dX10_shotAt_9 : decode cX10_shotAt 9 = .ok (.aload_n 0, 1) := by decide +kernel
theorem dX10_shotAt_10 : decode cX10_shotAt 10 = .ok (.getfield 7, 3) := by decide +kernel
theorem dX10_shotAt_13 : decode cX10_shotAt 13 = .ok (.bipush 21, 2) := by decide +kernel
theorem dX10_shotAt_15 : decode cX10_shotAt 15 = .ok (.iaload, 1) := by decide +kernel
theorem dX10_shotAt_16 : decode cX10_shotAt 16 = .ok (.if_icmp .ge 15, 3) := by decide +kernel
theorem dX10_shotAt_19 : decode cX10_shotAt 19 = .ok (.aload_n 0, 1) := by decide +kernel
theorem dX10_shotAt_20 : decode cX10_shotAt 20 = .ok (.getfield 7, 3) := by decide +kernel
theorem dX10_shotAt_23 : decode cX10_shotAt 23 = .ok (.bipush 22, 2) := by decide +kernel
theorem dX10_shotAt_25 : decode cX10_shotAt 25 = .ok (.iload_n 1, 1) := by decide +kernel
theorem dX10_shotAt_26 : decode cX10_shotAt 26 = .ok (.iadd, 1) := by decide +kernel
theorem dX10_shotAt_27 : decode cX10_shotAt 27 = .ok (.iaload, 1) := by decide +kernel
theorem dX10_shotAt_28 : decode cX10_shotAt 28 = .ok (.goto 5, 3) := by decide +kernel
theorem dX10_shotAt_31 : decode cX10_shotAt 31 = .ok (.bipush (-9), 2) := by decide +kernel
theorem dX10_shotAt_33 : decode cX10_shotAt 33 = .ok (.ireturn, 1) := by decide +kernel
theorem dX10_toNew_0 : decode cX10_toNew 0 = .ok (.iload_n 1, 1) := by decide +kernel
theorem dX10_toNew_1 : decode cX10_toNew 1 = .ok (.iconst 0, 1) := by decide +kernel
theorem dX10_toNew_2 : decode cX10_toNew 2 = .ok (.sipush 9999, 3) := by decide +kernel
theorem dX10_toNew_5 : decode cX10_toNew 5 = .ok (.invokestatic 60, 3) := by decide +kernel
theorem dX10_toNew_8 : decode cX10_toNew 8 = .ok (.ifCond .eq 7, 3) := by decide +kernel
theorem dX10_toNew_11 : decode cX10_toNew 11 = .ok (.iload_n 2, 1) := by decide +kernel
theorem dX10_toNew_12 : decode cX10_toNew 12 = .ok (.ifCond .ge 5, 3) := by decide +kernel
theorem dX10_toNew_15 : decode cX10_toNew 15 = .ok (.iconst (-1), 1) := by decide +kernel
theorem dX10_toNew_16 : decode cX10_toNew 16 = .ok (.ireturn, 1) := by decide +kernel
theorem dX10_toNew_17 : decode cX10_toNew 17 = .ok (.iload_n 2, 1) := by decide +kernel
theorem dX10_toNew_18 : decode cX10_toNew 18 = .ok (.istore_n 3, 1) := by decide +kernel
theorem dX10_toNew_19 : decode cX10_toNew 19 = .ok (.iconst 0, 1) := by decide +kernel
theorem dX10_toNew_20 : decode cX10_toNew 20 = .ok (.istore 4, 2) := by decide +kernel
theorem dX10_toNew_22 : decode cX10_toNew 22 = .ok (.iload 4, 2) := by decide +kernel
theorem dX10_toNew_24 : decode cX10_toNew 24 = .ok (.aload_n 0, 1) := by decide +kernel
theorem dX10_toNew_25 : decode cX10_toNew 25 = .ok (.getfield 7, 3) := by decide +kernel
theorem dX10_toNew_28 : decode cX10_toNew 28 = .ok (.iconst 0, 1) := by decide +kernel
theorem dX10_toNew_29 : decode cX10_toNew 29 = .ok (.iaload, 1) := by decide +kernel
theorem dX10_toNew_30 : decode cX10_toNew 30 = .ok (.if_icmp .ge 52, 3) := by decide +kernel
theorem dX10_toNew_33 : decode cX10_toNew 33 = .ok (.iload_n 1, 1) := by decide +kernel
theorem dX10_toNew_34 : decode cX10_toNew 34 = .ok (.aload_n 0, 1) := by decide +kernel
theorem dX10_toNew_35 : decode cX10_toNew 35 = .ok (.iload 4, 2) := by decide +kernel
theorem dX10_toNew_37 : decode cX10_toNew 37 = .ok (.invokevirtual 75, 3) := by decide +kernel
theorem dX10_toNew_40 : decode cX10_toNew 40 = .ok (.isub, 1) := by decide +kernel
theorem dX10_toNew_41 : decode cX10_toNew 41 = .ok (.istore 5, 2) := by decide +kernel
theorem dX10_toNew_43 : decode cX10_toNew 43 = .ok (.iload 5, 2) := by decide +kernel
theorem dX10_toNew_45 : decode cX10_toNew 45 = .ok (.ifCond .lt 31, 3) := by decide +kernel
theorem dX10_toNew_48 : decode cX10_toNew 48 = .ok (.iload 5, 2) := by decide +kernel
theorem dX10_toNew_50 : decode cX10_toNew 50 = .ok (.aload_n 0, 1) := by decide +kernel
theorem dX10_toNew_51 : decode cX10_toNew 51 = .ok (.iload 4, 2) := by decide +kernel
theorem dX10_toNew_53 : decode cX10_toNew 53 = .ok (.invokevirtual 53, 3) := by decide +kernel
theorem dX10_toNew_56 : decode cX10_toNew 56 = .ok (.if_icmp .ge 20, 3) := by decide +kernel
theorem dX10_toNew_59 : decode cX10_toNew 59 = .ok (.iload_n 3, 1) := by decide +kernel
theorem dX10_toNew_60 : decode cX10_toNew 60 = .ok (.ifCond .ne 13, 3) := by decide +kernel
theorem dX10_toNew_63 : decode cX10_toNew 63 = .ok (.aload_n 0, 1) := by decide +kernel
theorem dX10_toNew_64 : decode cX10_toNew 64 = .ok (.iload 4, 2) := by decide +kernel
theorem dX10_toNew_66 : decode cX10_toNew 66 = .ok (.invokevirtual 57, 3) := by decide +kernel
theorem dX10_toNew_69 : decode cX10_toNew 69 = .ok (.iload 5, 2) := by decide +kernel
theorem dX10_toNew_71 : decode cX10_toNew 71 = .ok (.iadd, 1) := by decide +kernel
theorem dX10_toNew_72 : decode cX10_toNew 72 = .ok (.ireturn, 1) := by decide +kernel
theorem dX10_toNew_73 : decode cX10_toNew 73 = .ok (.iinc 3 (-1), 3) := by decide +kernel
theorem dX10_toNew_76 : decode cX10_toNew 76 = .ok (.iinc 4 1, 3) := by decide +kernel
theorem dX10_toNew_79 : decode cX10_toNew 79 = .ok (.goto (-57), 3) := by decide +kernel
theorem dX10_toNew_82 : decode cX10_toNew 82 = .ok (.bipush (-9), 2) := by decide +kernel
theorem dX10_toNew_84 : decode cX10_toNew 84 = .ok (.ireturn, 1) := by decide +kernel
theorem dX10_toOld_0 : decode cX10_toOld 0 = .ok (.iload_n 1, 1) := by decide +kernel
theorem dX10_toOld_1 : decode cX10_toOld 1 = .ok (.iconst 0, 1) := by decide +kernel
theorem dX10_toOld_2 : decode cX10_toOld 2 = .ok (.sipush 9999, 3) := by decide +kernel
theorem dX10_toOld_5 : decode cX10_toOld 5 = .ok (.invokestatic 60, 3) := by decide +kernel
theorem dX10_toOld_8 : decode cX10_toOld 8 = .ok (.ifCond .ne 5, 3) := by decide +kernel
theorem dX10_toOld_11 : decode cX10_toOld 11 = .ok (.iconst (-1), 1) := by decide +kernel
theorem dX10_toOld_12 : decode cX10_toOld 12 = .ok (.ireturn, 1) := by decide +kernel
theorem dX10_toOld_13 : decode cX10_toOld 13 = .ok (.iload_n 1, 1) := by decide +kernel
theorem dX10_toOld_14 : decode cX10_toOld 14 = .ok (.istore_n 2, 1) := by decide +kernel
theorem dX10_toOld_15 : decode cX10_toOld 15 = .ok (.iconst 0, 1) := by decide +kernel
theorem dX10_toOld_16 : decode cX10_toOld 16 = .ok (.istore_n 3, 1) := by decide +kernel
theorem dX10_toOld_17 : decode cX10_toOld 17 = .ok (.iload_n 3, 1) := by decide +kernel
theorem dX10_toOld_18 : decode cX10_toOld 18 = .ok (.aload_n 0, 1) := by decide +kernel
theorem dX10_toOld_19 : decode cX10_toOld 19 = .ok (.getfield 7, 3) := by decide +kernel
theorem dX10_toOld_22 : decode cX10_toOld 22 = .ok (.iconst 0, 1) := by decide +kernel
theorem dX10_toOld_23 : decode cX10_toOld 23 = .ok (.iaload, 1) := by decide +kernel
theorem dX10_toOld_24 : decode cX10_toOld 24 = .ok (.if_icmp .ge 34, 3) := by decide +kernel
theorem dX10_toOld_27 : decode cX10_toOld 27 = .ok (.iload_n 2, 1) := by decide +kernel
theorem dX10_toOld_28 : decode cX10_toOld 28 = .ok (.aload_n 0, 1) := by decide +kernel
theorem dX10_toOld_29 : decode cX10_toOld 29 = .ok (.iload_n 3, 1) := by decide +kernel
theorem dX10_toOld_30 : decode cX10_toOld 30 = .ok (.invokevirtual 53, 3) := by decide +kernel
theorem dX10_toOld_33 : decode cX10_toOld 33 = .ok (.if_icmp .ge 11, 3) := by decide +kernel
theorem dX10_toOld_36 : decode cX10_toOld 36 = .ok (.aload_n 0, 1) := by decide +kernel
theorem dX10_toOld_37 : decode cX10_toOld 37 = .ok (.iload_n 3, 1) := by decide +kernel
theorem dX10_toOld_38 : decode cX10_toOld 38 = .ok (.invokevirtual 75, 3) := by decide +kernel
theorem dX10_toOld_41 : decode cX10_toOld 41 = .ok (.iload_n 2, 1) := by decide +kernel
theorem dX10_toOld_42 : decode cX10_toOld 42 = .ok (.iadd, 1) := by decide +kernel
theorem dX10_toOld_43 : decode cX10_toOld 43 = .ok (.ireturn, 1) := by decide +kernel
theorem dX10_toOld_44 : decode cX10_toOld 44 = .ok (.iload_n 2, 1) := by decide +kernel
theorem dX10_toOld_45 : decode cX10_toOld 45 = .ok (.aload_n 0, 1) := by decide +kernel
theorem dX10_toOld_46 : decode cX10_toOld 46 = .ok (.iload_n 3, 1) := by decide +kernel
theorem dX10_toOld_47 : decode cX10_toOld 47 = .ok (.invokevirtual 53, 3) := by decide +kernel
theorem dX10_toOld_50 : decode cX10_toOld 50 = .ok (.isub, 1) := by decide +kernel
theorem dX10_toOld_51 : decode cX10_toOld 51 = .ok (.istore_n 2, 1) := by decide +kernel
theorem dX10_toOld_52 : decode cX10_toOld 52 = .ok (.iinc 3 1, 3) := by decide +kernel
theorem dX10_toOld_55 : decode cX10_toOld 55 = .ok (.goto (-38), 3) := by decide +kernel
theorem dX10_toOld_58 : decode cX10_toOld 58 = .ok (.bipush (-9), 2) := by decide +kernel
theorem dX10_toOld_60 : decode cX10_toOld 60 = .ok (.ireturn, 1) := by decide +kernel
theorem dX10_at_0 : decode cX10_at 0 = .ok (.bipush 43, 2) := by decide +kernel
theorem dX10_at_2 : decode cX10_at 2 = .ok (.bipush 87, 2) := by decide +kernel
theorem dX10_at_4 : decode cX10_at 4 = .ok (.iload_n 1, 1) := by decide +kernel
theorem dX10_at_5 : decode cX10_at 5 = .ok (.imul, 1) := by decide +kernel
theorem dX10_at_6 : decode cX10_at 6 = .ok (.iadd, 1) := by decide +kernel
theorem dX10_at_7 : decode cX10_at 7 = .ok (.ireturn, 1) := by decide +kernel
theorem dX10_partAt_0 : decode cX10_partAt 0 = .ok (.aload_n 0, 1) := by decide +kernel
theorem dX10_partAt_1 : decode cX10_partAt 1 = .ok (.iload_n 1, 1) := by decide +kernel
theorem dX10_partAt_2 : decode cX10_partAt 2 = .ok (.iconst 2, 1) := by decide +kernel
theorem dX10_partAt_3 : decode cX10_partAt 3 = .ok (.idiv, 1) := by decide +kernel
theorem dX10_partAt_4 : decode cX10_partAt 4 = .ok (.invokevirtual 81, 3) := by decide +kernel
theorem dX10_partAt_7 : decode cX10_partAt 7 = .ok (.iconst 3, 1) := by decide +kernel
theorem dX10_partAt_8 : decode cX10_partAt 8 = .ok (.iadd, 1) := by decide +kernel
theorem dX10_partAt_9 : decode cX10_partAt 9 = .ok (.bipush 42, 2) := by decide +kernel
theorem dX10_partAt_11 : decode cX10_partAt 11 = .ok (.iload_n 1, 1) := by decide +kernel
theorem dX10_partAt_12 : decode cX10_partAt 12 = .ok (.iconst 2, 1) := by decide +kernel
theorem dX10_partAt_13 : decode cX10_partAt 13 = .ok (.irem, 1) := by decide +kernel
theorem dX10_partAt_14 : decode cX10_partAt 14 = .ok (.imul, 1) := by decide +kernel
theorem dX10_partAt_15 : decode cX10_partAt 15 = .ok (.iadd, 1) := by decide +kernel
theorem dX10_partAt_16 : decode cX10_partAt 16 = .ok (.ireturn, 1) := by decide +kernel
theorem dX10_takes_0 : decode cX10_takes 0 = .ok (.aload_n 0, 1) := by decide +kernel
theorem dX10_takes_1 : decode cX10_takes 1 = .ok (.aload_n 0, 1) := by decide +kernel
theorem dX10_takes_2 : decode cX10_takes 2 = .ok (.getfield 7, 3) := by decide +kernel
theorem dX10_takes_5 : decode cX10_takes 5 = .ok (.bipush 42, 2) := by decide +kernel
theorem dX10_takes_7 : decode cX10_takes 7 = .ok (.iaload, 1) := by decide +kernel
theorem dX10_takes_8 : decode cX10_takes 8 = .ok (.putfield 84, 3) := by decide +kernel
theorem dX10_takes_11 : decode cX10_takes 11 = .ok (.iconst 0, 1) := by decide +kernel
theorem dX10_takes_12 : decode cX10_takes 12 = .ok (.istore_n 1, 1) := by decide +kernel
theorem dX10_takes_13 : decode cX10_takes 13 = .ok (.iload_n 1, 1) := by decide +kernel
theorem dX10_takes_14 : decode cX10_takes 14 = .ok (.aload_n 0, 1) := by decide +kernel
theorem dX10_takes_15 : decode cX10_takes 15 = .ok (.getfield 84, 3) := by decide +kernel
theorem dX10_takes_18 : decode cX10_takes 18 = .ok (.if_icmp .ge 81, 3) := by decide +kernel
theorem dX10_takes_21 : decode cX10_takes 21 = .ok (.aload_n 0, 1) := by decide +kernel
theorem dX10_takes_22 : decode cX10_takes 22 = .ok (.getfield 16, 3) := by decide +kernel
theorem dX10_takes_25 : decode cX10_takes 25 = .ok (.iload_n 1, 1) := by decide +kernel
theorem dX10_takes_26 : decode cX10_takes 26 = .ok (.aload_n 0, 1) := by decide +kernel
theorem dX10_takes_27 : decode cX10_takes 27 = .ok (.getfield 7, 3) := by decide +kernel
theorem dX10_takes_30 : decode cX10_takes 30 = .ok (.aload_n 0, 1) := by decide +kernel
theorem dX10_takes_31 : decode cX10_takes 31 = .ok (.iload_n 1, 1) := by decide +kernel
theorem dX10_takes_32 : decode cX10_takes 32 = .ok (.invokevirtual 81, 3) := by decide +kernel
theorem dX10_takes_35 : decode cX10_takes 35 = .ok (.iaload, 1) := by decide +kernel
theorem dX10_takes_36 : decode cX10_takes 36 = .ok (.iastore, 1) := by decide +kernel
theorem dX10_takes_37 : decode cX10_takes 37 = .ok (.aload_n 0, 1) := by decide +kernel
theorem dX10_takes_38 : decode cX10_takes 38 = .ok (.getfield 19, 3) := by decide +kernel
theorem dX10_takes_41 : decode cX10_takes 41 = .ok (.iload_n 1, 1) := by decide +kernel
theorem dX10_takes_42 : decode cX10_takes 42 = .ok (.aload_n 0, 1) := by decide +kernel
theorem dX10_takes_43 : decode cX10_takes 43 = .ok (.getfield 7, 3) := by decide +kernel
theorem dX10_takes_46 : decode cX10_takes 46 = .ok (.aload_n 0, 1) := by decide +kernel
theorem dX10_takes_47 : decode cX10_takes 47 = .ok (.iload_n 1, 1) := by decide +kernel
theorem dX10_takes_48 : decode cX10_takes 48 = .ok (.invokevirtual 81, 3) := by decide +kernel
theorem dX10_takes_51 : decode cX10_takes 51 = .ok (.iconst 1, 1) := by decide +kernel
theorem dX10_takes_52 : decode cX10_takes 52 = .ok (.iadd, 1) := by decide +kernel
theorem dX10_takes_53 : decode cX10_takes 53 = .ok (.iaload, 1) := by decide +kernel
theorem dX10_takes_54 : decode cX10_takes 54 = .ok (.iastore, 1) := by decide +kernel
theorem dX10_takes_55 : decode cX10_takes 55 = .ok (.aload_n 0, 1) := by decide +kernel
theorem dX10_takes_56 : decode cX10_takes 56 = .ok (.getfield 22, 3) := by decide +kernel
theorem dX10_takes_59 : decode cX10_takes 59 = .ok (.iload_n 1, 1) := by decide +kernel
theorem dX10_takes_60 : decode cX10_takes 60 = .ok (.aload_n 0, 1) := by decide +kernel
theorem dX10_takes_61 : decode cX10_takes 61 = .ok (.getfield 7, 3) := by decide +kernel
theorem dX10_takes_64 : decode cX10_takes 64 = .ok (.aload_n 0, 1) := by decide +kernel
theorem dX10_takes_65 : decode cX10_takes 65 = .ok (.iload_n 1, 1) := by decide +kernel
theorem dX10_takes_66 : decode cX10_takes 66 = .ok (.invokevirtual 81, 3) := by decide +kernel
theorem dX10_takes_69 : decode cX10_takes 69 = .ok (.iconst 2, 1) := by decide +kernel
theorem dX10_takes_70 : decode cX10_takes 70 = .ok (.iadd, 1) := by decide +kernel
theorem dX10_takes_71 : decode cX10_takes 71 = .ok (.iaload, 1) := by decide +kernel
theorem dX10_takes_72 : decode cX10_takes 72 = .ok (.iastore, 1) := by decide +kernel
theorem dX10_takes_73 : decode cX10_takes 73 = .ok (.aload_n 0, 1) := by decide +kernel
theorem dX10_takes_74 : decode cX10_takes 74 = .ok (.getfield 25, 3) := by decide +kernel
theorem dX10_takes_77 : decode cX10_takes 77 = .ok (.iload_n 1, 1) := by decide +kernel
theorem dX10_takes_78 : decode cX10_takes 78 = .ok (.iconst 2, 1) := by decide +kernel
theorem dX10_takes_79 : decode cX10_takes 79 = .ok (.iload_n 1, 1) := by decide +kernel
theorem dX10_takes_80 : decode cX10_takes 80 = .ok (.imul, 1) := by decide +kernel
theorem dX10_takes_81 : decode cX10_takes 81 = .ok (.iastore, 1) := by decide +kernel
theorem dX10_takes_82 : decode cX10_takes 82 = .ok (.aload_n 0, 1) := by decide +kernel
theorem dX10_takes_83 : decode cX10_takes 83 = .ok (.getfield 28, 3) := by decide +kernel
theorem dX10_takes_86 : decode cX10_takes 86 = .ok (.iload_n 1, 1) := by decide +kernel
theorem dX10_takes_87 : decode cX10_takes 87 = .ok (.iconst 2, 1) := by decide +kernel
theorem dX10_takes_88 : decode cX10_takes 88 = .ok (.iload_n 1, 1) := by decide +kernel
theorem dX10_takes_89 : decode cX10_takes 89 = .ok (.imul, 1) := by decide +kernel
theorem dX10_takes_90 : decode cX10_takes 90 = .ok (.iconst 1, 1) := by decide +kernel
theorem dX10_takes_91 : decode cX10_takes 91 = .ok (.iadd, 1) := by decide +kernel
theorem dX10_takes_92 : decode cX10_takes 92 = .ok (.iastore, 1) := by decide +kernel
theorem dX10_takes_93 : decode cX10_takes 93 = .ok (.iinc 1 1, 3) := by decide +kernel
theorem dX10_takes_96 : decode cX10_takes 96 = .ok (.goto (-83), 3) := by decide +kernel
theorem dX10_takes_99 : decode cX10_takes 99 = .ok (.return_, 1) := by decide +kernel
theorem dX10_empties_0 : decode cX10_empties 0 = .ok (.iconst 0, 1) := by decide +kernel
theorem dX10_empties_1 : decode cX10_empties 1 = .ok (.istore_n 1, 1) := by decide +kernel
theorem dX10_empties_2 : decode cX10_empties 2 = .ok (.iload_n 1, 1) := by decide +kernel
theorem dX10_empties_3 : decode cX10_empties 3 = .ok (.aload_n 0, 1) := by decide +kernel
theorem dX10_empties_4 : decode cX10_empties 4 = .ok (.getfield 84, 3) := by decide +kernel
theorem dX10_empties_7 : decode cX10_empties 7 = .ok (.if_icmp .ge 69, 3) := by decide +kernel
theorem dX10_empties_10 : decode cX10_empties 10 = .ok (.aload_n 0, 1) := by decide +kernel
theorem dX10_empties_11 : decode cX10_empties 11 = .ok (.getfield 31, 3) := by decide +kernel
theorem dX10_empties_14 : decode cX10_empties 14 = .ok (.iload_n 1, 1) := by decide +kernel
theorem dX10_empties_15 : decode cX10_empties 15 = .ok (.aload_n 0, 1) := by decide +kernel
theorem dX10_empties_16 : decode cX10_empties 16 = .ok (.getfield 16, 3) := by decide +kernel
theorem dX10_empties_19 : decode cX10_empties 19 = .ok (.iload_n 1, 1) := by decide +kernel
theorem dX10_empties_20 : decode cX10_empties 20 = .ok (.iaload, 1) := by decide +kernel
theorem dX10_empties_21 : decode cX10_empties 21 = .ok (.iastore, 1) := by decide +kernel
theorem dX10_empties_22 : decode cX10_empties 22 = .ok (.aload_n 0, 1) := by decide +kernel
theorem dX10_empties_23 : decode cX10_empties 23 = .ok (.getfield 34, 3) := by decide +kernel
theorem dX10_empties_26 : decode cX10_empties 26 = .ok (.iload_n 1, 1) := by decide +kernel
theorem dX10_empties_27 : decode cX10_empties 27 = .ok (.aload_n 0, 1) := by decide +kernel
theorem dX10_empties_28 : decode cX10_empties 28 = .ok (.getfield 19, 3) := by decide +kernel
theorem dX10_empties_31 : decode cX10_empties 31 = .ok (.iload_n 1, 1) := by decide +kernel
theorem dX10_empties_32 : decode cX10_empties 32 = .ok (.iaload, 1) := by decide +kernel
theorem dX10_empties_33 : decode cX10_empties 33 = .ok (.iastore, 1) := by decide +kernel
theorem dX10_empties_34 : decode cX10_empties 34 = .ok (.aload_n 0, 1) := by decide +kernel
theorem dX10_empties_35 : decode cX10_empties 35 = .ok (.getfield 37, 3) := by decide +kernel
theorem dX10_empties_38 : decode cX10_empties 38 = .ok (.iload_n 1, 1) := by decide +kernel
theorem dX10_empties_39 : decode cX10_empties 39 = .ok (.aload_n 0, 1) := by decide +kernel
theorem dX10_empties_40 : decode cX10_empties 40 = .ok (.getfield 22, 3) := by decide +kernel
theorem dX10_empties_43 : decode cX10_empties 43 = .ok (.iload_n 1, 1) := by decide +kernel
theorem dX10_empties_44 : decode cX10_empties 44 = .ok (.iaload, 1) := by decide +kernel
theorem dX10_empties_45 : decode cX10_empties 45 = .ok (.iastore, 1) := by decide +kernel
theorem dX10_empties_46 : decode cX10_empties 46 = .ok (.aload_n 0, 1) := by decide +kernel
theorem dX10_empties_47 : decode cX10_empties 47 = .ok (.getfield 40, 3) := by decide +kernel
theorem dX10_empties_50 : decode cX10_empties 50 = .ok (.iload_n 1, 1) := by decide +kernel
theorem dX10_empties_51 : decode cX10_empties 51 = .ok (.aload_n 0, 1) := by decide +kernel
theorem dX10_empties_52 : decode cX10_empties 52 = .ok (.getfield 25, 3) := by decide +kernel
theorem dX10_empties_55 : decode cX10_empties 55 = .ok (.iload_n 1, 1) := by decide +kernel
theorem dX10_empties_56 : decode cX10_empties 56 = .ok (.iaload, 1) := by decide +kernel
theorem dX10_empties_57 : decode cX10_empties 57 = .ok (.iastore, 1) := by decide +kernel
theorem dX10_empties_58 : decode cX10_empties 58 = .ok (.aload_n 0, 1) := by decide +kernel
theorem dX10_empties_59 : decode cX10_empties 59 = .ok (.getfield 43, 3) := by decide +kernel
theorem dX10_empties_62 : decode cX10_empties 62 = .ok (.iload_n 1, 1) := by decide +kernel
theorem dX10_empties_63 : decode cX10_empties 63 = .ok (.aload_n 0, 1) := by decide +kernel
theorem dX10_empties_64 : decode cX10_empties 64 = .ok (.getfield 28, 3) := by decide +kernel
theorem dX10_empties_67 : decode cX10_empties 67 = .ok (.iload_n 1, 1) := by decide +kernel
theorem dX10_empties_68 : decode cX10_empties 68 = .ok (.iaload, 1) := by decide +kernel
theorem dX10_empties_69 : decode cX10_empties 69 = .ok (.iastore, 1) := by decide +kernel
theorem dX10_empties_70 : decode cX10_empties 70 = .ok (.iinc 1 1, 3) := by decide +kernel
theorem dX10_empties_73 : decode cX10_empties 73 = .ok (.goto (-71), 3) := by decide +kernel
theorem dX10_empties_76 : decode cX10_empties 76 = .ok (.aload_n 0, 1) := by decide +kernel
theorem dX10_empties_77 : decode cX10_empties 77 = .ok (.iconst 0, 1) := by decide +kernel
theorem dX10_empties_78 : decode cX10_empties 78 = .ok (.putfield 84, 3) := by decide +kernel
theorem dX10_empties_81 : decode cX10_empties 81 = .ok (.return_, 1) := by decide +kernel
theorem dX10_sets_0 : decode cX10_sets 0 = .ok (.aload_n 0, 1) := by decide +kernel
theorem dX10_sets_1 : decode cX10_sets 1 = .ok (.getfield 16, 3) := by decide +kernel
theorem dX10_sets_4 : decode cX10_sets 4 = .ok (.iload_n 1, 1) := by decide +kernel
theorem dX10_sets_5 : decode cX10_sets 5 = .ok (.iload_n 2, 1) := by decide +kernel
theorem dX10_sets_6 : decode cX10_sets 6 = .ok (.iastore, 1) := by decide +kernel
theorem dX10_sets_7 : decode cX10_sets 7 = .ok (.aload_n 0, 1) := by decide +kernel
theorem dX10_sets_8 : decode cX10_sets 8 = .ok (.getfield 19, 3) := by decide +kernel
theorem dX10_sets_11 : decode cX10_sets 11 = .ok (.iload_n 1, 1) := by decide +kernel
theorem dX10_sets_12 : decode cX10_sets 12 = .ok (.iload_n 3, 1) := by decide +kernel
theorem dX10_sets_13 : decode cX10_sets 13 = .ok (.iastore, 1) := by decide +kernel
theorem dX10_sets_14 : decode cX10_sets 14 = .ok (.aload_n 0, 1) := by decide +kernel
theorem dX10_sets_15 : decode cX10_sets 15 = .ok (.getfield 22, 3) := by decide +kernel
theorem dX10_sets_18 : decode cX10_sets 18 = .ok (.iload_n 1, 1) := by decide +kernel
theorem dX10_sets_19 : decode cX10_sets 19 = .ok (.aload_n 0, 1) := by decide +kernel
theorem dX10_sets_20 : decode cX10_sets 20 = .ok (.getfield 37, 3) := by decide +kernel
theorem dX10_sets_23 : decode cX10_sets 23 = .ok (.iload 4, 2) := by decide +kernel
theorem dX10_sets_25 : decode cX10_sets 25 = .ok (.iaload, 1) := by decide +kernel
theorem dX10_sets_26 : decode cX10_sets 26 = .ok (.iastore, 1) := by decide +kernel
theorem dX10_sets_27 : decode cX10_sets 27 = .ok (.aload_n 0, 1) := by decide +kernel
theorem dX10_sets_28 : decode cX10_sets 28 = .ok (.getfield 25, 3) := by decide +kernel
theorem dX10_sets_31 : decode cX10_sets 31 = .ok (.iload_n 1, 1) := by decide +kernel
theorem dX10_sets_32 : decode cX10_sets 32 = .ok (.aload_n 0, 1) := by decide +kernel
theorem dX10_sets_33 : decode cX10_sets 33 = .ok (.getfield 40, 3) := by decide +kernel
theorem dX10_sets_36 : decode cX10_sets 36 = .ok (.iload 4, 2) := by decide +kernel
theorem dX10_sets_38 : decode cX10_sets 38 = .ok (.iaload, 1) := by decide +kernel
theorem dX10_sets_39 : decode cX10_sets 39 = .ok (.iastore, 1) := by decide +kernel
theorem dX10_sets_40 : decode cX10_sets 40 = .ok (.aload_n 0, 1) := by decide +kernel
theorem dX10_sets_41 : decode cX10_sets 41 = .ok (.getfield 28, 3) := by decide +kernel
theorem dX10_sets_44 : decode cX10_sets 44 = .ok (.iload_n 1, 1) := by decide +kernel
theorem dX10_sets_45 : decode cX10_sets 45 = .ok (.aload_n 0, 1) := by decide +kernel
theorem dX10_sets_46 : decode cX10_sets 46 = .ok (.getfield 43, 3) := by decide +kernel
theorem dX10_sets_49 : decode cX10_sets 49 = .ok (.iload 4, 2) := by decide +kernel
theorem dX10_sets_51 : decode cX10_sets 51 = .ok (.iaload, 1) := by decide +kernel
theorem dX10_sets_52 : decode cX10_sets 52 = .ok (.iastore, 1) := by decide +kernel
theorem dX10_sets_53 : decode cX10_sets 53 = .ok (.return_, 1) := by decide +kernel
theorem dX10_inserts_0 : decode cX10_inserts 0 = .ok (.aload_n 0, 1) := by decide +kernel
theorem dX10_inserts_1 : decode cX10_inserts 1 = .ok (.getfield 84, 3) := by decide +kernel
theorem dX10_inserts_4 : decode cX10_inserts 4 = .ok (.istore 4, 2) := by decide +kernel
theorem dX10_inserts_6 : decode cX10_inserts 6 = .ok (.iload 4, 2) := by decide +kernel
theorem dX10_inserts_8 : decode cX10_inserts 8 = .ok (.ifCond .le 102, 3) := by decide +kernel
theorem dX10_inserts_11 : decode cX10_inserts 11 = .ok (.aload_n 0, 1) := by decide +kernel
theorem dX10_inserts_12 : decode cX10_inserts 12 = .ok (.getfield 16, 3) := by decide +kernel
theorem dX10_inserts_15 : decode cX10_inserts 15 = .ok (.iload 4, 2) := by decide +kernel
theorem dX10_inserts_17 : decode cX10_inserts 17 = .ok (.iconst 1, 1) := by decide +kernel
theorem dX10_inserts_18 : decode cX10_inserts 18 = .ok (.isub, 1) := by decide +kernel
theorem dX10_inserts_19 : decode cX10_inserts 19 = .ok (.iaload, 1) := by decide +kernel
theorem dX10_inserts_20 : decode cX10_inserts 20 = .ok (.iload_n 1, 1) := by decide +kernel
theorem dX10_inserts_21 : decode cX10_inserts 21 = .ok (.if_icmp .le 89, 3) := by decide +kernel
theorem dX10_inserts_24 : decode cX10_inserts 24 = .ok (.aload_n 0, 1) := by decide +kernel
theorem dX10_inserts_25 : decode cX10_inserts 25 = .ok (.getfield 16, 3) := by decide +kernel
theorem dX10_inserts_28 : decode cX10_inserts 28 = .ok (.iload 4, 2) := by decide +kernel
theorem dX10_inserts_30 : decode cX10_inserts 30 = .ok (.aload_n 0, 1) := by decide +kernel
theorem dX10_inserts_31 : decode cX10_inserts 31 = .ok (.getfield 16, 3) := by decide +kernel
theorem dX10_inserts_34 : decode cX10_inserts 34 = .ok (.iload 4, 2) := by decide +kernel
theorem dX10_inserts_36 : decode cX10_inserts 36 = .ok (.iconst 1, 1) := by decide +kernel
theorem dX10_inserts_37 : decode cX10_inserts 37 = .ok (.isub, 1) := by decide +kernel
theorem dX10_inserts_38 : decode cX10_inserts 38 = .ok (.iaload, 1) := by decide +kernel
theorem dX10_inserts_39 : decode cX10_inserts 39 = .ok (.iastore, 1) := by decide +kernel
theorem dX10_inserts_40 : decode cX10_inserts 40 = .ok (.aload_n 0, 1) := by decide +kernel
theorem dX10_inserts_41 : decode cX10_inserts 41 = .ok (.getfield 19, 3) := by decide +kernel
theorem dX10_inserts_44 : decode cX10_inserts 44 = .ok (.iload 4, 2) := by decide +kernel
theorem dX10_inserts_46 : decode cX10_inserts 46 = .ok (.aload_n 0, 1) := by decide +kernel
theorem dX10_inserts_47 : decode cX10_inserts 47 = .ok (.getfield 19, 3) := by decide +kernel
theorem dX10_inserts_50 : decode cX10_inserts 50 = .ok (.iload 4, 2) := by decide +kernel
theorem dX10_inserts_52 : decode cX10_inserts 52 = .ok (.iconst 1, 1) := by decide +kernel
theorem dX10_inserts_53 : decode cX10_inserts 53 = .ok (.isub, 1) := by decide +kernel
theorem dX10_inserts_54 : decode cX10_inserts 54 = .ok (.iaload, 1) := by decide +kernel
theorem dX10_inserts_55 : decode cX10_inserts 55 = .ok (.iastore, 1) := by decide +kernel
theorem dX10_inserts_56 : decode cX10_inserts 56 = .ok (.aload_n 0, 1) := by decide +kernel
theorem dX10_inserts_57 : decode cX10_inserts 57 = .ok (.getfield 22, 3) := by decide +kernel
theorem dX10_inserts_60 : decode cX10_inserts 60 = .ok (.iload 4, 2) := by decide +kernel
theorem dX10_inserts_62 : decode cX10_inserts 62 = .ok (.aload_n 0, 1) := by decide +kernel
theorem dX10_inserts_63 : decode cX10_inserts 63 = .ok (.getfield 22, 3) := by decide +kernel
theorem dX10_inserts_66 : decode cX10_inserts 66 = .ok (.iload 4, 2) := by decide +kernel
theorem dX10_inserts_68 : decode cX10_inserts 68 = .ok (.iconst 1, 1) := by decide +kernel
theorem dX10_inserts_69 : decode cX10_inserts 69 = .ok (.isub, 1) := by decide +kernel
theorem dX10_inserts_70 : decode cX10_inserts 70 = .ok (.iaload, 1) := by decide +kernel
theorem dX10_inserts_71 : decode cX10_inserts 71 = .ok (.iastore, 1) := by decide +kernel
theorem dX10_inserts_72 : decode cX10_inserts 72 = .ok (.aload_n 0, 1) := by decide +kernel
theorem dX10_inserts_73 : decode cX10_inserts 73 = .ok (.getfield 25, 3) := by decide +kernel
theorem dX10_inserts_76 : decode cX10_inserts 76 = .ok (.iload 4, 2) := by decide +kernel
theorem dX10_inserts_78 : decode cX10_inserts 78 = .ok (.aload_n 0, 1) := by decide +kernel
theorem dX10_inserts_79 : decode cX10_inserts 79 = .ok (.getfield 25, 3) := by decide +kernel
theorem dX10_inserts_82 : decode cX10_inserts 82 = .ok (.iload 4, 2) := by decide +kernel
theorem dX10_inserts_84 : decode cX10_inserts 84 = .ok (.iconst 1, 1) := by decide +kernel
theorem dX10_inserts_85 : decode cX10_inserts 85 = .ok (.isub, 1) := by decide +kernel
theorem dX10_inserts_86 : decode cX10_inserts 86 = .ok (.iaload, 1) := by decide +kernel
theorem dX10_inserts_87 : decode cX10_inserts 87 = .ok (.iastore, 1) := by decide +kernel
theorem dX10_inserts_88 : decode cX10_inserts 88 = .ok (.aload_n 0, 1) := by decide +kernel
theorem dX10_inserts_89 : decode cX10_inserts 89 = .ok (.getfield 28, 3) := by decide +kernel
theorem dX10_inserts_92 : decode cX10_inserts 92 = .ok (.iload 4, 2) := by decide +kernel
theorem dX10_inserts_94 : decode cX10_inserts 94 = .ok (.aload_n 0, 1) := by decide +kernel
theorem dX10_inserts_95 : decode cX10_inserts 95 = .ok (.getfield 28, 3) := by decide +kernel
theorem dX10_inserts_98 : decode cX10_inserts 98 = .ok (.iload 4, 2) := by decide +kernel
theorem dX10_inserts_100 : decode cX10_inserts 100 = .ok (.iconst 1, 1) := by decide +kernel
theorem dX10_inserts_101 : decode cX10_inserts 101 = .ok (.isub, 1) := by decide +kernel
theorem dX10_inserts_102 : decode cX10_inserts 102 = .ok (.iaload, 1) := by decide +kernel
theorem dX10_inserts_103 : decode cX10_inserts 103 = .ok (.iastore, 1) := by decide +kernel
theorem dX10_inserts_104 : decode cX10_inserts 104 = .ok (.iinc 4 (-1), 3) := by decide +kernel
theorem dX10_inserts_107 : decode cX10_inserts 107 = .ok (.goto (-101), 3) := by decide +kernel
theorem dX10_inserts_110 : decode cX10_inserts 110 = .ok (.aload_n 0, 1) := by decide +kernel
theorem dX10_inserts_111 : decode cX10_inserts 111 = .ok (.iload 4, 2) := by decide +kernel
theorem dX10_inserts_113 : decode cX10_inserts 113 = .ok (.iload_n 1, 1) := by decide +kernel
theorem dX10_inserts_114 : decode cX10_inserts 114 = .ok (.iload_n 2, 1) := by decide +kernel
theorem dX10_inserts_115 : decode cX10_inserts 115 = .ok (.iload_n 3, 1) := by decide +kernel
theorem dX10_inserts_116 : decode cX10_inserts 116 = .ok (.invokevirtual 87, 3) := by decide +kernel
theorem dX10_inserts_119 : decode cX10_inserts 119 = .ok (.aload_n 0, 1) := by decide +kernel
theorem dX10_inserts_120 : decode cX10_inserts 120 = .ok (.dup, 1) := by decide +kernel
theorem dX10_inserts_121 : decode cX10_inserts 121 = .ok (.getfield 84, 3) := by decide +kernel
theorem dX10_inserts_124 : decode cX10_inserts 124 = .ok (.iconst 1, 1) := by decide +kernel
theorem dX10_inserts_125 : decode cX10_inserts 125 = .ok (.iadd, 1) := by decide +kernel
theorem dX10_inserts_126 : decode cX10_inserts 126 = .ok (.putfield 84, 3) := by decide +kernel
theorem dX10_inserts_129 : decode cX10_inserts 129 = .ok (.return_, 1) := by decide +kernel
theorem dX10_lays_0 : decode cX10_lays 0 = .ok (.iconst 0, 1) := by decide +kernel
theorem dX10_lays_1 : decode cX10_lays 1 = .ok (.istore_n 1, 1) := by decide +kernel
theorem dX10_lays_2 : decode cX10_lays 2 = .ok (.iload_n 1, 1) := by decide +kernel
theorem dX10_lays_3 : decode cX10_lays 3 = .ok (.bipush 32, 2) := by decide +kernel
theorem dX10_lays_5 : decode cX10_lays 5 = .ok (.if_icmp .ge 46, 3) := by decide +kernel
theorem dX10_lays_8 : decode cX10_lays 8 = .ok (.iconst 0, 1) := by decide +kernel
theorem dX10_lays_9 : decode cX10_lays 9 = .ok (.istore_n 2, 1) := by decide +kernel
theorem dX10_lays_10 : decode cX10_lays 10 = .ok (.iload_n 2, 1) := by decide +kernel
theorem dX10_lays_11 : decode cX10_lays 11 = .ok (.bipush 42, 2) := by decide +kernel
theorem dX10_lays_13 : decode cX10_lays 13 = .ok (.if_icmp .ge 32, 3) := by decide +kernel
theorem dX10_lays_16 : decode cX10_lays 16 = .ok (.aload_n 0, 1) := by decide +kernel
theorem dX10_lays_17 : decode cX10_lays 17 = .ok (.getfield 46, 3) := by decide +kernel
theorem dX10_lays_20 : decode cX10_lays 20 = .ok (.bipush 42, 2) := by decide +kernel
theorem dX10_lays_22 : decode cX10_lays 22 = .ok (.iload_n 1, 1) := by decide +kernel
theorem dX10_lays_23 : decode cX10_lays 23 = .ok (.imul, 1) := by decide +kernel
theorem dX10_lays_24 : decode cX10_lays 24 = .ok (.iload_n 2, 1) := by decide +kernel
theorem dX10_lays_25 : decode cX10_lays 25 = .ok (.iadd, 1) := by decide +kernel
theorem dX10_lays_26 : decode cX10_lays 26 = .ok (.aload_n 0, 1) := by decide +kernel
theorem dX10_lays_27 : decode cX10_lays 27 = .ok (.getfield 7, 3) := by decide +kernel
theorem dX10_lays_30 : decode cX10_lays 30 = .ok (.aload_n 0, 1) := by decide +kernel
theorem dX10_lays_31 : decode cX10_lays 31 = .ok (.iload_n 1, 1) := by decide +kernel
theorem dX10_lays_32 : decode cX10_lays 32 = .ok (.invokevirtual 91, 3) := by decide +kernel
theorem dX10_lays_35 : decode cX10_lays 35 = .ok (.iload_n 2, 1) := by decide +kernel
theorem dX10_lays_36 : decode cX10_lays 36 = .ok (.iadd, 1) := by decide +kernel
theorem dX10_lays_37 : decode cX10_lays 37 = .ok (.iaload, 1) := by decide +kernel
theorem dX10_lays_38 : decode cX10_lays 38 = .ok (.iastore, 1) := by decide +kernel
theorem dX10_lays_39 : decode cX10_lays 39 = .ok (.iinc 2 1, 3) := by decide +kernel
theorem dX10_lays_42 : decode cX10_lays 42 = .ok (.goto (-32), 3) := by decide +kernel
theorem dX10_lays_45 : decode cX10_lays 45 = .ok (.iinc 1 1, 3) := by decide +kernel
theorem dX10_lays_48 : decode cX10_lays 48 = .ok (.goto (-46), 3) := by decide +kernel
theorem dX10_lays_51 : decode cX10_lays 51 = .ok (.aload_n 0, 1) := by decide +kernel
theorem dX10_lays_52 : decode cX10_lays 52 = .ok (.getfield 7, 3) := by decide +kernel
theorem dX10_lays_55 : decode cX10_lays 55 = .ok (.bipush 42, 2) := by decide +kernel
theorem dX10_lays_57 : decode cX10_lays 57 = .ok (.aload_n 0, 1) := by decide +kernel
theorem dX10_lays_58 : decode cX10_lays 58 = .ok (.getfield 84, 3) := by decide +kernel
theorem dX10_lays_61 : decode cX10_lays 61 = .ok (.iastore, 1) := by decide +kernel
theorem dX10_lays_62 : decode cX10_lays 62 = .ok (.iconst 0, 1) := by decide +kernel
theorem dX10_lays_63 : decode cX10_lays 63 = .ok (.istore_n 1, 1) := by decide +kernel
theorem dX10_lays_64 : decode cX10_lays 64 = .ok (.iload_n 1, 1) := by decide +kernel
theorem dX10_lays_65 : decode cX10_lays 65 = .ok (.aload_n 0, 1) := by decide +kernel
theorem dX10_lays_66 : decode cX10_lays 66 = .ok (.getfield 84, 3) := by decide +kernel
theorem dX10_lays_69 : decode cX10_lays 69 = .ok (.if_icmp .ge 137, 3) := by decide +kernel
theorem dX10_lays_72 : decode cX10_lays 72 = .ok (.aload_n 0, 1) := by decide +kernel
theorem dX10_lays_73 : decode cX10_lays 73 = .ok (.getfield 7, 3) := by decide +kernel
theorem dX10_lays_76 : decode cX10_lays 76 = .ok (.aload_n 0, 1) := by decide +kernel
theorem dX10_lays_77 : decode cX10_lays 77 = .ok (.iload_n 1, 1) := by decide +kernel
theorem dX10_lays_78 : decode cX10_lays 78 = .ok (.invokevirtual 81, 3) := by decide +kernel
theorem dX10_lays_81 : decode cX10_lays 81 = .ok (.aload_n 0, 1) := by decide +kernel
theorem dX10_lays_82 : decode cX10_lays 82 = .ok (.getfield 16, 3) := by decide +kernel
theorem dX10_lays_85 : decode cX10_lays 85 = .ok (.iload_n 1, 1) := by decide +kernel
theorem dX10_lays_86 : decode cX10_lays 86 = .ok (.iaload, 1) := by decide +kernel
theorem dX10_lays_87 : decode cX10_lays 87 = .ok (.iastore, 1) := by decide +kernel
theorem dX10_lays_88 : decode cX10_lays 88 = .ok (.aload_n 0, 1) := by decide +kernel
theorem dX10_lays_89 : decode cX10_lays 89 = .ok (.getfield 7, 3) := by decide +kernel
theorem dX10_lays_92 : decode cX10_lays 92 = .ok (.aload_n 0, 1) := by decide +kernel
theorem dX10_lays_93 : decode cX10_lays 93 = .ok (.iload_n 1, 1) := by decide +kernel
theorem dX10_lays_94 : decode cX10_lays 94 = .ok (.invokevirtual 81, 3) := by decide +kernel
theorem dX10_lays_97 : decode cX10_lays 97 = .ok (.iconst 1, 1) := by decide +kernel
theorem dX10_lays_98 : decode cX10_lays 98 = .ok (.iadd, 1) := by decide +kernel
theorem dX10_lays_99 : decode cX10_lays 99 = .ok (.aload_n 0, 1) := by decide +kernel
theorem dX10_lays_100 : decode cX10_lays 100 = .ok (.getfield 19, 3) := by decide +kernel
theorem dX10_lays_103 : decode cX10_lays 103 = .ok (.iload_n 1, 1) := by decide +kernel
theorem dX10_lays_104 : decode cX10_lays 104 = .ok (.iaload, 1) := by decide +kernel
theorem dX10_lays_105 : decode cX10_lays 105 = .ok (.iastore, 1) := by decide +kernel
theorem dX10_lays_106 : decode cX10_lays 106 = .ok (.aload_n 0, 1) := by decide +kernel
theorem dX10_lays_107 : decode cX10_lays 107 = .ok (.getfield 7, 3) := by decide +kernel
theorem dX10_lays_110 : decode cX10_lays 110 = .ok (.aload_n 0, 1) := by decide +kernel
theorem dX10_lays_111 : decode cX10_lays 111 = .ok (.iload_n 1, 1) := by decide +kernel
theorem dX10_lays_112 : decode cX10_lays 112 = .ok (.invokevirtual 81, 3) := by decide +kernel
theorem dX10_lays_115 : decode cX10_lays 115 = .ok (.iconst 2, 1) := by decide +kernel
theorem dX10_lays_116 : decode cX10_lays 116 = .ok (.iadd, 1) := by decide +kernel
theorem dX10_lays_117 : decode cX10_lays 117 = .ok (.aload_n 0, 1) := by decide +kernel
theorem dX10_lays_118 : decode cX10_lays 118 = .ok (.getfield 22, 3) := by decide +kernel
theorem dX10_lays_121 : decode cX10_lays 121 = .ok (.iload_n 1, 1) := by decide +kernel
theorem dX10_lays_122 : decode cX10_lays 122 = .ok (.iaload, 1) := by decide +kernel
theorem dX10_lays_123 : decode cX10_lays 123 = .ok (.iastore, 1) := by decide +kernel
theorem dX10_lays_124 : decode cX10_lays 124 = .ok (.iconst 0, 1) := by decide +kernel
theorem dX10_lays_125 : decode cX10_lays 125 = .ok (.istore_n 2, 1) := by decide +kernel
theorem dX10_lays_126 : decode cX10_lays 126 = .ok (.iload_n 2, 1) := by decide +kernel
theorem dX10_lays_127 : decode cX10_lays 127 = .ok (.bipush 42, 2) := by decide +kernel
theorem dX10_lays_129 : decode cX10_lays 129 = .ok (.if_icmp .ge 71, 3) := by decide +kernel
theorem dX10_lays_132 : decode cX10_lays 132 = .ok (.aload_n 0, 1) := by decide +kernel
theorem dX10_lays_133 : decode cX10_lays 133 = .ok (.getfield 7, 3) := by decide +kernel
theorem dX10_lays_136 : decode cX10_lays 136 = .ok (.aload_n 0, 1) := by decide +kernel
theorem dX10_lays_137 : decode cX10_lays 137 = .ok (.iconst 2, 1) := by decide +kernel
theorem dX10_lays_138 : decode cX10_lays 138 = .ok (.iload_n 1, 1) := by decide +kernel
theorem dX10_lays_139 : decode cX10_lays 139 = .ok (.imul, 1) := by decide +kernel
theorem dX10_lays_140 : decode cX10_lays 140 = .ok (.invokevirtual 91, 3) := by decide +kernel
theorem dX10_lays_143 : decode cX10_lays 143 = .ok (.iload_n 2, 1) := by decide +kernel
theorem dX10_lays_144 : decode cX10_lays 144 = .ok (.iadd, 1) := by decide +kernel
theorem dX10_lays_145 : decode cX10_lays 145 = .ok (.aload_n 0, 1) := by decide +kernel
theorem dX10_lays_146 : decode cX10_lays 146 = .ok (.getfield 46, 3) := by decide +kernel
theorem dX10_lays_149 : decode cX10_lays 149 = .ok (.bipush 42, 2) := by decide +kernel
theorem dX10_lays_151 : decode cX10_lays 151 = .ok (.aload_n 0, 1) := by decide +kernel
theorem dX10_lays_152 : decode cX10_lays 152 = .ok (.getfield 25, 3) := by decide +kernel
theorem dX10_lays_155 : decode cX10_lays 155 = .ok (.iload_n 1, 1) := by decide +kernel
theorem dX10_lays_156 : decode cX10_lays 156 = .ok (.iaload, 1) := by decide +kernel
theorem dX10_lays_157 : decode cX10_lays 157 = .ok (.imul, 1) := by decide +kernel
theorem dX10_lays_158 : decode cX10_lays 158 = .ok (.iload_n 2, 1) := by decide +kernel
theorem dX10_lays_159 : decode cX10_lays 159 = .ok (.iadd, 1) := by decide +kernel
theorem dX10_lays_160 : decode cX10_lays 160 = .ok (.iaload, 1) := by decide +kernel
theorem dX10_lays_161 : decode cX10_lays 161 = .ok (.iastore, 1) := by decide +kernel
theorem dX10_lays_162 : decode cX10_lays 162 = .ok (.aload_n 0, 1) := by decide +kernel
theorem dX10_lays_163 : decode cX10_lays 163 = .ok (.getfield 7, 3) := by decide +kernel
theorem dX10_lays_166 : decode cX10_lays 166 = .ok (.aload_n 0, 1) := by decide +kernel
theorem dX10_lays_167 : decode cX10_lays 167 = .ok (.iconst 2, 1) := by decide +kernel
theorem dX10_lays_168 : decode cX10_lays 168 = .ok (.iload_n 1, 1) := by decide +kernel
theorem dX10_lays_169 : decode cX10_lays 169 = .ok (.imul, 1) := by decide +kernel
theorem dX10_lays_170 : decode cX10_lays 170 = .ok (.iconst 1, 1) := by decide +kernel
theorem dX10_lays_171 : decode cX10_lays 171 = .ok (.iadd, 1) := by decide +kernel
theorem dX10_lays_172 : decode cX10_lays 172 = .ok (.invokevirtual 91, 3) := by decide +kernel
theorem dX10_lays_175 : decode cX10_lays 175 = .ok (.iload_n 2, 1) := by decide +kernel
theorem dX10_lays_176 : decode cX10_lays 176 = .ok (.iadd, 1) := by decide +kernel
theorem dX10_lays_177 : decode cX10_lays 177 = .ok (.aload_n 0, 1) := by decide +kernel
theorem dX10_lays_178 : decode cX10_lays 178 = .ok (.getfield 46, 3) := by decide +kernel
theorem dX10_lays_181 : decode cX10_lays 181 = .ok (.bipush 42, 2) := by decide +kernel
theorem dX10_lays_183 : decode cX10_lays 183 = .ok (.aload_n 0, 1) := by decide +kernel
theorem dX10_lays_184 : decode cX10_lays 184 = .ok (.getfield 28, 3) := by decide +kernel
theorem dX10_lays_187 : decode cX10_lays 187 = .ok (.iload_n 1, 1) := by decide +kernel
theorem dX10_lays_188 : decode cX10_lays 188 = .ok (.iaload, 1) := by decide +kernel
theorem dX10_lays_189 : decode cX10_lays 189 = .ok (.imul, 1) := by decide +kernel
theorem dX10_lays_190 : decode cX10_lays 190 = .ok (.iload_n 2, 1) := by decide +kernel
theorem dX10_lays_191 : decode cX10_lays 191 = .ok (.iadd, 1) := by decide +kernel
theorem dX10_lays_192 : decode cX10_lays 192 = .ok (.iaload, 1) := by decide +kernel
theorem dX10_lays_193 : decode cX10_lays 193 = .ok (.iastore, 1) := by decide +kernel
theorem dX10_lays_194 : decode cX10_lays 194 = .ok (.iinc 2 1, 3) := by decide +kernel
theorem dX10_lays_197 : decode cX10_lays 197 = .ok (.goto (-71), 3) := by decide +kernel
theorem dX10_lays_200 : decode cX10_lays 200 = .ok (.iinc 1 1, 3) := by decide +kernel
theorem dX10_lays_203 : decode cX10_lays 203 = .ok (.goto (-139), 3) := by decide +kernel
theorem dX10_lays_206 : decode cX10_lays 206 = .ok (.return_, 1) := by decide +kernel
theorem dX10_byteOf_0 : decode cX10_byteOf 0 = .ok (.aload_n 0, 1) := by decide +kernel
theorem dX10_byteOf_1 : decode cX10_byteOf 1 = .ok (.getfield 7, 3) := by decide +kernel
theorem dX10_byteOf_4 : decode cX10_byteOf 4 = .ok (.aload_n 0, 1) := by decide +kernel
theorem dX10_byteOf_5 : decode cX10_byteOf 5 = .ok (.iload_n 1, 1) := by decide +kernel
theorem dX10_byteOf_6 : decode cX10_byteOf 6 = .ok (.invokevirtual 91, 3) := by decide +kernel
theorem dX10_byteOf_9 : decode cX10_byteOf 9 = .ok (.iconst 2, 1) := by decide +kernel
theorem dX10_byteOf_10 : decode cX10_byteOf 10 = .ok (.iadd, 1) := by decide +kernel
theorem dX10_byteOf_11 : decode cX10_byteOf 11 = .ok (.iload_n 2, 1) := by decide +kernel
theorem dX10_byteOf_12 : decode cX10_byteOf 12 = .ok (.iadd, 1) := by decide +kernel
theorem dX10_byteOf_13 : decode cX10_byteOf 13 = .ok (.iaload, 1) := by decide +kernel
theorem dX10_byteOf_14 : decode cX10_byteOf 14 = .ok (.ireturn, 1) := by decide +kernel
theorem dX10_longOf_0 : decode cX10_longOf 0 = .ok (.aload_n 0, 1) := by decide +kernel
theorem dX10_longOf_1 : decode cX10_longOf 1 = .ok (.getfield 7, 3) := by decide +kernel
theorem dX10_longOf_4 : decode cX10_longOf 4 = .ok (.aload_n 0, 1) := by decide +kernel
theorem dX10_longOf_5 : decode cX10_longOf 5 = .ok (.iload_n 1, 1) := by decide +kernel
theorem dX10_longOf_6 : decode cX10_longOf 6 = .ok (.invokevirtual 91, 3) := by decide +kernel
theorem dX10_longOf_9 : decode cX10_longOf 9 = .ok (.iconst 1, 1) := by decide +kernel
theorem dX10_longOf_10 : decode cX10_longOf 10 = .ok (.iadd, 1) := by decide +kernel
theorem dX10_longOf_11 : decode cX10_longOf 11 = .ok (.iaload, 1) := by decide +kernel
theorem dX10_longOf_12 : decode cX10_longOf 12 = .ok (.ireturn, 1) := by decide +kernel
theorem dX10_isWord_0 : decode cX10_isWord 0 = .ok (.iload 5, 2) := by decide +kernel
theorem dX10_isWord_2 : decode cX10_isWord 2 = .ok (.ifCond .ne 7, 3) := by decide +kernel
theorem dX10_isWord_5 : decode cX10_isWord 5 = .ok (.iconst 2, 1) := by decide +kernel
theorem dX10_isWord_6 : decode cX10_isWord 6 = .ok (.goto 4, 3) := by decide +kernel
theorem dX10_isWord_9 : decode cX10_isWord 9 = .ok (.iconst 3, 1) := by decide +kernel
theorem dX10_isWord_10 : decode cX10_isWord 10 = .ok (.istore 6, 2) := by decide +kernel
theorem dX10_isWord_12 : decode cX10_isWord 12 = .ok (.iload_n 2, 1) := by decide +kernel
theorem dX10_isWord_13 : decode cX10_isWord 13 = .ok (.iload 6, 2) := by decide +kernel
theorem dX10_isWord_15 : decode cX10_isWord 15 = .ok (.iadd, 1) := by decide +kernel
theorem dX10_isWord_16 : decode cX10_isWord 16 = .ok (.aload_n 0, 1) := by decide +kernel
theorem dX10_isWord_17 : decode cX10_isWord 17 = .ok (.iload_n 1, 1) := by decide +kernel
theorem dX10_isWord_18 : decode cX10_isWord 18 = .ok (.invokevirtual 94, 3) := by decide +kernel
theorem dX10_isWord_21 : decode cX10_isWord 21 = .ok (.if_icmp .gt 48, 3) := by decide +kernel
theorem dX10_isWord_24 : decode cX10_isWord 24 = .ok (.aload_n 0, 1) := by decide +kernel
theorem dX10_isWord_25 : decode cX10_isWord 25 = .ok (.iload_n 1, 1) := by decide +kernel
theorem dX10_isWord_26 : decode cX10_isWord 26 = .ok (.iload_n 2, 1) := by decide +kernel
theorem dX10_isWord_27 : decode cX10_isWord 27 = .ok (.invokevirtual 97, 3) := by decide +kernel
theorem dX10_isWord_30 : decode cX10_isWord 30 = .ok (.iload_n 3, 1) := by decide +kernel
theorem dX10_isWord_31 : decode cX10_isWord 31 = .ok (.if_icmp .ne 38, 3) := by decide +kernel
theorem dX10_isWord_34 : decode cX10_isWord 34 = .ok (.aload_n 0, 1) := by decide +kernel
theorem dX10_isWord_35 : decode cX10_isWord 35 = .ok (.iload_n 1, 1) := by decide +kernel
theorem dX10_isWord_36 : decode cX10_isWord 36 = .ok (.iload_n 2, 1) := by decide +kernel
theorem dX10_isWord_37 : decode cX10_isWord 37 = .ok (.iconst 1, 1) := by decide +kernel
theorem dX10_isWord_38 : decode cX10_isWord 38 = .ok (.iadd, 1) := by decide +kernel
theorem dX10_isWord_39 : decode cX10_isWord 39 = .ok (.invokevirtual 97, 3) := by decide +kernel
theorem dX10_isWord_42 : decode cX10_isWord 42 = .ok (.iload 4, 2) := by decide +kernel
theorem dX10_isWord_44 : decode cX10_isWord 44 = .ok (.if_icmp .ne 25, 3) := by decide +kernel
theorem dX10_isWord_47 : decode cX10_isWord 47 = .ok (.iload 5, 2) := by decide +kernel
theorem dX10_isWord_49 : decode cX10_isWord 49 = .ok (.ifCond .eq 16, 3) := by decide +kernel
theorem dX10_isWord_52 : decode cX10_isWord 52 = .ok (.aload_n 0, 1) := by decide +kernel
theorem dX10_isWord_53 : decode cX10_isWord 53 = .ok (.iload_n 1, 1) := by decide +kernel
theorem dX10_isWord_54 : decode cX10_isWord 54 = .ok (.iload_n 2, 1) := by decide +kernel
theorem dX10_isWord_55 : decode cX10_isWord 55 = .ok (.iconst 2, 1) := by decide +kernel
theorem dX10_isWord_56 : decode cX10_isWord 56 = .ok (.iadd, 1) := by decide +kernel
theorem dX10_isWord_57 : decode cX10_isWord 57 = .ok (.invokevirtual 97, 3) := by decide +kernel
theorem dX10_isWord_60 : decode cX10_isWord 60 = .ok (.iload 5, 2) := by decide +kernel
theorem dX10_isWord_62 : decode cX10_isWord 62 = .ok (.if_icmp .ne 7, 3) := by decide +kernel
theorem dX10_isWord_65 : decode cX10_isWord 65 = .ok (.iconst 1, 1) := by decide +kernel
theorem dX10_isWord_66 : decode cX10_isWord 66 = .ok (.goto 4, 3) := by decide +kernel
theorem dX10_isWord_69 : decode cX10_isWord 69 = .ok (.iconst 0, 1) := by decide +kernel
theorem dX10_isWord_70 : decode cX10_isWord 70 = .ok (.istore 7, 2) := by decide +kernel
theorem dX10_isWord_72 : decode cX10_isWord 72 = .ok (.iload 7, 2) := by decide +kernel
theorem dX10_isWord_74 : decode cX10_isWord 74 = .ok (.ifCond .eq 33, 3) := by decide +kernel
theorem dX10_isWord_77 : decode cX10_isWord 77 = .ok (.iload_n 2, 1) := by decide +kernel
theorem dX10_isWord_78 : decode cX10_isWord 78 = .ok (.iload 6, 2) := by decide +kernel
theorem dX10_isWord_80 : decode cX10_isWord 80 = .ok (.iadd, 1) := by decide +kernel
theorem dX10_isWord_81 : decode cX10_isWord 81 = .ok (.aload_n 0, 1) := by decide +kernel
theorem dX10_isWord_82 : decode cX10_isWord 82 = .ok (.iload_n 1, 1) := by decide +kernel
theorem dX10_isWord_83 : decode cX10_isWord 83 = .ok (.invokevirtual 94, 3) := by decide +kernel
theorem dX10_isWord_86 : decode cX10_isWord 86 = .ok (.if_icmp .eq 17, 3) := by decide +kernel
theorem dX10_isWord_89 : decode cX10_isWord 89 = .ok (.aload_n 0, 1) := by decide +kernel
theorem dX10_isWord_90 : decode cX10_isWord 90 = .ok (.iload_n 1, 1) := by decide +kernel
theorem dX10_isWord_91 : decode cX10_isWord 91 = .ok (.iload_n 2, 1) := by decide +kernel
theorem dX10_isWord_92 : decode cX10_isWord 92 = .ok (.iload 6, 2) := by decide +kernel
theorem dX10_isWord_94 : decode cX10_isWord 94 = .ok (.iadd, 1) := by decide +kernel
theorem dX10_isWord_95 : decode cX10_isWord 95 = .ok (.invokevirtual 97, 3) := by decide +kernel
theorem dX10_isWord_98 : decode cX10_isWord 98 = .ok (.bipush 32, 2) := by decide +kernel
theorem dX10_isWord_100 : decode cX10_isWord 100 = .ok (.if_icmp .ne 7, 3) := by decide +kernel
theorem dX10_isWord_103 : decode cX10_isWord 103 = .ok (.iconst 1, 1) := by decide +kernel
theorem dX10_isWord_104 : decode cX10_isWord 104 = .ok (.goto 4, 3) := by decide +kernel
theorem dX10_isWord_107 : decode cX10_isWord 107 = .ok (.iconst 0, 1) := by decide +kernel
theorem dX10_isWord_108 : decode cX10_isWord 108 = .ok (.ireturn, 1) := by decide +kernel
theorem dX10_rankOf_0 : decode cX10_rankOf 0 = .ok (.aload_n 0, 1) := by decide +kernel
theorem dX10_rankOf_1 : decode cX10_rankOf 1 = .ok (.iload_n 1, 1) := by decide +kernel
theorem dX10_rankOf_2 : decode cX10_rankOf 2 = .ok (.iload_n 2, 1) := by decide +kernel
theorem dX10_rankOf_3 : decode cX10_rankOf 3 = .ok (.iconst 1, 1) := by decide +kernel
theorem dX10_rankOf_4 : decode cX10_rankOf 4 = .ok (.isub, 1) := by decide +kernel
theorem dX10_rankOf_5 : decode cX10_rankOf 5 = .ok (.invokevirtual 97, 3) := by decide +kernel
theorem dX10_rankOf_8 : decode cX10_rankOf 8 = .ok (.istore_n 3, 1) := by decide +kernel
theorem dX10_rankOf_9 : decode cX10_rankOf 9 = .ok (.iload_n 3, 1) := by decide +kernel
theorem dX10_rankOf_10 : decode cX10_rankOf 10 = .ok (.bipush 46, 2) := by decide +kernel
theorem dX10_rankOf_12 : decode cX10_rankOf 12 = .ok (.if_icmp .eq 15, 3) := by decide +kernel
theorem dX10_rankOf_15 : decode cX10_rankOf 15 = .ok (.iload_n 3, 1) := by decide +kernel
theorem dX10_rankOf_16 : decode cX10_rankOf 16 = .ok (.bipush 33, 2) := by decide +kernel
theorem dX10_rankOf_18 : decode cX10_rankOf 18 = .ok (.if_icmp .eq 9, 3) := by decide +kernel
theorem dX10_rankOf_21 : decode cX10_rankOf 21 = .ok (.iload_n 3, 1) := by decide +kernel
theorem dX10_rankOf_22 : decode cX10_rankOf 22 = .ok (.bipush 63, 2) := by decide +kernel
theorem dX10_rankOf_24 : decode cX10_rankOf 24 = .ok (.if_icmp .ne 5, 3) := by decide +kernel
theorem dX10_rankOf_27 : decode cX10_rankOf 27 = .ok (.iconst 0, 1) := by decide +kernel
theorem dX10_rankOf_28 : decode cX10_rankOf 28 = .ok (.ireturn, 1) := by decide +kernel
theorem dX10_rankOf_29 : decode cX10_rankOf 29 = .ok (.iload_n 3, 1) := by decide +kernel
theorem dX10_rankOf_30 : decode cX10_rankOf 30 = .ok (.bipush 44, 2) := by decide +kernel
theorem dX10_rankOf_32 : decode cX10_rankOf 32 = .ok (.if_icmp .eq 9, 3) := by decide +kernel
theorem dX10_rankOf_35 : decode cX10_rankOf 35 = .ok (.iload_n 3, 1) := by decide +kernel
theorem dX10_rankOf_36 : decode cX10_rankOf 36 = .ok (.bipush 58, 2) := by decide +kernel
theorem dX10_rankOf_38 : decode cX10_rankOf 38 = .ok (.if_icmp .ne 5, 3) := by decide +kernel
theorem dX10_rankOf_41 : decode cX10_rankOf 41 = .ok (.iconst 1, 1) := by decide +kernel
theorem dX10_rankOf_42 : decode cX10_rankOf 42 = .ok (.ireturn, 1) := by decide +kernel
theorem dX10_rankOf_43 : decode cX10_rankOf 43 = .ok (.aload_n 0, 1) := by decide +kernel
theorem dX10_rankOf_44 : decode cX10_rankOf 44 = .ok (.iload_n 1, 1) := by decide +kernel
theorem dX10_rankOf_45 : decode cX10_rankOf 45 = .ok (.iload_n 2, 1) := by decide +kernel
theorem dX10_rankOf_46 : decode cX10_rankOf 46 = .ok (.iconst 1, 1) := by decide +kernel
theorem dX10_rankOf_47 : decode cX10_rankOf 47 = .ok (.iadd, 1) := by decide +kernel
theorem dX10_rankOf_48 : decode cX10_rankOf 48 = .ok (.bipush 97, 2) := by decide +kernel
theorem dX10_rankOf_50 : decode cX10_rankOf 50 = .ok (.bipush 110, 2) := by decide +kernel
theorem dX10_rankOf_52 : decode cX10_rankOf 52 = .ok (.bipush 100, 2) := by decide +kernel
theorem dX10_rankOf_54 : decode cX10_rankOf 54 = .ok (.invokevirtual 101, 3) := by decide +kernel
theorem dX10_rankOf_57 : decode cX10_rankOf 57 = .ok (.ifCond .ne 36, 3) := by decide +kernel
theorem dX10_rankOf_60 : decode cX10_rankOf 60 = .ok (.aload_n 0, 1) := by decide +kernel
theorem dX10_rankOf_61 : decode cX10_rankOf 61 = .ok (.iload_n 1, 1) := by decide +kernel
theorem dX10_rankOf_62 : decode cX10_rankOf 62 = .ok (.iload_n 2, 1) := by decide +kernel
theorem dX10_rankOf_63 : decode cX10_rankOf 63 = .ok (.iconst 1, 1) := by decide +kernel
theorem dX10_rankOf_64 : decode cX10_rankOf 64 = .ok (.iadd, 1) := by decide +kernel
theorem dX10_rankOf_65 : decode cX10_rankOf 65 = .ok (.bipush 111, 2) := by decide +kernel
theorem dX10_rankOf_67 : decode cX10_rankOf 67 = .ok (.bipush 114, 2) := by decide +kernel
theorem dX10_rankOf_69 : decode cX10_rankOf 69 = .ok (.iconst 0, 1) := by decide +kernel
theorem dX10_rankOf_70 : decode cX10_rankOf 70 = .ok (.invokevirtual 101, 3) := by decide +kernel
theorem dX10_rankOf_73 : decode cX10_rankOf 73 = .ok (.ifCond .ne 20, 3) := by decide +kernel
theorem dX10_rankOf_76 : decode cX10_rankOf 76 = .ok (.aload_n 0, 1) := by decide +kernel
theorem dX10_rankOf_77 : decode cX10_rankOf 77 = .ok (.iload_n 1, 1) := by decide +kernel
theorem dX10_rankOf_78 : decode cX10_rankOf 78 = .ok (.iload_n 2, 1) := by decide +kernel
theorem dX10_rankOf_79 : decode cX10_rankOf 79 = .ok (.iconst 1, 1) := by decide +kernel
theorem dX10_rankOf_80 : decode cX10_rankOf 80 = .ok (.iadd, 1) := by decide +kernel
theorem dX10_rankOf_81 : decode cX10_rankOf 81 = .ok (.bipush 98, 2) := by decide +kernel
theorem dX10_rankOf_83 : decode cX10_rankOf 83 = .ok (.bipush 117, 2) := by decide +kernel
theorem dX10_rankOf_85 : decode cX10_rankOf 85 = .ok (.bipush 116, 2) := by decide +kernel
theorem dX10_rankOf_87 : decode cX10_rankOf 87 = .ok (.invokevirtual 101, 3) := by decide +kernel
theorem dX10_rankOf_90 : decode cX10_rankOf 90 = .ok (.ifCond .eq 7, 3) := by decide +kernel
theorem dX10_rankOf_93 : decode cX10_rankOf 93 = .ok (.iconst 1, 1) := by decide +kernel
theorem dX10_rankOf_94 : decode cX10_rankOf 94 = .ok (.goto 4, 3) := by decide +kernel
theorem dX10_rankOf_97 : decode cX10_rankOf 97 = .ok (.iconst 0, 1) := by decide +kernel
theorem dX10_rankOf_98 : decode cX10_rankOf 98 = .ok (.istore 4, 2) := by decide +kernel
theorem dX10_rankOf_100 : decode cX10_rankOf 100 = .ok (.iload 4, 2) := by decide +kernel
theorem dX10_rankOf_102 : decode cX10_rankOf 102 = .ok (.ifCond .eq 7, 3) := by decide +kernel
theorem dX10_rankOf_105 : decode cX10_rankOf 105 = .ok (.iconst 2, 1) := by decide +kernel
theorem dX10_rankOf_106 : decode cX10_rankOf 106 = .ok (.goto 4, 3) := by decide +kernel
theorem dX10_rankOf_109 : decode cX10_rankOf 109 = .ok (.iconst 3, 1) := by decide +kernel
theorem dX10_rankOf_110 : decode cX10_rankOf 110 = .ok (.ireturn, 1) := by decide +kernel
theorem dX10_brokenAt_0 : decode cX10_brokenAt 0 = .ok (.aload_n 0, 1) := by decide +kernel
theorem dX10_brokenAt_1 : decode cX10_brokenAt 1 = .ok (.iload_n 1, 1) := by decide +kernel
theorem dX10_brokenAt_2 : decode cX10_brokenAt 2 = .ok (.invokevirtual 94, 3) := by decide +kernel
theorem dX10_brokenAt_5 : decode cX10_brokenAt 5 = .ok (.istore_n 2, 1) := by decide +kernel
theorem dX10_brokenAt_6 : decode cX10_brokenAt 6 = .ok (.aload_n 0, 1) := by decide +kernel
theorem dX10_brokenAt_7 : decode cX10_brokenAt 7 = .ok (.iconst 4, 1) := by decide +kernel
theorem dX10_brokenAt_8 : decode cX10_brokenAt 8 = .ok (.invokevirtual 105, 3) := by decide +kernel
theorem dX10_brokenAt_11 : decode cX10_brokenAt 11 = .ok (.istore_n 3, 1) := by decide +kernel
theorem dX10_brokenAt_12 : decode cX10_brokenAt 12 = .ok (.bipush (-9), 2) := by decide +kernel
theorem dX10_brokenAt_14 : decode cX10_brokenAt 14 = .ok (.istore 4, 2) := by decide +kernel
theorem dX10_brokenAt_16 : decode cX10_brokenAt 16 = .ok (.iconst 0, 1) := by decide +kernel
theorem dX10_brokenAt_17 : decode cX10_brokenAt 17 = .ok (.istore 5, 2) := by decide +kernel
theorem dX10_brokenAt_19 : decode cX10_brokenAt 19 = .ok (.iconst 0, 1) := by decide +kernel
theorem dX10_brokenAt_20 : decode cX10_brokenAt 20 = .ok (.istore 6, 2) := by decide +kernel
theorem dX10_brokenAt_22 : decode cX10_brokenAt 22 = .ok (.iconst 0, 1) := by decide +kernel
theorem dX10_brokenAt_23 : decode cX10_brokenAt 23 = .ok (.istore 7, 2) := by decide +kernel
theorem dX10_brokenAt_25 : decode cX10_brokenAt 25 = .ok (.iload 7, 2) := by decide +kernel
theorem dX10_brokenAt_27 : decode cX10_brokenAt 27 = .ok (.iload_n 2, 1) := by decide +kernel
theorem dX10_brokenAt_28 : decode cX10_brokenAt 28 = .ok (.if_icmp .ge 139, 3) := by decide +kernel
theorem dX10_brokenAt_31 : decode cX10_brokenAt 31 = .ok (.iload_n 2, 1) := by decide +kernel
theorem dX10_brokenAt_32 : decode cX10_brokenAt 32 = .ok (.iload_n 3, 1) := by decide +kernel
theorem dX10_brokenAt_33 : decode cX10_brokenAt 33 = .ok (.if_icmp .le 134, 3) := by decide +kernel
theorem dX10_brokenAt_36 : decode cX10_brokenAt 36 = .ok (.aload_n 0, 1) := by decide +kernel
theorem dX10_brokenAt_37 : decode cX10_brokenAt 37 = .ok (.iload_n 1, 1) := by decide +kernel
theorem dX10_brokenAt_38 : decode cX10_brokenAt 38 = .ok (.iload 7, 2) := by decide +kernel
theorem dX10_brokenAt_40 : decode cX10_brokenAt 40 = .ok (.invokevirtual 97, 3) := by decide +kernel
theorem dX10_brokenAt_43 : decode cX10_brokenAt 43 = .ok (.bipush 32, 2) := by decide +kernel
theorem dX10_brokenAt_45 : decode cX10_brokenAt 45 = .ok (.if_icmp .ne 116, 3) := by decide +kernel
theorem dX10_brokenAt_48 : decode cX10_brokenAt 48 = .ok (.iload_n 2, 1) := by decide +kernel
theorem dX10_brokenAt_49 : decode cX10_brokenAt 49 = .ok (.iload 7, 2) := by decide +kernel
theorem dX10_brokenAt_51 : decode cX10_brokenAt 51 = .ok (.isub, 1) := by decide +kernel
theorem dX10_brokenAt_52 : decode cX10_brokenAt 52 = .ok (.iconst 1, 1) := by decide +kernel
theorem dX10_brokenAt_53 : decode cX10_brokenAt 53 = .ok (.isub, 1) := by decide +kernel
theorem dX10_brokenAt_54 : decode cX10_brokenAt 54 = .ok (.istore 8, 2) := by decide +kernel
theorem dX10_brokenAt_56 : decode cX10_brokenAt 56 = .ok (.iload 7, 2) := by decide +kernel
theorem dX10_brokenAt_58 : decode cX10_brokenAt 58 = .ok (.iload 8, 2) := by decide +kernel
theorem dX10_brokenAt_60 : decode cX10_brokenAt 60 = .ok (.if_icmp .le 8, 3) := by decide +kernel
theorem dX10_brokenAt_63 : decode cX10_brokenAt 63 = .ok (.iload 7, 2) := by decide +kernel
theorem dX10_brokenAt_65 : decode cX10_brokenAt 65 = .ok (.goto 5, 3) := by decide +kernel
theorem dX10_brokenAt_68 : decode cX10_brokenAt 68 = .ok (.iload 8, 2) := by decide +kernel
theorem dX10_brokenAt_70 : decode cX10_brokenAt 70 = .ok (.istore 9, 2) := by decide +kernel
theorem dX10_brokenAt_72 : decode cX10_brokenAt 72 = .ok (.iload 9, 2) := by decide +kernel
theorem dX10_brokenAt_74 : decode cX10_brokenAt 74 = .ok (.iload_n 3, 1) := by decide +kernel
theorem dX10_brokenAt_75 : decode cX10_brokenAt 75 = .ok (.if_icmp .gt 7, 3) := by decide +kernel
theorem dX10_brokenAt_78 : decode cX10_brokenAt 78 = .ok (.iconst 1, 1) := by decide +kernel
theorem dX10_brokenAt_79 : decode cX10_brokenAt 79 = .ok (.goto 4, 3) := by decide +kernel
theorem dX10_brokenAt_82 : decode cX10_brokenAt 82 = .ok (.iconst 0, 1) := by decide +kernel
theorem dX10_brokenAt_83 : decode cX10_brokenAt 83 = .ok (.istore 10, 2) := by decide +kernel
theorem dX10_brokenAt_85 : decode cX10_brokenAt 85 = .ok (.iload 10, 2) := by decide +kernel
theorem dX10_brokenAt_87 : decode cX10_brokenAt 87 = .ok (.ifCond .eq 27, 3) := by decide +kernel
theorem dX10_brokenAt_90 : decode cX10_brokenAt 90 = .ok (.iconst 2, 1) := by decide +kernel
theorem dX10_brokenAt_91 : decode cX10_brokenAt 91 = .ok (.iload 9, 2) := by decide +kernel
theorem dX10_brokenAt_93 : decode cX10_brokenAt 93 = .ok (.imul, 1) := by decide +kernel
theorem dX10_brokenAt_94 : decode cX10_brokenAt 94 = .ok (.iload 7, 2) := by decide +kernel
theorem dX10_brokenAt_96 : decode cX10_brokenAt 96 = .ok (.isub, 1) := by decide +kernel
theorem dX10_brokenAt_97 : decode cX10_brokenAt 97 = .ok (.iload 8, 2) := by decide +kernel
theorem dX10_brokenAt_99 : decode cX10_brokenAt 99 = .ok (.isub, 1) := by decide +kernel
theorem dX10_brokenAt_100 : decode cX10_brokenAt 100 = .ok (.bipush 6, 2) := by decide +kernel
theorem dX10_brokenAt_102 : decode cX10_brokenAt 102 = .ok (.aload_n 0, 1) := by decide +kernel
theorem dX10_brokenAt_103 : decode cX10_brokenAt 103 = .ok (.iload_n 1, 1) := by decide +kernel
theorem dX10_brokenAt_104 : decode cX10_brokenAt 104 = .ok (.iload 7, 2) := by decide +kernel
theorem dX10_brokenAt_106 : decode cX10_brokenAt 106 = .ok (.invokevirtual 108, 3) := by decide +kernel
theorem dX10_brokenAt_109 : decode cX10_brokenAt 109 = .ok (.imul, 1) := by decide +kernel
theorem dX10_brokenAt_110 : decode cX10_brokenAt 110 = .ok (.iadd, 1) := by decide +kernel
theorem dX10_brokenAt_111 : decode cX10_brokenAt 111 = .ok (.goto 5, 3) := by decide +kernel
theorem dX10_brokenAt_114 : decode cX10_brokenAt 114 = .ok (.iload 9, 2) := by decide +kernel
theorem dX10_brokenAt_116 : decode cX10_brokenAt 116 = .ok (.istore 11, 2) := by decide +kernel
theorem dX10_brokenAt_118 : decode cX10_brokenAt 118 = .ok (.iload 4, 2) := by decide +kernel
theorem dX10_brokenAt_120 : decode cX10_brokenAt 120 = .ok (.bipush (-9), 2) := by decide +kernel
theorem dX10_brokenAt_122 : decode cX10_brokenAt 122 = .ok (.if_icmp .eq 27, 3) := by decide +kernel
theorem dX10_brokenAt_125 : decode cX10_brokenAt 125 = .ok (.iload 10, 2) := by decide +kernel
theorem dX10_brokenAt_127 : decode cX10_brokenAt 127 = .ok (.ifCond .eq 8, 3) := by decide +kernel
theorem dX10_brokenAt_130 : decode cX10_brokenAt 130 = .ok (.iload 6, 2) := by decide +kernel
theorem dX10_brokenAt_132 : decode cX10_brokenAt 132 = .ok (.ifCond .eq 17, 3) := by decide +kernel
theorem dX10_brokenAt_135 : decode cX10_brokenAt 135 = .ok (.iload 10, 2) := by decide +kernel
theorem dX10_brokenAt_137 : decode cX10_brokenAt 137 = .ok (.iload 6, 2) := by decide +kernel
theorem dX10_brokenAt_139 : decode cX10_brokenAt 139 = .ok (.if_icmp .ne 22, 3) := by decide +kernel
theorem dX10_brokenAt_142 : decode cX10_brokenAt 142 = .ok (.iload 11, 2) := by decide +kernel
theorem dX10_brokenAt_144 : decode cX10_brokenAt 144 = .ok (.iload 5, 2) := by decide +kernel
theorem dX10_brokenAt_146 : decode cX10_brokenAt 146 = .ok (.if_icmp .ge 15, 3) := by decide +kernel
theorem dX10_brokenAt_149 : decode cX10_brokenAt 149 = .ok (.iload 7, 2) := by decide +kernel
theorem dX10_brokenAt_151 : decode cX10_brokenAt 151 = .ok (.istore 4, 2) := by decide +kernel
theorem dX10_brokenAt_153 : decode cX10_brokenAt 153 = .ok (.iload 11, 2) := by decide +kernel
theorem dX10_brokenAt_155 : decode cX10_brokenAt 155 = .ok (.istore 5, 2) := by decide +kernel
theorem dX10_brokenAt_157 : decode cX10_brokenAt 157 = .ok (.iload 10, 2) := by decide +kernel
theorem dX10_brokenAt_159 : decode cX10_brokenAt 159 = .ok (.istore 6, 2) := by decide +kernel
theorem dX10_brokenAt_161 : decode cX10_brokenAt 161 = .ok (.iinc 7 1, 3) := by decide +kernel
theorem dX10_brokenAt_164 : decode cX10_brokenAt 164 = .ok (.goto (-139), 3) := by decide +kernel
theorem dX10_brokenAt_167 : decode cX10_brokenAt 167 = .ok (.iload 4, 2) := by decide +kernel
theorem dX10_brokenAt_169 : decode cX10_brokenAt 169 = .ok (.ireturn, 1) := by decide +kernel
theorem dX10_isTooWide_0 : decode cX10_isTooWide 0 = .ok (.aload_n 0, 1) := by decide +kernel
theorem dX10_isTooWide_1 : decode cX10_isTooWide 1 = .ok (.iload_n 1, 1) := by decide +kernel
theorem dX10_isTooWide_2 : decode cX10_isTooWide 2 = .ok (.invokevirtual 111, 3) := by decide +kernel
theorem dX10_isTooWide_5 : decode cX10_isTooWide 5 = .ok (.istore_n 2, 1) := by decide +kernel
theorem dX10_isTooWide_6 : decode cX10_isTooWide 6 = .ok (.aload_n 0, 1) := by decide +kernel
theorem dX10_isTooWide_7 : decode cX10_isTooWide 7 = .ok (.iload_n 1, 1) := by decide +kernel
theorem dX10_isTooWide_8 : decode cX10_isTooWide 8 = .ok (.invokevirtual 94, 3) := by decide +kernel
theorem dX10_isTooWide_11 : decode cX10_isTooWide 11 = .ok (.iload_n 2, 1) := by decide +kernel
theorem dX10_isTooWide_12 : decode cX10_isTooWide 12 = .ok (.isub, 1) := by decide +kernel
theorem dX10_isTooWide_13 : decode cX10_isTooWide 13 = .ok (.iconst 1, 1) := by decide +kernel
theorem dX10_isTooWide_14 : decode cX10_isTooWide 14 = .ok (.isub, 1) := by decide +kernel
theorem dX10_isTooWide_15 : decode cX10_isTooWide 15 = .ok (.istore_n 3, 1) := by decide +kernel
theorem dX10_isTooWide_16 : decode cX10_isTooWide 16 = .ok (.iload_n 2, 1) := by decide +kernel
theorem dX10_isTooWide_17 : decode cX10_isTooWide 17 = .ok (.bipush (-9), 2) := by decide +kernel
theorem dX10_isTooWide_19 : decode cX10_isTooWide 19 = .ok (.if_icmp .ne 24, 3) := by decide +kernel
theorem dX10_isTooWide_22 : decode cX10_isTooWide 22 = .ok (.aload_n 0, 1) := by decide +kernel
theorem dX10_isTooWide_23 : decode cX10_isTooWide 23 = .ok (.iload_n 1, 1) := by decide +kernel
theorem dX10_isTooWide_24 : decode cX10_isTooWide 24 = .ok (.invokevirtual 94, 3) := by decide +kernel
theorem dX10_isTooWide_27 : decode cX10_isTooWide 27 = .ok (.aload_n 0, 1) := by decide +kernel
theorem dX10_isTooWide_28 : decode cX10_isTooWide 28 = .ok (.iconst 4, 1) := by decide +kernel
theorem dX10_isTooWide_29 : decode cX10_isTooWide 29 = .ok (.invokevirtual 105, 3) := by decide +kernel
theorem dX10_isTooWide_32 : decode cX10_isTooWide 32 = .ok (.if_icmp .le 7, 3) := by decide +kernel
theorem dX10_isTooWide_35 : decode cX10_isTooWide 35 = .ok (.iconst 1, 1) := by decide +kernel
theorem dX10_isTooWide_36 : decode cX10_isTooWide 36 = .ok (.goto 30, 3) := by decide +kernel
theorem dX10_isTooWide_39 : decode cX10_isTooWide 39 = .ok (.iconst 0, 1) := by decide +kernel
theorem dX10_isTooWide_40 : decode cX10_isTooWide 40 = .ok (.goto 26, 3) := by decide +kernel
theorem dX10_isTooWide_43 : decode cX10_isTooWide 43 = .ok (.iload_n 2, 1) := by decide +kernel
theorem dX10_isTooWide_44 : decode cX10_isTooWide 44 = .ok (.aload_n 0, 1) := by decide +kernel
theorem dX10_isTooWide_45 : decode cX10_isTooWide 45 = .ok (.iconst 4, 1) := by decide +kernel
theorem dX10_isTooWide_46 : decode cX10_isTooWide 46 = .ok (.invokevirtual 105, 3) := by decide +kernel
theorem dX10_isTooWide_49 : decode cX10_isTooWide 49 = .ok (.if_icmp .gt 12, 3) := by decide +kernel
theorem dX10_isTooWide_52 : decode cX10_isTooWide 52 = .ok (.iload_n 3, 1) := by decide +kernel
theorem dX10_isTooWide_53 : decode cX10_isTooWide 53 = .ok (.aload_n 0, 1) := by decide +kernel
theorem dX10_isTooWide_54 : decode cX10_isTooWide 54 = .ok (.iconst 4, 1) := by decide +kernel
theorem dX10_isTooWide_55 : decode cX10_isTooWide 55 = .ok (.invokevirtual 105, 3) := by decide +kernel
theorem dX10_isTooWide_58 : decode cX10_isTooWide 58 = .ok (.if_icmp .le 7, 3) := by decide +kernel
theorem dX10_isTooWide_61 : decode cX10_isTooWide 61 = .ok (.iconst 1, 1) := by decide +kernel
theorem dX10_isTooWide_62 : decode cX10_isTooWide 62 = .ok (.goto 4, 3) := by decide +kernel
theorem dX10_isTooWide_65 : decode cX10_isTooWide 65 = .ok (.iconst 0, 1) := by decide +kernel
theorem dX10_isTooWide_66 : decode cX10_isTooWide 66 = .ok (.ireturn, 1) := by decide +kernel
theorem dX10_charactersOf_0 : decode cX10_charactersOf 0 = .ok (.aload_n 0, 1) := by decide +kernel
theorem dX10_charactersOf_1 : decode cX10_charactersOf 1 = .ok (.aload_n 0, 1) := by decide +kernel
theorem dX10_charactersOf_2 : decode cX10_charactersOf 2 = .ok (.getfield 25, 3) := by decide +kernel
theorem dX10_charactersOf_5 : decode cX10_charactersOf 5 = .ok (.iload_n 1, 1) := by decide +kernel
theorem dX10_charactersOf_6 : decode cX10_charactersOf 6 = .ok (.iaload, 1) := by decide +kernel
theorem dX10_charactersOf_7 : decode cX10_charactersOf 7 = .ok (.invokevirtual 94, 3) := by decide +kernel
theorem dX10_charactersOf_10 : decode cX10_charactersOf 10 = .ok (.aload_n 0, 1) := by decide +kernel
theorem dX10_charactersOf_11 : decode cX10_charactersOf 11 = .ok (.getfield 22, 3) := by decide +kernel
theorem dX10_charactersOf_14 : decode cX10_charactersOf 14 = .ok (.iload_n 1, 1) := by decide +kernel
theorem dX10_charactersOf_15 : decode cX10_charactersOf 15 = .ok (.iaload, 1) := by decide +kernel
theorem dX10_charactersOf_16 : decode cX10_charactersOf 16 = .ok (.iconst 2, 1) := by decide +kernel
theorem dX10_charactersOf_17 : decode cX10_charactersOf 17 = .ok (.if_icmp .ne 18, 3) := by decide +kernel
theorem dX10_charactersOf_20 : decode cX10_charactersOf 20 = .ok (.aload_n 0, 1) := by decide +kernel
theorem dX10_charactersOf_21 : decode cX10_charactersOf 21 = .ok (.aload_n 0, 1) := by decide +kernel
theorem dX10_charactersOf_22 : decode cX10_charactersOf 22 = .ok (.getfield 28, 3) := by decide +kernel
theorem dX10_charactersOf_25 : decode cX10_charactersOf 25 = .ok (.iload_n 1, 1) := by decide +kernel
theorem dX10_charactersOf_26 : decode cX10_charactersOf 26 = .ok (.iaload, 1) := by decide +kernel
theorem dX10_charactersOf_27 : decode cX10_charactersOf 27 = .ok (.invokevirtual 94, 3) := by decide +kernel
theorem dX10_charactersOf_30 : decode cX10_charactersOf 30 = .ok (.iconst 4, 1) := by decide +kernel
theorem dX10_charactersOf_31 : decode cX10_charactersOf 31 = .ok (.iadd, 1) := by decide +kernel
theorem dX10_charactersOf_32 : decode cX10_charactersOf 32 = .ok (.goto 4, 3) := by decide +kernel
theorem dX10_charactersOf_35 : decode cX10_charactersOf 35 = .ok (.iconst 0, 1) := by decide +kernel
theorem dX10_charactersOf_36 : decode cX10_charactersOf 36 = .ok (.iadd, 1) := by decide +kernel
theorem dX10_charactersOf_37 : decode cX10_charactersOf 37 = .ok (.ireturn, 1) := by decide +kernel
theorem dX10_readingOf_0 : decode cX10_readingOf 0 = .ok (.aload_n 0, 1) := by decide +kernel
theorem dX10_readingOf_1 : decode cX10_readingOf 1 = .ok (.iconst 0, 1) := by decide +kernel
theorem dX10_readingOf_2 : decode cX10_readingOf 2 = .ok (.invokevirtual 105, 3) := by decide +kernel
theorem dX10_readingOf_5 : decode cX10_readingOf 5 = .ok (.aload_n 0, 1) := by decide +kernel
theorem dX10_readingOf_6 : decode cX10_readingOf 6 = .ok (.iload_n 1, 1) := by decide +kernel
theorem dX10_readingOf_7 : decode cX10_readingOf 7 = .ok (.invokevirtual 114, 3) := by decide +kernel
theorem dX10_readingOf_10 : decode cX10_readingOf 10 = .ok (.imul, 1) := by decide +kernel
theorem dX10_readingOf_11 : decode cX10_readingOf 11 = .ok (.istore_n 2, 1) := by decide +kernel
theorem dX10_readingOf_12 : decode cX10_readingOf 12 = .ok (.iload_n 2, 1) := by decide +kernel
theorem dX10_readingOf_13 : decode cX10_readingOf 13 = .ok (.aload_n 0, 1) := by decide +kernel
theorem dX10_readingOf_14 : decode cX10_readingOf 14 = .ok (.iconst 1, 1) := by decide +kernel
theorem dX10_readingOf_15 : decode cX10_readingOf 15 = .ok (.invokevirtual 105, 3) := by decide +kernel
theorem dX10_readingOf_18 : decode cX10_readingOf 18 = .ok (.if_icmp .le 7, 3) := by decide +kernel
theorem dX10_readingOf_21 : decode cX10_readingOf 21 = .ok (.iload_n 2, 1) := by decide +kernel
theorem dX10_readingOf_22 : decode cX10_readingOf 22 = .ok (.goto 8, 3) := by decide +kernel
theorem dX10_readingOf_25 : decode cX10_readingOf 25 = .ok (.aload_n 0, 1) := by decide +kernel
theorem dX10_readingOf_26 : decode cX10_readingOf 26 = .ok (.iconst 1, 1) := by decide +kernel
theorem dX10_readingOf_27 : decode cX10_readingOf 27 = .ok (.invokevirtual 105, 3) := by decide +kernel
theorem dX10_readingOf_30 : decode cX10_readingOf 30 = .ok (.ireturn, 1) := by decide +kernel
theorem dX10_nextOf_0 : decode cX10_nextOf 0 = .ok (.iload_n 1, 1) := by decide +kernel
theorem dX10_nextOf_1 : decode cX10_nextOf 1 = .ok (.iconst 1, 1) := by decide +kernel
theorem dX10_nextOf_2 : decode cX10_nextOf 2 = .ok (.iadd, 1) := by decide +kernel
theorem dX10_nextOf_3 : decode cX10_nextOf 3 = .ok (.istore_n 2, 1) := by decide +kernel
theorem dX10_nextOf_4 : decode cX10_nextOf 4 = .ok (.iload_n 2, 1) := by decide +kernel
theorem dX10_nextOf_5 : decode cX10_nextOf 5 = .ok (.aload_n 0, 1) := by decide +kernel
theorem dX10_nextOf_6 : decode cX10_nextOf 6 = .ok (.getfield 84, 3) := by decide +kernel
theorem dX10_nextOf_9 : decode cX10_nextOf 9 = .ok (.if_icmp .ge 26, 3) := by decide +kernel
theorem dX10_nextOf_12 : decode cX10_nextOf 12 = .ok (.aload_n 0, 1) := by decide +kernel
theorem dX10_nextOf_13 : decode cX10_nextOf 13 = .ok (.getfield 16, 3) := by decide +kernel
theorem dX10_nextOf_16 : decode cX10_nextOf 16 = .ok (.iload_n 2, 1) := by decide +kernel
theorem dX10_nextOf_17 : decode cX10_nextOf 17 = .ok (.iaload, 1) := by decide +kernel
theorem dX10_nextOf_18 : decode cX10_nextOf 18 = .ok (.aload_n 0, 1) := by decide +kernel
theorem dX10_nextOf_19 : decode cX10_nextOf 19 = .ok (.getfield 16, 3) := by decide +kernel
theorem dX10_nextOf_22 : decode cX10_nextOf 22 = .ok (.iload_n 1, 1) := by decide +kernel
theorem dX10_nextOf_23 : decode cX10_nextOf 23 = .ok (.iaload, 1) := by decide +kernel
theorem dX10_nextOf_24 : decode cX10_nextOf 24 = .ok (.if_icmp .le 5, 3) := by decide +kernel
theorem dX10_nextOf_27 : decode cX10_nextOf 27 = .ok (.iload_n 2, 1) := by decide +kernel
theorem dX10_nextOf_28 : decode cX10_nextOf 28 = .ok (.ireturn, 1) := by decide +kernel
theorem dX10_nextOf_29 : decode cX10_nextOf 29 = .ok (.iinc 2 1, 3) := by decide +kernel
theorem dX10_nextOf_32 : decode cX10_nextOf 32 = .ok (.goto (-28), 3) := by decide +kernel
theorem dX10_nextOf_35 : decode cX10_nextOf 35 = .ok (.bipush (-9), 2) := by decide +kernel
theorem dX10_nextOf_37 : decode cX10_nextOf 37 = .ok (.ireturn, 1) := by decide +kernel
theorem dX10_near_0 : decode cX10_near 0 = .ok (.bipush (-9), 2) := by decide +kernel
theorem dX10_near_2 : decode cX10_near 2 = .ok (.istore_n 2, 1) := by decide +kernel
theorem dX10_near_3 : decode cX10_near 3 = .ok (.aload_n 0, 1) := by decide +kernel
theorem dX10_near_4 : decode cX10_near 4 = .ok (.iconst 3, 1) := by decide +kernel
theorem dX10_near_5 : decode cX10_near 5 = .ok (.invokevirtual 105, 3) := by decide +kernel
theorem dX10_near_8 : decode cX10_near 8 = .ok (.iconst 1, 1) := by decide +kernel
theorem dX10_near_9 : decode cX10_near 9 = .ok (.iadd, 1) := by decide +kernel
theorem dX10_near_10 : decode cX10_near 10 = .ok (.istore_n 3, 1) := by decide +kernel
theorem dX10_near_11 : decode cX10_near 11 = .ok (.iconst 0, 1) := by decide +kernel
theorem dX10_near_12 : decode cX10_near 12 = .ok (.istore 4, 2) := by decide +kernel
theorem dX10_near_14 : decode cX10_near 14 = .ok (.iload 4, 2) := by decide +kernel
theorem dX10_near_16 : decode cX10_near 16 = .ok (.aload_n 0, 1) := by decide +kernel
theorem dX10_near_17 : decode cX10_near 17 = .ok (.getfield 7, 3) := by decide +kernel
theorem dX10_near_20 : decode cX10_near 20 = .ok (.bipush 21, 2) := by decide +kernel
theorem dX10_near_22 : decode cX10_near 22 = .ok (.iaload, 1) := by decide +kernel
theorem dX10_near_23 : decode cX10_near 23 = .ok (.if_icmp .ge 86, 3) := by decide +kernel
theorem dX10_near_26 : decode cX10_near 26 = .ok (.aload_n 0, 1) := by decide +kernel
theorem dX10_near_27 : decode cX10_near 27 = .ok (.getfield 7, 3) := by decide +kernel
theorem dX10_near_30 : decode cX10_near 30 = .ok (.bipush 22, 2) := by decide +kernel
theorem dX10_near_32 : decode cX10_near 32 = .ok (.iload 4, 2) := by decide +kernel
theorem dX10_near_34 : decode cX10_near 34 = .ok (.iadd, 1) := by decide +kernel
theorem dX10_near_35 : decode cX10_near 35 = .ok (.iaload, 1) := by decide +kernel
theorem dX10_near_36 : decode cX10_near 36 = .ok (.iload_n 1, 1) := by decide +kernel
theorem dX10_near_37 : decode cX10_near 37 = .ok (.if_icmp .le 18, 3) := by decide +kernel
theorem dX10_near_40 : decode cX10_near 40 = .ok (.aload_n 0, 1) := by decide +kernel
theorem dX10_near_41 : decode cX10_near 41 = .ok (.getfield 7, 3) := by decide +kernel
theorem dX10_near_44 : decode cX10_near 44 = .ok (.bipush 22, 2) := by decide +kernel
theorem dX10_near_46 : decode cX10_near 46 = .ok (.iload 4, 2) := by decide +kernel
theorem dX10_near_48 : decode cX10_near 48 = .ok (.iadd, 1) := by decide +kernel
theorem dX10_near_49 : decode cX10_near 49 = .ok (.iaload, 1) := by decide +kernel
theorem dX10_near_50 : decode cX10_near 50 = .ok (.iload_n 1, 1) := by decide +kernel
theorem dX10_near_51 : decode cX10_near 51 = .ok (.isub, 1) := by decide +kernel
theorem dX10_near_52 : decode cX10_near 52 = .ok (.goto 15, 3) := by decide +kernel
theorem dX10_near_55 : decode cX10_near 55 = .ok (.iload_n 1, 1) := by decide +kernel
theorem dX10_near_56 : decode cX10_near 56 = .ok (.aload_n 0, 1) := by decide +kernel
theorem dX10_near_57 : decode cX10_near 57 = .ok (.getfield 7, 3) := by decide +kernel
theorem dX10_near_60 : decode cX10_near 60 = .ok (.bipush 22, 2) := by decide +kernel
theorem dX10_near_62 : decode cX10_near 62 = .ok (.iload 4, 2) := by decide +kernel
theorem dX10_near_64 : decode cX10_near 64 = .ok (.iadd, 1) := by decide +kernel
theorem dX10_near_65 : decode cX10_near 65 = .ok (.iaload, 1) := by decide +kernel
theorem dX10_near_66 : decode cX10_near 66 = .ok (.isub, 1) := by decide +kernel
theorem dX10_near_67 : decode cX10_near 67 = .ok (.istore 5, 2) := by decide +kernel
theorem dX10_near_69 : decode cX10_near 69 = .ok (.iload 5, 2) := by decide +kernel
theorem dX10_near_71 : decode cX10_near 71 = .ok (.iload_n 3, 1) := by decide +kernel
theorem dX10_near_72 : decode cX10_near 72 = .ok (.if_icmp .ge 16, 3) := by decide +kernel
theorem dX10_near_75 : decode cX10_near 75 = .ok (.aload_n 0, 1) := by decide +kernel
theorem dX10_near_76 : decode cX10_near 76 = .ok (.getfield 7, 3) := by decide +kernel
theorem dX10_near_79 : decode cX10_near 79 = .ok (.bipush 22, 2) := by decide +kernel
theorem dX10_near_81 : decode cX10_near 81 = .ok (.iload 4, 2) := by decide +kernel
theorem dX10_near_83 : decode cX10_near 83 = .ok (.iadd, 1) := by decide +kernel
theorem dX10_near_84 : decode cX10_near 84 = .ok (.iaload, 1) := by decide +kernel
theorem dX10_near_85 : decode cX10_near 85 = .ok (.goto 4, 3) := by decide +kernel
theorem dX10_near_88 : decode cX10_near 88 = .ok (.iload_n 2, 1) := by decide +kernel
theorem dX10_near_89 : decode cX10_near 89 = .ok (.istore_n 2, 1) := by decide +kernel
theorem dX10_near_90 : decode cX10_near 90 = .ok (.iload 5, 2) := by decide +kernel
theorem dX10_near_92 : decode cX10_near 92 = .ok (.iload_n 3, 1) := by decide +kernel
theorem dX10_near_93 : decode cX10_near 93 = .ok (.if_icmp .ge 8, 3) := by decide +kernel
theorem dX10_near_96 : decode cX10_near 96 = .ok (.iload 5, 2) := by decide +kernel
theorem dX10_near_98 : decode cX10_near 98 = .ok (.goto 4, 3) := by decide +kernel
theorem dX10_near_101 : decode cX10_near 101 = .ok (.iload_n 3, 1) := by decide +kernel
theorem dX10_near_102 : decode cX10_near 102 = .ok (.istore_n 3, 1) := by decide +kernel
theorem dX10_near_103 : decode cX10_near 103 = .ok (.iinc 4 1, 3) := by decide +kernel
theorem dX10_near_106 : decode cX10_near 106 = .ok (.goto (-92), 3) := by decide +kernel
theorem dX10_near_109 : decode cX10_near 109 = .ok (.iload_n 2, 1) := by decide +kernel
theorem dX10_near_110 : decode cX10_near 110 = .ok (.ireturn, 1) := by decide +kernel
theorem dX10_isOff_0 : decode cX10_isOff 0 = .ok (.aload_n 0, 1) := by decide +kernel
theorem dX10_isOff_1 : decode cX10_isOff 1 = .ok (.iload_n 1, 1) := by decide +kernel
theorem dX10_isOff_2 : decode cX10_isOff 2 = .ok (.invokevirtual 117, 3) := by decide +kernel
theorem dX10_isOff_5 : decode cX10_isOff 5 = .ok (.bipush (-9), 2) := by decide +kernel
theorem dX10_isOff_7 : decode cX10_isOff 7 = .ok (.if_icmp .eq 16, 3) := by decide +kernel
theorem dX10_isOff_10 : decode cX10_isOff 10 = .ok (.aload_n 0, 1) := by decide +kernel
theorem dX10_isOff_11 : decode cX10_isOff 11 = .ok (.iload_n 1, 1) := by decide +kernel
theorem dX10_isOff_12 : decode cX10_isOff 12 = .ok (.invokevirtual 117, 3) := by decide +kernel
theorem dX10_isOff_15 : decode cX10_isOff 15 = .ok (.iload_n 1, 1) := by decide +kernel
theorem dX10_isOff_16 : decode cX10_isOff 16 = .ok (.if_icmp .eq 7, 3) := by decide +kernel
theorem dX10_isOff_19 : decode cX10_isOff 19 = .ok (.iconst 1, 1) := by decide +kernel
theorem dX10_isOff_20 : decode cX10_isOff 20 = .ok (.goto 4, 3) := by decide +kernel
theorem dX10_isOff_23 : decode cX10_isOff 23 = .ok (.iconst 0, 1) := by decide +kernel
theorem dX10_isOff_24 : decode cX10_isOff 24 = .ok (.ireturn, 1) := by decide +kernel
theorem dX10_faultsOf_0 : decode cX10_faultsOf 0 = .ok (.aload_n 0, 1) := by decide +kernel
theorem dX10_faultsOf_1 : decode cX10_faultsOf 1 = .ok (.iload_n 1, 1) := by decide +kernel
theorem dX10_faultsOf_2 : decode cX10_faultsOf 2 = .ok (.invokevirtual 120, 3) := by decide +kernel
theorem dX10_faultsOf_5 : decode cX10_faultsOf 5 = .ok (.istore_n 2, 1) := by decide +kernel
theorem dX10_faultsOf_6 : decode cX10_faultsOf 6 = .ok (.iconst 0, 1) := by decide +kernel
theorem dX10_faultsOf_7 : decode cX10_faultsOf 7 = .ok (.istore_n 3, 1) := by decide +kernel
theorem dX10_faultsOf_8 : decode cX10_faultsOf 8 = .ok (.iconst 0, 1) := by decide +kernel
theorem dX10_faultsOf_9 : decode cX10_faultsOf 9 = .ok (.istore 4, 2) := by decide +kernel
theorem dX10_faultsOf_11 : decode cX10_faultsOf 11 = .ok (.iload 4, 2) := by decide +kernel
theorem dX10_faultsOf_13 : decode cX10_faultsOf 13 = .ok (.aload_n 0, 1) := by decide +kernel
theorem dX10_faultsOf_14 : decode cX10_faultsOf 14 = .ok (.getfield 84, 3) := by decide +kernel
theorem dX10_faultsOf_17 : decode cX10_faultsOf 17 = .ok (.if_icmp .ge 41, 3) := by decide +kernel
theorem dX10_faultsOf_20 : decode cX10_faultsOf 20 = .ok (.iload_n 3, 1) := by decide +kernel
theorem dX10_faultsOf_21 : decode cX10_faultsOf 21 = .ok (.ifCond .ne 25, 3) := by decide +kernel
theorem dX10_faultsOf_24 : decode cX10_faultsOf 24 = .ok (.iload 4, 2) := by decide +kernel
theorem dX10_faultsOf_26 : decode cX10_faultsOf 26 = .ok (.iload_n 1, 1) := by decide +kernel
theorem dX10_faultsOf_27 : decode cX10_faultsOf 27 = .ok (.if_icmp .eq 23, 3) := by decide +kernel
theorem dX10_faultsOf_30 : decode cX10_faultsOf 30 = .ok (.aload_n 0, 1) := by decide +kernel
theorem dX10_faultsOf_31 : decode cX10_faultsOf 31 = .ok (.getfield 16, 3) := by decide +kernel
theorem dX10_faultsOf_34 : decode cX10_faultsOf 34 = .ok (.iload 4, 2) := by decide +kernel
theorem dX10_faultsOf_36 : decode cX10_faultsOf 36 = .ok (.iaload, 1) := by decide +kernel
theorem dX10_faultsOf_37 : decode cX10_faultsOf 37 = .ok (.aload_n 0, 1) := by decide +kernel
theorem dX10_faultsOf_38 : decode cX10_faultsOf 38 = .ok (.getfield 16, 3) := by decide +kernel
theorem dX10_faultsOf_41 : decode cX10_faultsOf 41 = .ok (.iload_n 1, 1) := by decide +kernel
theorem dX10_faultsOf_42 : decode cX10_faultsOf 42 = .ok (.iaload, 1) := by decide +kernel
theorem dX10_faultsOf_43 : decode cX10_faultsOf 43 = .ok (.if_icmp .ne 7, 3) := by decide +kernel
theorem dX10_faultsOf_46 : decode cX10_faultsOf 46 = .ok (.iconst 1, 1) := by decide +kernel
theorem dX10_faultsOf_47 : decode cX10_faultsOf 47 = .ok (.goto 4, 3) := by decide +kernel
theorem dX10_faultsOf_50 : decode cX10_faultsOf 50 = .ok (.iconst 0, 1) := by decide +kernel
theorem dX10_faultsOf_51 : decode cX10_faultsOf 51 = .ok (.istore_n 3, 1) := by decide +kernel
theorem dX10_faultsOf_52 : decode cX10_faultsOf 52 = .ok (.iinc 4 1, 3) := by decide +kernel
theorem dX10_faultsOf_55 : decode cX10_faultsOf 55 = .ok (.goto (-44), 3) := by decide +kernel
theorem dX10_faultsOf_58 : decode cX10_faultsOf 58 = .ok (.aload_n 0, 1) := by decide +kernel
theorem dX10_faultsOf_59 : decode cX10_faultsOf 59 = .ok (.getfield 19, 3) := by decide +kernel
theorem dX10_faultsOf_62 : decode cX10_faultsOf 62 = .ok (.iload_n 1, 1) := by decide +kernel
theorem dX10_faultsOf_63 : decode cX10_faultsOf 63 = .ok (.iaload, 1) := by decide +kernel
theorem dX10_faultsOf_64 : decode cX10_faultsOf 64 = .ok (.aload_n 0, 1) := by decide +kernel
theorem dX10_faultsOf_65 : decode cX10_faultsOf 65 = .ok (.getfield 16, 3) := by decide +kernel
theorem dX10_faultsOf_68 : decode cX10_faultsOf 68 = .ok (.iload_n 1, 1) := by decide +kernel
theorem dX10_faultsOf_69 : decode cX10_faultsOf 69 = .ok (.iaload, 1) := by decide +kernel
theorem dX10_faultsOf_70 : decode cX10_faultsOf 70 = .ok (.isub, 1) := by decide +kernel
theorem dX10_faultsOf_71 : decode cX10_faultsOf 71 = .ok (.aload_n 0, 1) := by decide +kernel
theorem dX10_faultsOf_72 : decode cX10_faultsOf 72 = .ok (.iload_n 1, 1) := by decide +kernel
theorem dX10_faultsOf_73 : decode cX10_faultsOf 73 = .ok (.invokevirtual 123, 3) := by decide +kernel
theorem dX10_faultsOf_76 : decode cX10_faultsOf 76 = .ok (.if_icmp .ge 7, 3) := by decide +kernel
theorem dX10_faultsOf_79 : decode cX10_faultsOf 79 = .ok (.iconst 1, 1) := by decide +kernel
theorem dX10_faultsOf_80 : decode cX10_faultsOf 80 = .ok (.goto 4, 3) := by decide +kernel
theorem dX10_faultsOf_83 : decode cX10_faultsOf 83 = .ok (.iconst 0, 1) := by decide +kernel
theorem dX10_faultsOf_84 : decode cX10_faultsOf 84 = .ok (.istore 4, 2) := by decide +kernel
theorem dX10_faultsOf_86 : decode cX10_faultsOf 86 = .ok (.iload 4, 2) := by decide +kernel
theorem dX10_faultsOf_88 : decode cX10_faultsOf 88 = .ok (.iload_n 2, 1) := by decide +kernel
theorem dX10_faultsOf_89 : decode cX10_faultsOf 89 = .ok (.bipush (-9), 2) := by decide +kernel
theorem dX10_faultsOf_91 : decode cX10_faultsOf 91 = .ok (.if_icmp .eq 28, 3) := by decide +kernel
theorem dX10_faultsOf_94 : decode cX10_faultsOf 94 = .ok (.aload_n 0, 1) := by decide +kernel
theorem dX10_faultsOf_95 : decode cX10_faultsOf 95 = .ok (.getfield 19, 3) := by decide +kernel
theorem dX10_faultsOf_98 : decode cX10_faultsOf 98 = .ok (.iload_n 1, 1) := by decide +kernel
theorem dX10_faultsOf_99 : decode cX10_faultsOf 99 = .ok (.iaload, 1) := by decide +kernel
theorem dX10_faultsOf_100 : decode cX10_faultsOf 100 = .ok (.aload_n 0, 1) := by decide +kernel
theorem dX10_faultsOf_101 : decode cX10_faultsOf 101 = .ok (.getfield 16, 3) := by decide +kernel
theorem dX10_faultsOf_104 : decode cX10_faultsOf 104 = .ok (.iload_n 2, 1) := by decide +kernel
theorem dX10_faultsOf_105 : decode cX10_faultsOf 105 = .ok (.iaload, 1) := by decide +kernel
theorem dX10_faultsOf_106 : decode cX10_faultsOf 106 = .ok (.aload_n 0, 1) := by decide +kernel
theorem dX10_faultsOf_107 : decode cX10_faultsOf 107 = .ok (.iconst 2, 1) := by decide +kernel
theorem dX10_faultsOf_108 : decode cX10_faultsOf 108 = .ok (.invokevirtual 105, 3) := by decide +kernel
theorem dX10_faultsOf_111 : decode cX10_faultsOf 111 = .ok (.isub, 1) := by decide +kernel
theorem dX10_faultsOf_112 : decode cX10_faultsOf 112 = .ok (.if_icmp .le 7, 3) := by decide +kernel
theorem dX10_faultsOf_115 : decode cX10_faultsOf 115 = .ok (.iconst 2, 1) := by decide +kernel
theorem dX10_faultsOf_116 : decode cX10_faultsOf 116 = .ok (.goto 4, 3) := by decide +kernel
theorem dX10_faultsOf_119 : decode cX10_faultsOf 119 = .ok (.iconst 0, 1) := by decide +kernel
theorem dX10_faultsOf_120 : decode cX10_faultsOf 120 = .ok (.iadd, 1) := by decide +kernel
theorem dX10_faultsOf_121 : decode cX10_faultsOf 121 = .ok (.istore 4, 2) := by decide +kernel
theorem dX10_faultsOf_123 : decode cX10_faultsOf 123 = .ok (.iload 4, 2) := by decide +kernel
theorem dX10_faultsOf_125 : decode cX10_faultsOf 125 = .ok (.iload_n 3, 1) := by decide +kernel
theorem dX10_faultsOf_126 : decode cX10_faultsOf 126 = .ok (.ifCond .eq 7, 3) := by decide +kernel
theorem dX10_faultsOf_129 : decode cX10_faultsOf 129 = .ok (.iconst 4, 1) := by decide +kernel
theorem dX10_faultsOf_130 : decode cX10_faultsOf 130 = .ok (.goto 4, 3) := by decide +kernel
theorem dX10_faultsOf_133 : decode cX10_faultsOf 133 = .ok (.iconst 0, 1) := by decide +kernel
theorem dX10_faultsOf_134 : decode cX10_faultsOf 134 = .ok (.iadd, 1) := by decide +kernel
theorem dX10_faultsOf_135 : decode cX10_faultsOf 135 = .ok (.istore 4, 2) := by decide +kernel
theorem dX10_faultsOf_137 : decode cX10_faultsOf 137 = .ok (.iload 4, 2) := by decide +kernel
theorem dX10_faultsOf_139 : decode cX10_faultsOf 139 = .ok (.aload_n 0, 1) := by decide +kernel
theorem dX10_faultsOf_140 : decode cX10_faultsOf 140 = .ok (.aload_n 0, 1) := by decide +kernel
theorem dX10_faultsOf_141 : decode cX10_faultsOf 141 = .ok (.getfield 16, 3) := by decide +kernel
theorem dX10_faultsOf_144 : decode cX10_faultsOf 144 = .ok (.iload_n 1, 1) := by decide +kernel
theorem dX10_faultsOf_145 : decode cX10_faultsOf 145 = .ok (.iaload, 1) := by decide +kernel
theorem dX10_faultsOf_146 : decode cX10_faultsOf 146 = .ok (.invokevirtual 126, 3) := by decide +kernel
theorem dX10_faultsOf_149 : decode cX10_faultsOf 149 = .ok (.ifCond .ne 16, 3) := by decide +kernel
theorem dX10_faultsOf_152 : decode cX10_faultsOf 152 = .ok (.aload_n 0, 1) := by decide +kernel
theorem dX10_faultsOf_153 : decode cX10_faultsOf 153 = .ok (.aload_n 0, 1) := by decide +kernel
theorem dX10_faultsOf_154 : decode cX10_faultsOf 154 = .ok (.getfield 19, 3) := by decide +kernel
theorem dX10_faultsOf_157 : decode cX10_faultsOf 157 = .ok (.iload_n 1, 1) := by decide +kernel
theorem dX10_faultsOf_158 : decode cX10_faultsOf 158 = .ok (.iaload, 1) := by decide +kernel
theorem dX10_faultsOf_159 : decode cX10_faultsOf 159 = .ok (.invokevirtual 126, 3) := by decide +kernel
theorem dX10_faultsOf_162 : decode cX10_faultsOf 162 = .ok (.ifCond .eq 8, 3) := by decide +kernel
theorem dX10_faultsOf_165 : decode cX10_faultsOf 165 = .ok (.bipush 8, 2) := by decide +kernel
theorem dX10_faultsOf_167 : decode cX10_faultsOf 167 = .ok (.goto 4, 3) := by decide +kernel
theorem dX10_faultsOf_170 : decode cX10_faultsOf 170 = .ok (.iconst 0, 1) := by decide +kernel
theorem dX10_faultsOf_171 : decode cX10_faultsOf 171 = .ok (.iadd, 1) := by decide +kernel
theorem dX10_faultsOf_172 : decode cX10_faultsOf 172 = .ok (.istore 4, 2) := by decide +kernel
theorem dX10_faultsOf_174 : decode cX10_faultsOf 174 = .ok (.iload 4, 2) := by decide +kernel
theorem dX10_faultsOf_176 : decode cX10_faultsOf 176 = .ok (.aload_n 0, 1) := by decide +kernel
theorem dX10_faultsOf_177 : decode cX10_faultsOf 177 = .ok (.aload_n 0, 1) := by decide +kernel
theorem dX10_faultsOf_178 : decode cX10_faultsOf 178 = .ok (.getfield 25, 3) := by decide +kernel
theorem dX10_faultsOf_181 : decode cX10_faultsOf 181 = .ok (.iload_n 1, 1) := by decide +kernel
theorem dX10_faultsOf_182 : decode cX10_faultsOf 182 = .ok (.iaload, 1) := by decide +kernel
theorem dX10_faultsOf_183 : decode cX10_faultsOf 183 = .ok (.invokevirtual 129, 3) := by decide +kernel
theorem dX10_faultsOf_186 : decode cX10_faultsOf 186 = .ok (.ifCond .ne 26, 3) := by decide +kernel
theorem dX10_faultsOf_189 : decode cX10_faultsOf 189 = .ok (.aload_n 0, 1) := by decide +kernel
theorem dX10_faultsOf_190 : decode cX10_faultsOf 190 = .ok (.getfield 22, 3) := by decide +kernel
theorem dX10_faultsOf_193 : decode cX10_faultsOf 193 = .ok (.iload_n 1, 1) := by decide +kernel
theorem dX10_faultsOf_194 : decode cX10_faultsOf 194 = .ok (.iaload, 1) := by decide +kernel
theorem dX10_faultsOf_195 : decode cX10_faultsOf 195 = .ok (.iconst 2, 1) := by decide +kernel
theorem dX10_faultsOf_196 : decode cX10_faultsOf 196 = .ok (.if_icmp .ne 21, 3) := by decide +kernel
theorem dX10_faultsOf_199 : decode cX10_faultsOf 199 = .ok (.aload_n 0, 1) := by decide +kernel
theorem dX10_faultsOf_200 : decode cX10_faultsOf 200 = .ok (.aload_n 0, 1) := by decide +kernel
theorem dX10_faultsOf_201 : decode cX10_faultsOf 201 = .ok (.getfield 28, 3) := by decide +kernel
theorem dX10_faultsOf_204 : decode cX10_faultsOf 204 = .ok (.iload_n 1, 1) := by decide +kernel
theorem dX10_faultsOf_205 : decode cX10_faultsOf 205 = .ok (.iaload, 1) := by decide +kernel
theorem dX10_faultsOf_206 : decode cX10_faultsOf 206 = .ok (.invokevirtual 129, 3) := by decide +kernel
theorem dX10_faultsOf_209 : decode cX10_faultsOf 209 = .ok (.ifCond .eq 8, 3) := by decide +kernel
theorem dX10_faultsOf_212 : decode cX10_faultsOf 212 = .ok (.bipush 16, 2) := by decide +kernel
theorem dX10_faultsOf_214 : decode cX10_faultsOf 214 = .ok (.goto 4, 3) := by decide +kernel
theorem dX10_faultsOf_217 : decode cX10_faultsOf 217 = .ok (.iconst 0, 1) := by decide +kernel
theorem dX10_faultsOf_218 : decode cX10_faultsOf 218 = .ok (.iadd, 1) := by decide +kernel
theorem dX10_faultsOf_219 : decode cX10_faultsOf 219 = .ok (.istore 4, 2) := by decide +kernel
theorem dX10_faultsOf_221 : decode cX10_faultsOf 221 = .ok (.iload 4, 2) := by decide +kernel
theorem dX10_faultsOf_223 : decode cX10_faultsOf 223 = .ok (.aload_n 0, 1) := by decide +kernel
theorem dX10_faultsOf_224 : decode cX10_faultsOf 224 = .ok (.getfield 19, 3) := by decide +kernel
theorem dX10_faultsOf_227 : decode cX10_faultsOf 227 = .ok (.iload_n 1, 1) := by decide +kernel
theorem dX10_faultsOf_228 : decode cX10_faultsOf 228 = .ok (.iaload, 1) := by decide +kernel
theorem dX10_faultsOf_229 : decode cX10_faultsOf 229 = .ok (.aload_n 0, 1) := by decide +kernel
theorem dX10_faultsOf_230 : decode cX10_faultsOf 230 = .ok (.invokevirtual 64, 3) := by decide +kernel
theorem dX10_faultsOf_233 : decode cX10_faultsOf 233 = .ok (.if_icmp .le 8, 3) := by decide +kernel
theorem dX10_faultsOf_236 : decode cX10_faultsOf 236 = .ok (.bipush 32, 2) := by decide +kernel
theorem dX10_faultsOf_238 : decode cX10_faultsOf 238 = .ok (.goto 4, 3) := by decide +kernel
theorem dX10_faultsOf_241 : decode cX10_faultsOf 241 = .ok (.iconst 0, 1) := by decide +kernel
theorem dX10_faultsOf_242 : decode cX10_faultsOf 242 = .ok (.iadd, 1) := by decide +kernel
theorem dX10_faultsOf_243 : decode cX10_faultsOf 243 = .ok (.ireturn, 1) := by decide +kernel
theorem dX10_stretchesOf_0 : decode cX10_stretchesOf 0 = .ok (.aload_n 0, 1) := by decide +kernel
theorem dX10_stretchesOf_1 : decode cX10_stretchesOf 1 = .ok (.iconst 0, 1) := by decide +kernel
theorem dX10_stretchesOf_2 : decode cX10_stretchesOf 2 = .ok (.putfield 132, 3) := by decide +kernel
theorem dX10_stretchesOf_5 : decode cX10_stretchesOf 5 = .ok (.bipush (-9), 2) := by decide +kernel
theorem dX10_stretchesOf_7 : decode cX10_stretchesOf 7 = .ok (.istore 5, 2) := by decide +kernel
theorem dX10_stretchesOf_9 : decode cX10_stretchesOf 9 = .ok (.bipush (-9), 2) := by decide +kernel
theorem dX10_stretchesOf_11 : decode cX10_stretchesOf 11 = .ok (.istore 6, 2) := by decide +kernel
theorem dX10_stretchesOf_13 : decode cX10_stretchesOf 13 = .ok (.iconst 0, 1) := by decide +kernel
theorem dX10_stretchesOf_14 : decode cX10_stretchesOf 14 = .ok (.istore 7, 2) := by decide +kernel
theorem dX10_stretchesOf_16 : decode cX10_stretchesOf 16 = .ok (.iload 7, 2) := by decide +kernel
theorem dX10_stretchesOf_18 : decode cX10_stretchesOf 18 = .ok (.aload_n 0, 1) := by decide +kernel
theorem dX10_stretchesOf_19 : decode cX10_stretchesOf 19 = .ok (.getfield 7, 3) := by decide +kernel
theorem dX10_stretchesOf_22 : decode cX10_stretchesOf 22 = .ok (.iconst 0, 1) := by decide +kernel
theorem dX10_stretchesOf_23 : decode cX10_stretchesOf 23 = .ok (.iaload, 1) := by decide +kernel
theorem dX10_stretchesOf_24 : decode cX10_stretchesOf 24 = .ok (.if_icmp .gt 274, 3) := by decide +kernel
theorem dX10_stretchesOf_27 : decode cX10_stretchesOf 27 = .ok (.iload 7, 2) := by decide +kernel
theorem dX10_stretchesOf_29 : decode cX10_stretchesOf 29 = .ok (.aload_n 0, 1) := by decide +kernel
theorem dX10_stretchesOf_30 : decode cX10_stretchesOf 30 = .ok (.getfield 7, 3) := by decide +kernel
theorem dX10_stretchesOf_33 : decode cX10_stretchesOf 33 = .ok (.iconst 0, 1) := by decide +kernel
theorem dX10_stretchesOf_34 : decode cX10_stretchesOf 34 = .ok (.iaload, 1) := by decide +kernel
theorem dX10_stretchesOf_35 : decode cX10_stretchesOf 35 = .ok (.if_icmp .ge 22, 3) := by decide +kernel
theorem dX10_stretchesOf_38 : decode cX10_stretchesOf 38 = .ok (.aload_n 0, 1) := by decide +kernel
theorem dX10_stretchesOf_39 : decode cX10_stretchesOf 39 = .ok (.iload 7, 2) := by decide +kernel
theorem dX10_stretchesOf_41 : decode cX10_stretchesOf 41 = .ok (.invokevirtual 75, 3) := by decide +kernel
theorem dX10_stretchesOf_44 : decode cX10_stretchesOf 44 = .ok (.iload_n 1, 1) := by decide +kernel
theorem dX10_stretchesOf_45 : decode cX10_stretchesOf 45 = .ok (.if_icmp .le 12, 3) := by decide +kernel
theorem dX10_stretchesOf_48 : decode cX10_stretchesOf 48 = .ok (.aload_n 0, 1) := by decide +kernel
theorem dX10_stretchesOf_49 : decode cX10_stretchesOf 49 = .ok (.iload 7, 2) := by decide +kernel
theorem dX10_stretchesOf_51 : decode cX10_stretchesOf 51 = .ok (.invokevirtual 75, 3) := by decide +kernel
theorem dX10_stretchesOf_54 : decode cX10_stretchesOf 54 = .ok (.goto 4, 3) := by decide +kernel
theorem dX10_stretchesOf_57 : decode cX10_stretchesOf 57 = .ok (.iload_n 1, 1) := by decide +kernel
theorem dX10_stretchesOf_58 : decode cX10_stretchesOf 58 = .ok (.istore 8, 2) := by decide +kernel
theorem dX10_stretchesOf_60 : decode cX10_stretchesOf 60 = .ok (.iload 7, 2) := by decide +kernel
theorem dX10_stretchesOf_62 : decode cX10_stretchesOf 62 = .ok (.aload_n 0, 1) := by decide +kernel
theorem dX10_stretchesOf_63 : decode cX10_stretchesOf 63 = .ok (.getfield 7, 3) := by decide +kernel
theorem dX10_stretchesOf_66 : decode cX10_stretchesOf 66 = .ok (.iconst 0, 1) := by decide +kernel
theorem dX10_stretchesOf_67 : decode cX10_stretchesOf 67 = .ok (.iaload, 1) := by decide +kernel
theorem dX10_stretchesOf_68 : decode cX10_stretchesOf 68 = .ok (.if_icmp .ge 36, 3) := by decide +kernel
theorem dX10_stretchesOf_71 : decode cX10_stretchesOf 71 = .ok (.aload_n 0, 1) := by decide +kernel
theorem dX10_stretchesOf_72 : decode cX10_stretchesOf 72 = .ok (.iload 7, 2) := by decide +kernel
theorem dX10_stretchesOf_74 : decode cX10_stretchesOf 74 = .ok (.invokevirtual 75, 3) := by decide +kernel
theorem dX10_stretchesOf_77 : decode cX10_stretchesOf 77 = .ok (.aload_n 0, 1) := by decide +kernel
theorem dX10_stretchesOf_78 : decode cX10_stretchesOf 78 = .ok (.iload 7, 2) := by decide +kernel
theorem dX10_stretchesOf_80 : decode cX10_stretchesOf 80 = .ok (.invokevirtual 53, 3) := by decide +kernel
theorem dX10_stretchesOf_83 : decode cX10_stretchesOf 83 = .ok (.iadd, 1) := by decide +kernel
theorem dX10_stretchesOf_84 : decode cX10_stretchesOf 84 = .ok (.iload_n 2, 1) := by decide +kernel
theorem dX10_stretchesOf_85 : decode cX10_stretchesOf 85 = .ok (.if_icmp .ge 19, 3) := by decide +kernel
theorem dX10_stretchesOf_88 : decode cX10_stretchesOf 88 = .ok (.aload_n 0, 1) := by decide +kernel
theorem dX10_stretchesOf_89 : decode cX10_stretchesOf 89 = .ok (.iload 7, 2) := by decide +kernel
theorem dX10_stretchesOf_91 : decode cX10_stretchesOf 91 = .ok (.invokevirtual 75, 3) := by decide +kernel
theorem dX10_stretchesOf_94 : decode cX10_stretchesOf 94 = .ok (.aload_n 0, 1) := by decide +kernel
theorem dX10_stretchesOf_95 : decode cX10_stretchesOf 95 = .ok (.iload 7, 2) := by decide +kernel
theorem dX10_stretchesOf_97 : decode cX10_stretchesOf 97 = .ok (.invokevirtual 53, 3) := by decide +kernel
theorem dX10_stretchesOf_100 : decode cX10_stretchesOf 100 = .ok (.iadd, 1) := by decide +kernel
theorem dX10_stretchesOf_101 : decode cX10_stretchesOf 101 = .ok (.goto 4, 3) := by decide +kernel
theorem dX10_stretchesOf_104 : decode cX10_stretchesOf 104 = .ok (.iload_n 2, 1) := by decide +kernel
theorem dX10_stretchesOf_105 : decode cX10_stretchesOf 105 = .ok (.istore 9, 2) := by decide +kernel
theorem dX10_stretchesOf_107 : decode cX10_stretchesOf 107 = .ok (.iload 7, 2) := by decide +kernel
theorem dX10_stretchesOf_109 : decode cX10_stretchesOf 109 = .ok (.aload_n 0, 1) := by decide +kernel
theorem dX10_stretchesOf_110 : decode cX10_stretchesOf 110 = .ok (.getfield 7, 3) := by decide +kernel
theorem dX10_stretchesOf_113 : decode cX10_stretchesOf 113 = .ok (.iconst 0, 1) := by decide +kernel
theorem dX10_stretchesOf_114 : decode cX10_stretchesOf 114 = .ok (.iaload, 1) := by decide +kernel
theorem dX10_stretchesOf_115 : decode cX10_stretchesOf 115 = .ok (.if_icmp .ge 16, 3) := by decide +kernel
theorem dX10_stretchesOf_118 : decode cX10_stretchesOf 118 = .ok (.iload 9, 2) := by decide +kernel
theorem dX10_stretchesOf_120 : decode cX10_stretchesOf 120 = .ok (.iload 8, 2) := by decide +kernel
theorem dX10_stretchesOf_122 : decode cX10_stretchesOf 122 = .ok (.isub, 1) := by decide +kernel
theorem dX10_stretchesOf_123 : decode cX10_stretchesOf 123 = .ok (.iconst 4, 1) := by decide +kernel
theorem dX10_stretchesOf_124 : decode cX10_stretchesOf 124 = .ok (.if_icmp .lt 7, 3) := by decide +kernel
theorem dX10_stretchesOf_127 : decode cX10_stretchesOf 127 = .ok (.iconst 1, 1) := by decide +kernel
theorem dX10_stretchesOf_128 : decode cX10_stretchesOf 128 = .ok (.goto 4, 3) := by decide +kernel
theorem dX10_stretchesOf_131 : decode cX10_stretchesOf 131 = .ok (.iconst 0, 1) := by decide +kernel
theorem dX10_stretchesOf_132 : decode cX10_stretchesOf 132 = .ok (.istore 10, 2) := by decide +kernel
theorem dX10_stretchesOf_134 : decode cX10_stretchesOf 134 = .ok (.iload 10, 2) := by decide +kernel
theorem dX10_stretchesOf_136 : decode cX10_stretchesOf 136 = .ok (.ifCond .eq 22, 3) := by decide +kernel
theorem dX10_stretchesOf_139 : decode cX10_stretchesOf 139 = .ok (.aload_n 0, 1) := by decide +kernel
theorem dX10_stretchesOf_140 : decode cX10_stretchesOf 140 = .ok (.iload 7, 2) := by decide +kernel
theorem dX10_stretchesOf_142 : decode cX10_stretchesOf 142 = .ok (.invokevirtual 57, 3) := by decide +kernel
theorem dX10_stretchesOf_145 : decode cX10_stretchesOf 145 = .ok (.iload 8, 2) := by decide +kernel
theorem dX10_stretchesOf_147 : decode cX10_stretchesOf 147 = .ok (.iadd, 1) := by decide +kernel
theorem dX10_stretchesOf_148 : decode cX10_stretchesOf 148 = .ok (.aload_n 0, 1) := by decide +kernel
theorem dX10_stretchesOf_149 : decode cX10_stretchesOf 149 = .ok (.iload 7, 2) := by decide +kernel
theorem dX10_stretchesOf_151 : decode cX10_stretchesOf 151 = .ok (.invokevirtual 75, 3) := by decide +kernel
theorem dX10_stretchesOf_154 : decode cX10_stretchesOf 154 = .ok (.isub, 1) := by decide +kernel
theorem dX10_stretchesOf_155 : decode cX10_stretchesOf 155 = .ok (.goto 5, 3) := by decide +kernel
theorem dX10_stretchesOf_158 : decode cX10_stretchesOf 158 = .ok (.bipush (-9), 2) := by decide +kernel
theorem dX10_stretchesOf_160 : decode cX10_stretchesOf 160 = .ok (.istore 11, 2) := by decide +kernel
theorem dX10_stretchesOf_162 : decode cX10_stretchesOf 162 = .ok (.iload 10, 2) := by decide +kernel
theorem dX10_stretchesOf_164 : decode cX10_stretchesOf 164 = .ok (.ifCond .eq 23, 3) := by decide +kernel
theorem dX10_stretchesOf_167 : decode cX10_stretchesOf 167 = .ok (.iload 11, 2) := by decide +kernel
theorem dX10_stretchesOf_169 : decode cX10_stretchesOf 169 = .ok (.iload 6, 2) := by decide +kernel
theorem dX10_stretchesOf_171 : decode cX10_stretchesOf 171 = .ok (.if_icmp .ne 16, 3) := by decide +kernel
theorem dX10_stretchesOf_174 : decode cX10_stretchesOf 174 = .ok (.iload 11, 2) := by decide +kernel
theorem dX10_stretchesOf_176 : decode cX10_stretchesOf 176 = .ok (.iload 9, 2) := by decide +kernel
theorem dX10_stretchesOf_178 : decode cX10_stretchesOf 178 = .ok (.iadd, 1) := by decide +kernel
theorem dX10_stretchesOf_179 : decode cX10_stretchesOf 179 = .ok (.iload 8, 2) := by decide +kernel
theorem dX10_stretchesOf_181 : decode cX10_stretchesOf 181 = .ok (.isub, 1) := by decide +kernel
theorem dX10_stretchesOf_182 : decode cX10_stretchesOf 182 = .ok (.istore 6, 2) := by decide +kernel
theorem dX10_stretchesOf_184 : decode cX10_stretchesOf 184 = .ok (.goto 108, 3) := by decide +kernel
theorem dX10_stretchesOf_187 : decode cX10_stretchesOf 187 = .ok (.iload 10, 2) := by decide +kernel
theorem dX10_stretchesOf_189 : decode cX10_stretchesOf 189 = .ok (.ifCond .ne 14, 3) := by decide +kernel
theorem dX10_stretchesOf_192 : decode cX10_stretchesOf 192 = .ok (.iload 7, 2) := by decide +kernel
theorem dX10_stretchesOf_194 : decode cX10_stretchesOf 194 = .ok (.aload_n 0, 1) := by decide +kernel
theorem dX10_stretchesOf_195 : decode cX10_stretchesOf 195 = .ok (.getfield 7, 3) := by decide +kernel
theorem dX10_stretchesOf_198 : decode cX10_stretchesOf 198 = .ok (.iconst 0, 1) := by decide +kernel
theorem dX10_stretchesOf_199 : decode cX10_stretchesOf 199 = .ok (.iaload, 1) := by decide +kernel
theorem dX10_stretchesOf_200 : decode cX10_stretchesOf 200 = .ok (.if_icmp .ne 92, 3) := by decide +kernel
theorem dX10_stretchesOf_203 : decode cX10_stretchesOf 203 = .ok (.iload 5, 2) := by decide +kernel
theorem dX10_stretchesOf_205 : decode cX10_stretchesOf 205 = .ok (.bipush (-9), 2) := by decide +kernel
theorem dX10_stretchesOf_207 : decode cX10_stretchesOf 207 = .ok (.if_icmp .eq 19, 3) := by decide +kernel
theorem dX10_stretchesOf_210 : decode cX10_stretchesOf 210 = .ok (.iload 4, 2) := by decide +kernel
theorem dX10_stretchesOf_212 : decode cX10_stretchesOf 212 = .ok (.ifCond .eq 14, 3) := by decide +kernel
theorem dX10_stretchesOf_215 : decode cX10_stretchesOf 215 = .ok (.aload_n 0, 1) := by decide +kernel
theorem dX10_stretchesOf_216 : decode cX10_stretchesOf 216 = .ok (.getfield 84, 3) := by decide +kernel
theorem dX10_stretchesOf_219 : decode cX10_stretchesOf 219 = .ok (.bipush 16, 2) := by decide +kernel
theorem dX10_stretchesOf_221 : decode cX10_stretchesOf 221 = .ok (.if_icmp .ne 5, 3) := by decide +kernel
theorem dX10_stretchesOf_224 : decode cX10_stretchesOf 224 = .ok (.iconst 0, 1) := by decide +kernel
theorem dX10_stretchesOf_225 : decode cX10_stretchesOf 225 = .ok (.ireturn, 1) := by decide +kernel
theorem dX10_stretchesOf_226 : decode cX10_stretchesOf 226 = .ok (.iload 5, 2) := by decide +kernel
theorem dX10_stretchesOf_228 : decode cX10_stretchesOf 228 = .ok (.bipush (-9), 2) := by decide +kernel
theorem dX10_stretchesOf_230 : decode cX10_stretchesOf 230 = .ok (.if_icmp .eq 17, 3) := by decide +kernel
theorem dX10_stretchesOf_233 : decode cX10_stretchesOf 233 = .ok (.iload 4, 2) := by decide +kernel
theorem dX10_stretchesOf_235 : decode cX10_stretchesOf 235 = .ok (.ifCond .eq 12, 3) := by decide +kernel
theorem dX10_stretchesOf_238 : decode cX10_stretchesOf 238 = .ok (.aload_n 0, 1) := by decide +kernel
theorem dX10_stretchesOf_239 : decode cX10_stretchesOf 239 = .ok (.iload 5, 2) := by decide +kernel
theorem dX10_stretchesOf_241 : decode cX10_stretchesOf 241 = .ok (.iload 6, 2) := by decide +kernel
theorem dX10_stretchesOf_243 : decode cX10_stretchesOf 243 = .ok (.iload_n 3, 1) := by decide +kernel
theorem dX10_stretchesOf_244 : decode cX10_stretchesOf 244 = .ok (.invokevirtual 135, 3) := by decide +kernel
theorem dX10_stretchesOf_247 : decode cX10_stretchesOf 247 = .ok (.aload_n 0, 1) := by decide +kernel
theorem dX10_stretchesOf_248 : decode cX10_stretchesOf 248 = .ok (.dup, 1) := by decide +kernel
theorem dX10_stretchesOf_249 : decode cX10_stretchesOf 249 = .ok (.getfield 132, 3) := by decide +kernel
theorem dX10_stretchesOf_252 : decode cX10_stretchesOf 252 = .ok (.iload 5, 2) := by decide +kernel
theorem dX10_stretchesOf_254 : decode cX10_stretchesOf 254 = .ok (.bipush (-9), 2) := by decide +kernel
theorem dX10_stretchesOf_256 : decode cX10_stretchesOf 256 = .ok (.if_icmp .eq 7, 3) := by decide +kernel
theorem dX10_stretchesOf_259 : decode cX10_stretchesOf 259 = .ok (.iconst 1, 1) := by decide +kernel
theorem dX10_stretchesOf_260 : decode cX10_stretchesOf 260 = .ok (.goto 4, 3) := by decide +kernel
theorem dX10_stretchesOf_263 : decode cX10_stretchesOf 263 = .ok (.iconst 0, 1) := by decide +kernel
theorem dX10_stretchesOf_264 : decode cX10_stretchesOf 264 = .ok (.iadd, 1) := by decide +kernel
theorem dX10_stretchesOf_265 : decode cX10_stretchesOf 265 = .ok (.putfield 132, 3) := by decide +kernel
theorem dX10_stretchesOf_268 : decode cX10_stretchesOf 268 = .ok (.iload 11, 2) := by decide +kernel
theorem dX10_stretchesOf_270 : decode cX10_stretchesOf 270 = .ok (.istore 5, 2) := by decide +kernel
theorem dX10_stretchesOf_272 : decode cX10_stretchesOf 272 = .ok (.iload 10, 2) := by decide +kernel
theorem dX10_stretchesOf_274 : decode cX10_stretchesOf 274 = .ok (.ifCond .eq 14, 3) := by decide +kernel
theorem dX10_stretchesOf_277 : decode cX10_stretchesOf 277 = .ok (.iload 11, 2) := by decide +kernel
theorem dX10_stretchesOf_279 : decode cX10_stretchesOf 279 = .ok (.iload 9, 2) := by decide +kernel
theorem dX10_stretchesOf_281 : decode cX10_stretchesOf 281 = .ok (.iadd, 1) := by decide +kernel
theorem dX10_stretchesOf_282 : decode cX10_stretchesOf 282 = .ok (.iload 8, 2) := by decide +kernel
theorem dX10_stretchesOf_284 : decode cX10_stretchesOf 284 = .ok (.isub, 1) := by decide +kernel
theorem dX10_stretchesOf_285 : decode cX10_stretchesOf 285 = .ok (.goto 5, 3) := by decide +kernel
theorem dX10_stretchesOf_288 : decode cX10_stretchesOf 288 = .ok (.bipush (-9), 2) := by decide +kernel
theorem dX10_stretchesOf_290 : decode cX10_stretchesOf 290 = .ok (.istore 6, 2) := by decide +kernel
theorem dX10_stretchesOf_292 : decode cX10_stretchesOf 292 = .ok (.iinc 7 1, 3) := by decide +kernel
theorem dX10_stretchesOf_295 : decode cX10_stretchesOf 295 = .ok (.goto (-279), 3) := by decide +kernel
theorem dX10_stretchesOf_298 : decode cX10_stretchesOf 298 = .ok (.iconst 1, 1) := by decide +kernel
theorem dX10_stretchesOf_299 : decode cX10_stretchesOf 299 = .ok (.ireturn, 1) := by decide +kernel
theorem dX10_maps_0 : decode cX10_maps 0 = .ok (.aload_n 0, 1) := by decide +kernel
theorem dX10_maps_1 : decode cX10_maps 1 = .ok (.getfield 84, 3) := by decide +kernel
theorem dX10_maps_4 : decode cX10_maps 4 = .ok (.istore_n 1, 1) := by decide +kernel
theorem dX10_maps_5 : decode cX10_maps 5 = .ok (.aload_n 0, 1) := by decide +kernel
theorem dX10_maps_6 : decode cX10_maps 6 = .ok (.invokevirtual 139, 3) := by decide +kernel
theorem dX10_maps_9 : decode cX10_maps 9 = .ok (.aload_n 0, 1) := by decide +kernel
theorem dX10_maps_10 : decode cX10_maps 10 = .ok (.iconst 0, 1) := by decide +kernel
theorem dX10_maps_11 : decode cX10_maps 11 = .ok (.putfield 142, 3) := by decide +kernel
theorem dX10_maps_14 : decode cX10_maps 14 = .ok (.iconst 0, 1) := by decide +kernel
theorem dX10_maps_15 : decode cX10_maps 15 = .ok (.istore_n 2, 1) := by decide +kernel
theorem dX10_maps_16 : decode cX10_maps 16 = .ok (.iload_n 2, 1) := by decide +kernel
theorem dX10_maps_17 : decode cX10_maps 17 = .ok (.iload_n 1, 1) := by decide +kernel
theorem dX10_maps_18 : decode cX10_maps 18 = .ok (.if_icmp .ge 53, 3) := by decide +kernel
theorem dX10_maps_21 : decode cX10_maps 21 = .ok (.aload_n 0, 1) := by decide +kernel
theorem dX10_maps_22 : decode cX10_maps 22 = .ok (.aload_n 0, 1) := by decide +kernel
theorem dX10_maps_23 : decode cX10_maps 23 = .ok (.getfield 31, 3) := by decide +kernel
theorem dX10_maps_26 : decode cX10_maps 26 = .ok (.iload_n 2, 1) := by decide +kernel
theorem dX10_maps_27 : decode cX10_maps 27 = .ok (.iaload, 1) := by decide +kernel
theorem dX10_maps_28 : decode cX10_maps 28 = .ok (.aload_n 0, 1) := by decide +kernel
theorem dX10_maps_29 : decode cX10_maps 29 = .ok (.getfield 34, 3) := by decide +kernel
theorem dX10_maps_32 : decode cX10_maps 32 = .ok (.iload_n 2, 1) := by decide +kernel
theorem dX10_maps_33 : decode cX10_maps 33 = .ok (.iaload, 1) := by decide +kernel
theorem dX10_maps_34 : decode cX10_maps 34 = .ok (.iload_n 2, 1) := by decide +kernel
theorem dX10_maps_35 : decode cX10_maps 35 = .ok (.iconst 1, 1) := by decide +kernel
theorem dX10_maps_36 : decode cX10_maps 36 = .ok (.invokevirtual 145, 3) := by decide +kernel
theorem dX10_maps_39 : decode cX10_maps 39 = .ok (.ifCond .ne 5, 3) := by decide +kernel
theorem dX10_maps_42 : decode cX10_maps 42 = .ok (.iconst 0, 1) := by decide +kernel
theorem dX10_maps_43 : decode cX10_maps 43 = .ok (.ireturn, 1) := by decide +kernel
theorem dX10_maps_44 : decode cX10_maps 44 = .ok (.aload_n 0, 1) := by decide +kernel
theorem dX10_maps_45 : decode cX10_maps 45 = .ok (.dup, 1) := by decide +kernel
theorem dX10_maps_46 : decode cX10_maps 46 = .ok (.getfield 142, 3) := by decide +kernel
theorem dX10_maps_49 : decode cX10_maps 49 = .ok (.aload_n 0, 1) := by decide +kernel
theorem dX10_maps_50 : decode cX10_maps 50 = .ok (.getfield 132, 3) := by decide +kernel
theorem dX10_maps_53 : decode cX10_maps 53 = .ok (.ifCond .ne 7, 3) := by decide +kernel
theorem dX10_maps_56 : decode cX10_maps 56 = .ok (.iconst 1, 1) := by decide +kernel
theorem dX10_maps_57 : decode cX10_maps 57 = .ok (.goto 4, 3) := by decide +kernel
theorem dX10_maps_60 : decode cX10_maps 60 = .ok (.iconst 0, 1) := by decide +kernel
theorem dX10_maps_61 : decode cX10_maps 61 = .ok (.iadd, 1) := by decide +kernel
theorem dX10_maps_62 : decode cX10_maps 62 = .ok (.putfield 142, 3) := by decide +kernel
theorem dX10_maps_65 : decode cX10_maps 65 = .ok (.iinc 2 1, 3) := by decide +kernel
theorem dX10_maps_68 : decode cX10_maps 68 = .ok (.goto (-52), 3) := by decide +kernel
theorem dX10_maps_71 : decode cX10_maps 71 = .ok (.iconst 1, 1) := by decide +kernel
theorem dX10_maps_72 : decode cX10_maps 72 = .ok (.ireturn, 1) := by decide +kernel
theorem dX10_speakerOf_0 : decode cX10_speakerOf 0 = .ok (.aload_n 0, 1) := by decide +kernel
theorem dX10_speakerOf_1 : decode cX10_speakerOf 1 = .ok (.getfield 7, 3) := by decide +kernel
theorem dX10_speakerOf_4 : decode cX10_speakerOf 4 = .ok (.aload_n 0, 1) := by decide +kernel
theorem dX10_speakerOf_5 : decode cX10_speakerOf 5 = .ok (.iload_n 1, 1) := by decide +kernel
theorem dX10_speakerOf_6 : decode cX10_speakerOf 6 = .ok (.invokevirtual 91, 3) := by decide +kernel
theorem dX10_speakerOf_9 : decode cX10_speakerOf 9 = .ok (.iaload, 1) := by decide +kernel
theorem dX10_speakerOf_10 : decode cX10_speakerOf 10 = .ok (.ireturn, 1) := by decide +kernel
theorem dX10_areOne_0 : decode cX10_areOne 0 = .ok (.iload_n 1, 1) := by decide +kernel
theorem dX10_areOne_1 : decode cX10_areOne 1 = .ok (.iconst 1, 1) := by decide +kernel
theorem dX10_areOne_2 : decode cX10_areOne 2 = .ok (.iadd, 1) := by decide +kernel
theorem dX10_areOne_3 : decode cX10_areOne 3 = .ok (.istore_n 2, 1) := by decide +kernel
theorem dX10_areOne_4 : decode cX10_areOne 4 = .ok (.aload_n 0, 1) := by decide +kernel
theorem dX10_areOne_5 : decode cX10_areOne 5 = .ok (.getfield 22, 3) := by decide +kernel
theorem dX10_areOne_8 : decode cX10_areOne 8 = .ok (.iload_n 1, 1) := by decide +kernel
theorem dX10_areOne_9 : decode cX10_areOne 9 = .ok (.iaload, 1) := by decide +kernel
theorem dX10_areOne_10 : decode cX10_areOne 10 = .ok (.iconst 1, 1) := by decide +kernel
theorem dX10_areOne_11 : decode cX10_areOne 11 = .ok (.if_icmp .ne 36, 3) := by decide +kernel
theorem dX10_areOne_14 : decode cX10_areOne 14 = .ok (.aload_n 0, 1) := by decide +kernel
theorem dX10_areOne_15 : decode cX10_areOne 15 = .ok (.getfield 22, 3) := by decide +kernel
theorem dX10_areOne_18 : decode cX10_areOne 18 = .ok (.iload_n 2, 1) := by decide +kernel
theorem dX10_areOne_19 : decode cX10_areOne 19 = .ok (.iaload, 1) := by decide +kernel
theorem dX10_areOne_20 : decode cX10_areOne 20 = .ok (.iconst 1, 1) := by decide +kernel
theorem dX10_areOne_21 : decode cX10_areOne 21 = .ok (.if_icmp .ne 26, 3) := by decide +kernel
theorem dX10_areOne_24 : decode cX10_areOne 24 = .ok (.aload_n 0, 1) := by decide +kernel
theorem dX10_areOne_25 : decode cX10_areOne 25 = .ok (.aload_n 0, 1) := by decide +kernel
theorem dX10_areOne_26 : decode cX10_areOne 26 = .ok (.getfield 25, 3) := by decide +kernel
theorem dX10_areOne_29 : decode cX10_areOne 29 = .ok (.iload_n 1, 1) := by decide +kernel
theorem dX10_areOne_30 : decode cX10_areOne 30 = .ok (.iaload, 1) := by decide +kernel
theorem dX10_areOne_31 : decode cX10_areOne 31 = .ok (.invokevirtual 149, 3) := by decide +kernel
theorem dX10_areOne_34 : decode cX10_areOne 34 = .ok (.aload_n 0, 1) := by decide +kernel
theorem dX10_areOne_35 : decode cX10_areOne 35 = .ok (.aload_n 0, 1) := by decide +kernel
theorem dX10_areOne_36 : decode cX10_areOne 36 = .ok (.getfield 25, 3) := by decide +kernel
theorem dX10_areOne_39 : decode cX10_areOne 39 = .ok (.iload_n 2, 1) := by decide +kernel
theorem dX10_areOne_40 : decode cX10_areOne 40 = .ok (.iaload, 1) := by decide +kernel
theorem dX10_areOne_41 : decode cX10_areOne 41 = .ok (.invokevirtual 149, 3) := by decide +kernel
theorem dX10_areOne_44 : decode cX10_areOne 44 = .ok (.if_icmp .ne 5, 3) := by decide +kernel
theorem dX10_areOne_47 : decode cX10_areOne 47 = .ok (.iconst 0, 1) := by decide +kernel
theorem dX10_areOne_48 : decode cX10_areOne 48 = .ok (.ireturn, 1) := by decide +kernel
theorem dX10_areOne_49 : decode cX10_areOne 49 = .ok (.aload_n 0, 1) := by decide +kernel
theorem dX10_areOne_50 : decode cX10_areOne 50 = .ok (.getfield 19, 3) := by decide +kernel
theorem dX10_areOne_53 : decode cX10_areOne 53 = .ok (.iload_n 1, 1) := by decide +kernel
theorem dX10_areOne_54 : decode cX10_areOne 54 = .ok (.iaload, 1) := by decide +kernel
theorem dX10_areOne_55 : decode cX10_areOne 55 = .ok (.aload_n 0, 1) := by decide +kernel
theorem dX10_areOne_56 : decode cX10_areOne 56 = .ok (.getfield 19, 3) := by decide +kernel
theorem dX10_areOne_59 : decode cX10_areOne 59 = .ok (.iload_n 2, 1) := by decide +kernel
theorem dX10_areOne_60 : decode cX10_areOne 60 = .ok (.iaload, 1) := by decide +kernel
theorem dX10_areOne_61 : decode cX10_areOne 61 = .ok (.if_icmp .ge 12, 3) := by decide +kernel
theorem dX10_areOne_64 : decode cX10_areOne 64 = .ok (.aload_n 0, 1) := by decide +kernel
theorem dX10_areOne_65 : decode cX10_areOne 65 = .ok (.getfield 19, 3) := by decide +kernel
theorem dX10_areOne_68 : decode cX10_areOne 68 = .ok (.iload_n 1, 1) := by decide +kernel
theorem dX10_areOne_69 : decode cX10_areOne 69 = .ok (.iaload, 1) := by decide +kernel
theorem dX10_areOne_70 : decode cX10_areOne 70 = .ok (.goto 9, 3) := by decide +kernel
theorem dX10_areOne_73 : decode cX10_areOne 73 = .ok (.aload_n 0, 1) := by decide +kernel
theorem dX10_areOne_74 : decode cX10_areOne 74 = .ok (.getfield 19, 3) := by decide +kernel
theorem dX10_areOne_77 : decode cX10_areOne 77 = .ok (.iload_n 2, 1) := by decide +kernel
theorem dX10_areOne_78 : decode cX10_areOne 78 = .ok (.iaload, 1) := by decide +kernel
theorem dX10_areOne_79 : decode cX10_areOne 79 = .ok (.aload_n 0, 1) := by decide +kernel
theorem dX10_areOne_80 : decode cX10_areOne 80 = .ok (.getfield 16, 3) := by decide +kernel
theorem dX10_areOne_83 : decode cX10_areOne 83 = .ok (.iload_n 2, 1) := by decide +kernel
theorem dX10_areOne_84 : decode cX10_areOne 84 = .ok (.iaload, 1) := by decide +kernel
theorem dX10_areOne_85 : decode cX10_areOne 85 = .ok (.isub, 1) := by decide +kernel
theorem dX10_areOne_86 : decode cX10_areOne 86 = .ok (.istore_n 3, 1) := by decide +kernel
theorem dX10_areOne_87 : decode cX10_areOne 87 = .ok (.aload_n 0, 1) := by decide +kernel
theorem dX10_areOne_88 : decode cX10_areOne 88 = .ok (.getfield 19, 3) := by decide +kernel
theorem dX10_areOne_91 : decode cX10_areOne 91 = .ok (.iload_n 1, 1) := by decide +kernel
theorem dX10_areOne_92 : decode cX10_areOne 92 = .ok (.iaload, 1) := by decide +kernel
theorem dX10_areOne_93 : decode cX10_areOne 93 = .ok (.aload_n 0, 1) := by decide +kernel
theorem dX10_areOne_94 : decode cX10_areOne 94 = .ok (.getfield 16, 3) := by decide +kernel
theorem dX10_areOne_97 : decode cX10_areOne 97 = .ok (.iload_n 1, 1) := by decide +kernel
theorem dX10_areOne_98 : decode cX10_areOne 98 = .ok (.iaload, 1) := by decide +kernel
theorem dX10_areOne_99 : decode cX10_areOne 99 = .ok (.isub, 1) := by decide +kernel
theorem dX10_areOne_100 : decode cX10_areOne 100 = .ok (.istore 4, 2) := by decide +kernel
theorem dX10_areOne_102 : decode cX10_areOne 102 = .ok (.aload_n 0, 1) := by decide +kernel
theorem dX10_areOne_103 : decode cX10_areOne 103 = .ok (.getfield 19, 3) := by decide +kernel
theorem dX10_areOne_106 : decode cX10_areOne 106 = .ok (.iload_n 2, 1) := by decide +kernel
theorem dX10_areOne_107 : decode cX10_areOne 107 = .ok (.iaload, 1) := by decide +kernel
theorem dX10_areOne_108 : decode cX10_areOne 108 = .ok (.aload_n 0, 1) := by decide +kernel
theorem dX10_areOne_109 : decode cX10_areOne 109 = .ok (.getfield 16, 3) := by decide +kernel
theorem dX10_areOne_112 : decode cX10_areOne 112 = .ok (.iload_n 2, 1) := by decide +kernel
theorem dX10_areOne_113 : decode cX10_areOne 113 = .ok (.iaload, 1) := by decide +kernel
theorem dX10_areOne_114 : decode cX10_areOne 114 = .ok (.isub, 1) := by decide +kernel
theorem dX10_areOne_115 : decode cX10_areOne 115 = .ok (.istore 5, 2) := by decide +kernel
theorem dX10_areOne_117 : decode cX10_areOne 117 = .ok (.iload_n 3, 1) := by decide +kernel
theorem dX10_areOne_118 : decode cX10_areOne 118 = .ok (.ifCond .le 27, 3) := by decide +kernel
theorem dX10_areOne_121 : decode cX10_areOne 121 = .ok (.iconst 2, 1) := by decide +kernel
theorem dX10_areOne_122 : decode cX10_areOne 122 = .ok (.iload_n 3, 1) := by decide +kernel
theorem dX10_areOne_123 : decode cX10_areOne 123 = .ok (.imul, 1) := by decide +kernel
theorem dX10_areOne_124 : decode cX10_areOne 124 = .ok (.iload 4, 2) := by decide +kernel
theorem dX10_areOne_126 : decode cX10_areOne 126 = .ok (.iload 5, 2) := by decide +kernel
theorem dX10_areOne_128 : decode cX10_areOne 128 = .ok (.if_icmp .ge 8, 3) := by decide +kernel
theorem dX10_areOne_131 : decode cX10_areOne 131 = .ok (.iload 4, 2) := by decide +kernel
theorem dX10_areOne_133 : decode cX10_areOne 133 = .ok (.goto 5, 3) := by decide +kernel
theorem dX10_areOne_136 : decode cX10_areOne 136 = .ok (.iload 5, 2) := by decide +kernel
theorem dX10_areOne_138 : decode cX10_areOne 138 = .ok (.if_icmp .lt 7, 3) := by decide +kernel
theorem dX10_areOne_141 : decode cX10_areOne 141 = .ok (.iconst 1, 1) := by decide +kernel
theorem dX10_areOne_142 : decode cX10_areOne 142 = .ok (.goto 4, 3) := by decide +kernel
theorem dX10_areOne_145 : decode cX10_areOne 145 = .ok (.iconst 0, 1) := by decide +kernel
theorem dX10_areOne_146 : decode cX10_areOne 146 = .ok (.ireturn, 1) := by decide +kernel
theorem dX10_merges_0 : decode cX10_merges 0 = .ok (.iconst 0, 1) := by decide +kernel
theorem dX10_merges_1 : decode cX10_merges 1 = .ok (.istore_n 1, 1) := by decide +kernel
theorem dX10_merges_2 : decode cX10_merges 2 = .ok (.iload_n 1, 1) := by decide +kernel
theorem dX10_merges_3 : decode cX10_merges 3 = .ok (.iconst 1, 1) := by decide +kernel
theorem dX10_merges_4 : decode cX10_merges 4 = .ok (.iadd, 1) := by decide +kernel
theorem dX10_merges_5 : decode cX10_merges 5 = .ok (.aload_n 0, 1) := by decide +kernel
theorem dX10_merges_6 : decode cX10_merges 6 = .ok (.getfield 84, 3) := by decide +kernel
theorem dX10_merges_9 : decode cX10_merges 9 = .ok (.if_icmp .ge 176, 3) := by decide +kernel
theorem dX10_merges_12 : decode cX10_merges 12 = .ok (.aload_n 0, 1) := by decide +kernel
theorem dX10_merges_13 : decode cX10_merges 13 = .ok (.iload_n 1, 1) := by decide +kernel
theorem dX10_merges_14 : decode cX10_merges 14 = .ok (.invokevirtual 152, 3) := by decide +kernel
theorem dX10_merges_17 : decode cX10_merges 17 = .ok (.ifCond .eq 162, 3) := by decide +kernel
theorem dX10_merges_20 : decode cX10_merges 20 = .ok (.aload_n 0, 1) := by decide +kernel
theorem dX10_merges_21 : decode cX10_merges 21 = .ok (.getfield 22, 3) := by decide +kernel
theorem dX10_merges_24 : decode cX10_merges 24 = .ok (.iload_n 1, 1) := by decide +kernel
theorem dX10_merges_25 : decode cX10_merges 25 = .ok (.iconst 2, 1) := by decide +kernel
theorem dX10_merges_26 : decode cX10_merges 26 = .ok (.iastore, 1) := by decide +kernel
theorem dX10_merges_27 : decode cX10_merges 27 = .ok (.aload_n 0, 1) := by decide +kernel
theorem dX10_merges_28 : decode cX10_merges 28 = .ok (.getfield 28, 3) := by decide +kernel
theorem dX10_merges_31 : decode cX10_merges 31 = .ok (.iload_n 1, 1) := by decide +kernel
theorem dX10_merges_32 : decode cX10_merges 32 = .ok (.aload_n 0, 1) := by decide +kernel
theorem dX10_merges_33 : decode cX10_merges 33 = .ok (.getfield 25, 3) := by decide +kernel
theorem dX10_merges_36 : decode cX10_merges 36 = .ok (.iload_n 1, 1) := by decide +kernel
theorem dX10_merges_37 : decode cX10_merges 37 = .ok (.iconst 1, 1) := by decide +kernel
theorem dX10_merges_38 : decode cX10_merges 38 = .ok (.iadd, 1) := by decide +kernel
theorem dX10_merges_39 : decode cX10_merges 39 = .ok (.iaload, 1) := by decide +kernel
theorem dX10_merges_40 : decode cX10_merges 40 = .ok (.iastore, 1) := by decide +kernel
theorem dX10_merges_41 : decode cX10_merges 41 = .ok (.aload_n 0, 1) := by decide +kernel
theorem dX10_merges_42 : decode cX10_merges 42 = .ok (.getfield 19, 3) := by decide +kernel
theorem dX10_merges_45 : decode cX10_merges 45 = .ok (.iload_n 1, 1) := by decide +kernel
theorem dX10_merges_46 : decode cX10_merges 46 = .ok (.aload_n 0, 1) := by decide +kernel
theorem dX10_merges_47 : decode cX10_merges 47 = .ok (.getfield 19, 3) := by decide +kernel
theorem dX10_merges_50 : decode cX10_merges 50 = .ok (.iload_n 1, 1) := by decide +kernel
theorem dX10_merges_51 : decode cX10_merges 51 = .ok (.iaload, 1) := by decide +kernel
theorem dX10_merges_52 : decode cX10_merges 52 = .ok (.aload_n 0, 1) := by decide +kernel
theorem dX10_merges_53 : decode cX10_merges 53 = .ok (.getfield 19, 3) := by decide +kernel
theorem dX10_merges_56 : decode cX10_merges 56 = .ok (.iload_n 1, 1) := by decide +kernel
theorem dX10_merges_57 : decode cX10_merges 57 = .ok (.iconst 1, 1) := by decide +kernel
theorem dX10_merges_58 : decode cX10_merges 58 = .ok (.iadd, 1) := by decide +kernel
theorem dX10_merges_59 : decode cX10_merges 59 = .ok (.iaload, 1) := by decide +kernel
theorem dX10_merges_60 : decode cX10_merges 60 = .ok (.if_icmp .le 12, 3) := by decide +kernel
theorem dX10_merges_63 : decode cX10_merges 63 = .ok (.aload_n 0, 1) := by decide +kernel
theorem dX10_merges_64 : decode cX10_merges 64 = .ok (.getfield 19, 3) := by decide +kernel
theorem dX10_merges_67 : decode cX10_merges 67 = .ok (.iload_n 1, 1) := by decide +kernel
theorem dX10_merges_68 : decode cX10_merges 68 = .ok (.iaload, 1) := by decide +kernel
theorem dX10_merges_69 : decode cX10_merges 69 = .ok (.goto 11, 3) := by decide +kernel
theorem dX10_merges_72 : decode cX10_merges 72 = .ok (.aload_n 0, 1) := by decide +kernel
theorem dX10_merges_73 : decode cX10_merges 73 = .ok (.getfield 19, 3) := by decide +kernel
theorem dX10_merges_76 : decode cX10_merges 76 = .ok (.iload_n 1, 1) := by decide +kernel
theorem dX10_merges_77 : decode cX10_merges 77 = .ok (.iconst 1, 1) := by decide +kernel
theorem dX10_merges_78 : decode cX10_merges 78 = .ok (.iadd, 1) := by decide +kernel
theorem dX10_merges_79 : decode cX10_merges 79 = .ok (.iaload, 1) := by decide +kernel
theorem dX10_merges_80 : decode cX10_merges 80 = .ok (.iastore, 1) := by decide +kernel
theorem dX10_merges_81 : decode cX10_merges 81 = .ok (.aload_n 0, 1) := by decide +kernel
theorem dX10_merges_82 : decode cX10_merges 82 = .ok (.dup, 1) := by decide +kernel
theorem dX10_merges_83 : decode cX10_merges 83 = .ok (.getfield 84, 3) := by decide +kernel
theorem dX10_merges_86 : decode cX10_merges 86 = .ok (.iconst 1, 1) := by decide +kernel
theorem dX10_merges_87 : decode cX10_merges 87 = .ok (.isub, 1) := by decide +kernel
theorem dX10_merges_88 : decode cX10_merges 88 = .ok (.putfield 84, 3) := by decide +kernel
theorem dX10_merges_91 : decode cX10_merges 91 = .ok (.iload_n 1, 1) := by decide +kernel
theorem dX10_merges_92 : decode cX10_merges 92 = .ok (.iconst 1, 1) := by decide +kernel
theorem dX10_merges_93 : decode cX10_merges 93 = .ok (.iadd, 1) := by decide +kernel
theorem dX10_merges_94 : decode cX10_merges 94 = .ok (.istore_n 2, 1) := by decide +kernel
theorem dX10_merges_95 : decode cX10_merges 95 = .ok (.iload_n 2, 1) := by decide +kernel
theorem dX10_merges_96 : decode cX10_merges 96 = .ok (.aload_n 0, 1) := by decide +kernel
theorem dX10_merges_97 : decode cX10_merges 97 = .ok (.getfield 84, 3) := by decide +kernel
theorem dX10_merges_100 : decode cX10_merges 100 = .ok (.if_icmp .ge 79, 3) := by decide +kernel
theorem dX10_merges_103 : decode cX10_merges 103 = .ok (.aload_n 0, 1) := by decide +kernel
theorem dX10_merges_104 : decode cX10_merges 104 = .ok (.getfield 16, 3) := by decide +kernel
theorem dX10_merges_107 : decode cX10_merges 107 = .ok (.iload_n 2, 1) := by decide +kernel
theorem dX10_merges_108 : decode cX10_merges 108 = .ok (.aload_n 0, 1) := by decide +kernel
theorem dX10_merges_109 : decode cX10_merges 109 = .ok (.getfield 16, 3) := by decide +kernel
theorem dX10_merges_112 : decode cX10_merges 112 = .ok (.iload_n 2, 1) := by decide +kernel
theorem dX10_merges_113 : decode cX10_merges 113 = .ok (.iconst 1, 1) := by decide +kernel
theorem dX10_merges_114 : decode cX10_merges 114 = .ok (.iadd, 1) := by decide +kernel
theorem dX10_merges_115 : decode cX10_merges 115 = .ok (.iaload, 1) := by decide +kernel
theorem dX10_merges_116 : decode cX10_merges 116 = .ok (.iastore, 1) := by decide +kernel
theorem dX10_merges_117 : decode cX10_merges 117 = .ok (.aload_n 0, 1) := by decide +kernel
theorem dX10_merges_118 : decode cX10_merges 118 = .ok (.getfield 19, 3) := by decide +kernel
theorem dX10_merges_121 : decode cX10_merges 121 = .ok (.iload_n 2, 1) := by decide +kernel
theorem dX10_merges_122 : decode cX10_merges 122 = .ok (.aload_n 0, 1) := by decide +kernel
theorem dX10_merges_123 : decode cX10_merges 123 = .ok (.getfield 19, 3) := by decide +kernel
theorem dX10_merges_126 : decode cX10_merges 126 = .ok (.iload_n 2, 1) := by decide +kernel
theorem dX10_merges_127 : decode cX10_merges 127 = .ok (.iconst 1, 1) := by decide +kernel
theorem dX10_merges_128 : decode cX10_merges 128 = .ok (.iadd, 1) := by decide +kernel
theorem dX10_merges_129 : decode cX10_merges 129 = .ok (.iaload, 1) := by decide +kernel
theorem dX10_merges_130 : decode cX10_merges 130 = .ok (.iastore, 1) := by decide +kernel
theorem dX10_merges_131 : decode cX10_merges 131 = .ok (.aload_n 0, 1) := by decide +kernel
theorem dX10_merges_132 : decode cX10_merges 132 = .ok (.getfield 22, 3) := by decide +kernel
theorem dX10_merges_135 : decode cX10_merges 135 = .ok (.iload_n 2, 1) := by decide +kernel
theorem dX10_merges_136 : decode cX10_merges 136 = .ok (.aload_n 0, 1) := by decide +kernel
theorem dX10_merges_137 : decode cX10_merges 137 = .ok (.getfield 22, 3) := by decide +kernel
theorem dX10_merges_140 : decode cX10_merges 140 = .ok (.iload_n 2, 1) := by decide +kernel
theorem dX10_merges_141 : decode cX10_merges 141 = .ok (.iconst 1, 1) := by decide +kernel
theorem dX10_merges_142 : decode cX10_merges 142 = .ok (.iadd, 1) := by decide +kernel
theorem dX10_merges_143 : decode cX10_merges 143 = .ok (.iaload, 1) := by decide +kernel
theorem dX10_merges_144 : decode cX10_merges 144 = .ok (.iastore, 1) := by decide +kernel
theorem dX10_merges_145 : decode cX10_merges 145 = .ok (.aload_n 0, 1) := by decide +kernel
theorem dX10_merges_146 : decode cX10_merges 146 = .ok (.getfield 25, 3) := by decide +kernel
theorem dX10_merges_149 : decode cX10_merges 149 = .ok (.iload_n 2, 1) := by decide +kernel
theorem dX10_merges_150 : decode cX10_merges 150 = .ok (.aload_n 0, 1) := by decide +kernel
theorem dX10_merges_151 : decode cX10_merges 151 = .ok (.getfield 25, 3) := by decide +kernel
theorem dX10_merges_154 : decode cX10_merges 154 = .ok (.iload_n 2, 1) := by decide +kernel
theorem dX10_merges_155 : decode cX10_merges 155 = .ok (.iconst 1, 1) := by decide +kernel
theorem dX10_merges_156 : decode cX10_merges 156 = .ok (.iadd, 1) := by decide +kernel
theorem dX10_merges_157 : decode cX10_merges 157 = .ok (.iaload, 1) := by decide +kernel
theorem dX10_merges_158 : decode cX10_merges 158 = .ok (.iastore, 1) := by decide +kernel
theorem dX10_merges_159 : decode cX10_merges 159 = .ok (.aload_n 0, 1) := by decide +kernel
theorem dX10_merges_160 : decode cX10_merges 160 = .ok (.getfield 28, 3) := by decide +kernel
theorem dX10_merges_163 : decode cX10_merges 163 = .ok (.iload_n 2, 1) := by decide +kernel
theorem dX10_merges_164 : decode cX10_merges 164 = .ok (.aload_n 0, 1) := by decide +kernel
theorem dX10_merges_165 : decode cX10_merges 165 = .ok (.getfield 28, 3) := by decide +kernel
theorem dX10_merges_168 : decode cX10_merges 168 = .ok (.iload_n 2, 1) := by decide +kernel
theorem dX10_merges_169 : decode cX10_merges 169 = .ok (.iconst 1, 1) := by decide +kernel
theorem dX10_merges_170 : decode cX10_merges 170 = .ok (.iadd, 1) := by decide +kernel
theorem dX10_merges_171 : decode cX10_merges 171 = .ok (.iaload, 1) := by decide +kernel
theorem dX10_merges_172 : decode cX10_merges 172 = .ok (.iastore, 1) := by decide +kernel
theorem dX10_merges_173 : decode cX10_merges 173 = .ok (.iinc 2 1, 3) := by decide +kernel
theorem dX10_merges_176 : decode cX10_merges 176 = .ok (.goto (-81), 3) := by decide +kernel
theorem dX10_merges_179 : decode cX10_merges 179 = .ok (.iinc 1 1, 3) := by decide +kernel
theorem dX10_merges_182 : decode cX10_merges 182 = .ok (.goto (-180), 3) := by decide +kernel
theorem dX10_merges_185 : decode cX10_merges 185 = .ok (.return_, 1) := by decide +kernel
theorem dX10_reads_0 : decode cX10_reads 0 = .ok (.iconst 0, 1) := by decide +kernel
theorem dX10_reads_1 : decode cX10_reads 1 = .ok (.istore_n 1, 1) := by decide +kernel
theorem dX10_reads_2 : decode cX10_reads 2 = .ok (.iload_n 1, 1) := by decide +kernel
theorem dX10_reads_3 : decode cX10_reads 3 = .ok (.aload_n 0, 1) := by decide +kernel
theorem dX10_reads_4 : decode cX10_reads 4 = .ok (.getfield 84, 3) := by decide +kernel
theorem dX10_reads_7 : decode cX10_reads 7 = .ok (.if_icmp .ge 110, 3) := by decide +kernel
theorem dX10_reads_10 : decode cX10_reads 10 = .ok (.aload_n 0, 1) := by decide +kernel
theorem dX10_reads_11 : decode cX10_reads 11 = .ok (.getfield 16, 3) := by decide +kernel
theorem dX10_reads_14 : decode cX10_reads 14 = .ok (.iload_n 1, 1) := by decide +kernel
theorem dX10_reads_15 : decode cX10_reads 15 = .ok (.iaload, 1) := by decide +kernel
theorem dX10_reads_16 : decode cX10_reads 16 = .ok (.aload_n 0, 1) := by decide +kernel
theorem dX10_reads_17 : decode cX10_reads 17 = .ok (.iload_n 1, 1) := by decide +kernel
theorem dX10_reads_18 : decode cX10_reads 18 = .ok (.invokevirtual 123, 3) := by decide +kernel
theorem dX10_reads_21 : decode cX10_reads 21 = .ok (.iadd, 1) := by decide +kernel
theorem dX10_reads_22 : decode cX10_reads 22 = .ok (.istore_n 2, 1) := by decide +kernel
theorem dX10_reads_23 : decode cX10_reads 23 = .ok (.aload_n 0, 1) := by decide +kernel
theorem dX10_reads_24 : decode cX10_reads 24 = .ok (.iload_n 1, 1) := by decide +kernel
theorem dX10_reads_25 : decode cX10_reads 25 = .ok (.invokevirtual 120, 3) := by decide +kernel
theorem dX10_reads_28 : decode cX10_reads 28 = .ok (.istore_n 3, 1) := by decide +kernel
theorem dX10_reads_29 : decode cX10_reads 29 = .ok (.iload_n 2, 1) := by decide +kernel
theorem dX10_reads_30 : decode cX10_reads 30 = .ok (.aload_n 0, 1) := by decide +kernel
theorem dX10_reads_31 : decode cX10_reads 31 = .ok (.invokevirtual 64, 3) := by decide +kernel
theorem dX10_reads_34 : decode cX10_reads 34 = .ok (.if_icmp .le 10, 3) := by decide +kernel
theorem dX10_reads_37 : decode cX10_reads 37 = .ok (.aload_n 0, 1) := by decide +kernel
theorem dX10_reads_38 : decode cX10_reads 38 = .ok (.invokevirtual 64, 3) := by decide +kernel
theorem dX10_reads_41 : decode cX10_reads 41 = .ok (.goto 4, 3) := by decide +kernel
theorem dX10_reads_44 : decode cX10_reads 44 = .ok (.iload_n 2, 1) := by decide +kernel
theorem dX10_reads_45 : decode cX10_reads 45 = .ok (.istore_n 2, 1) := by decide +kernel
theorem dX10_reads_46 : decode cX10_reads 46 = .ok (.iload_n 3, 1) := by decide +kernel
theorem dX10_reads_47 : decode cX10_reads 47 = .ok (.bipush (-9), 2) := by decide +kernel
theorem dX10_reads_49 : decode cX10_reads 49 = .ok (.if_icmp .eq 34, 3) := by decide +kernel
theorem dX10_reads_52 : decode cX10_reads 52 = .ok (.iload_n 2, 1) := by decide +kernel
theorem dX10_reads_53 : decode cX10_reads 53 = .ok (.aload_n 0, 1) := by decide +kernel
theorem dX10_reads_54 : decode cX10_reads 54 = .ok (.getfield 16, 3) := by decide +kernel
theorem dX10_reads_57 : decode cX10_reads 57 = .ok (.iload_n 3, 1) := by decide +kernel
theorem dX10_reads_58 : decode cX10_reads 58 = .ok (.iaload, 1) := by decide +kernel
theorem dX10_reads_59 : decode cX10_reads 59 = .ok (.aload_n 0, 1) := by decide +kernel
theorem dX10_reads_60 : decode cX10_reads 60 = .ok (.iconst 2, 1) := by decide +kernel
theorem dX10_reads_61 : decode cX10_reads 61 = .ok (.invokevirtual 105, 3) := by decide +kernel
theorem dX10_reads_64 : decode cX10_reads 64 = .ok (.isub, 1) := by decide +kernel
theorem dX10_reads_65 : decode cX10_reads 65 = .ok (.if_icmp .le 18, 3) := by decide +kernel
theorem dX10_reads_68 : decode cX10_reads 68 = .ok (.aload_n 0, 1) := by decide +kernel
theorem dX10_reads_69 : decode cX10_reads 69 = .ok (.getfield 16, 3) := by decide +kernel
theorem dX10_reads_72 : decode cX10_reads 72 = .ok (.iload_n 3, 1) := by decide +kernel
theorem dX10_reads_73 : decode cX10_reads 73 = .ok (.iaload, 1) := by decide +kernel
theorem dX10_reads_74 : decode cX10_reads 74 = .ok (.aload_n 0, 1) := by decide +kernel
theorem dX10_reads_75 : decode cX10_reads 75 = .ok (.iconst 2, 1) := by decide +kernel
theorem dX10_reads_76 : decode cX10_reads 76 = .ok (.invokevirtual 105, 3) := by decide +kernel
theorem dX10_reads_79 : decode cX10_reads 79 = .ok (.isub, 1) := by decide +kernel
theorem dX10_reads_80 : decode cX10_reads 80 = .ok (.goto 4, 3) := by decide +kernel
theorem dX10_reads_83 : decode cX10_reads 83 = .ok (.iload_n 2, 1) := by decide +kernel
theorem dX10_reads_84 : decode cX10_reads 84 = .ok (.istore_n 2, 1) := by decide +kernel
theorem dX10_reads_85 : decode cX10_reads 85 = .ok (.aload_n 0, 1) := by decide +kernel
theorem dX10_reads_86 : decode cX10_reads 86 = .ok (.getfield 19, 3) := by decide +kernel
theorem dX10_reads_89 : decode cX10_reads 89 = .ok (.iload_n 1, 1) := by decide +kernel
theorem dX10_reads_90 : decode cX10_reads 90 = .ok (.iload_n 2, 1) := by decide +kernel
theorem dX10_reads_91 : decode cX10_reads 91 = .ok (.aload_n 0, 1) := by decide +kernel
theorem dX10_reads_92 : decode cX10_reads 92 = .ok (.getfield 19, 3) := by decide +kernel
theorem dX10_reads_95 : decode cX10_reads 95 = .ok (.iload_n 1, 1) := by decide +kernel
theorem dX10_reads_96 : decode cX10_reads 96 = .ok (.iaload, 1) := by decide +kernel
theorem dX10_reads_97 : decode cX10_reads 97 = .ok (.if_icmp .le 7, 3) := by decide +kernel
theorem dX10_reads_100 : decode cX10_reads 100 = .ok (.iload_n 2, 1) := by decide +kernel
theorem dX10_reads_101 : decode cX10_reads 101 = .ok (.goto 9, 3) := by decide +kernel
theorem dX10_reads_104 : decode cX10_reads 104 = .ok (.aload_n 0, 1) := by decide +kernel
theorem dX10_reads_105 : decode cX10_reads 105 = .ok (.getfield 19, 3) := by decide +kernel
theorem dX10_reads_108 : decode cX10_reads 108 = .ok (.iload_n 1, 1) := by decide +kernel
theorem dX10_reads_109 : decode cX10_reads 109 = .ok (.iaload, 1) := by decide +kernel
theorem dX10_reads_110 : decode cX10_reads 110 = .ok (.iastore, 1) := by decide +kernel
theorem dX10_reads_111 : decode cX10_reads 111 = .ok (.iinc 1 1, 3) := by decide +kernel
theorem dX10_reads_114 : decode cX10_reads 114 = .ok (.goto (-112), 3) := by decide +kernel
theorem dX10_reads_117 : decode cX10_reads 117 = .ok (.return_, 1) := by decide +kernel
theorem dX10_snaps_0 : decode cX10_snaps 0 = .ok (.aload_n 0, 1) := by decide +kernel
theorem dX10_snaps_1 : decode cX10_snaps 1 = .ok (.getfield 84, 3) := by decide +kernel
theorem dX10_snaps_4 : decode cX10_snaps 4 = .ok (.istore_n 1, 1) := by decide +kernel
theorem dX10_snaps_5 : decode cX10_snaps 5 = .ok (.iconst 0, 1) := by decide +kernel
theorem dX10_snaps_6 : decode cX10_snaps 6 = .ok (.istore_n 2, 1) := by decide +kernel
theorem dX10_snaps_7 : decode cX10_snaps 7 = .ok (.iload_n 2, 1) := by decide +kernel
theorem dX10_snaps_8 : decode cX10_snaps 8 = .ok (.iload_n 1, 1) := by decide +kernel
theorem dX10_snaps_9 : decode cX10_snaps 9 = .ok (.if_icmp .ge 95, 3) := by decide +kernel
theorem dX10_snaps_12 : decode cX10_snaps 12 = .ok (.aload_n 0, 1) := by decide +kernel
theorem dX10_snaps_13 : decode cX10_snaps 13 = .ok (.aload_n 0, 1) := by decide +kernel
theorem dX10_snaps_14 : decode cX10_snaps 14 = .ok (.getfield 16, 3) := by decide +kernel
theorem dX10_snaps_17 : decode cX10_snaps 17 = .ok (.iload_n 2, 1) := by decide +kernel
theorem dX10_snaps_18 : decode cX10_snaps 18 = .ok (.iaload, 1) := by decide +kernel
theorem dX10_snaps_19 : decode cX10_snaps 19 = .ok (.invokevirtual 117, 3) := by decide +kernel
theorem dX10_snaps_22 : decode cX10_snaps 22 = .ok (.istore_n 3, 1) := by decide +kernel
theorem dX10_snaps_23 : decode cX10_snaps 23 = .ok (.aload_n 0, 1) := by decide +kernel
theorem dX10_snaps_24 : decode cX10_snaps 24 = .ok (.getfield 16, 3) := by decide +kernel
theorem dX10_snaps_27 : decode cX10_snaps 27 = .ok (.iload_n 2, 1) := by decide +kernel
theorem dX10_snaps_28 : decode cX10_snaps 28 = .ok (.iload_n 3, 1) := by decide +kernel
theorem dX10_snaps_29 : decode cX10_snaps 29 = .ok (.bipush (-9), 2) := by decide +kernel
theorem dX10_snaps_31 : decode cX10_snaps 31 = .ok (.if_icmp .eq 17, 3) := by decide +kernel
theorem dX10_snaps_34 : decode cX10_snaps 34 = .ok (.iload_n 3, 1) := by decide +kernel
theorem dX10_snaps_35 : decode cX10_snaps 35 = .ok (.aload_n 0, 1) := by decide +kernel
theorem dX10_snaps_36 : decode cX10_snaps 36 = .ok (.getfield 19, 3) := by decide +kernel
theorem dX10_snaps_39 : decode cX10_snaps 39 = .ok (.iload_n 2, 1) := by decide +kernel
theorem dX10_snaps_40 : decode cX10_snaps 40 = .ok (.iaload, 1) := by decide +kernel
theorem dX10_snaps_41 : decode cX10_snaps 41 = .ok (.if_icmp .ge 7, 3) := by decide +kernel
theorem dX10_snaps_44 : decode cX10_snaps 44 = .ok (.iload_n 3, 1) := by decide +kernel
theorem dX10_snaps_45 : decode cX10_snaps 45 = .ok (.goto 9, 3) := by decide +kernel
theorem dX10_snaps_48 : decode cX10_snaps 48 = .ok (.aload_n 0, 1) := by decide +kernel
theorem dX10_snaps_49 : decode cX10_snaps 49 = .ok (.getfield 16, 3) := by decide +kernel
theorem dX10_snaps_52 : decode cX10_snaps 52 = .ok (.iload_n 2, 1) := by decide +kernel
theorem dX10_snaps_53 : decode cX10_snaps 53 = .ok (.iaload, 1) := by decide +kernel
theorem dX10_snaps_54 : decode cX10_snaps 54 = .ok (.iastore, 1) := by decide +kernel
theorem dX10_snaps_55 : decode cX10_snaps 55 = .ok (.aload_n 0, 1) := by decide +kernel
theorem dX10_snaps_56 : decode cX10_snaps 56 = .ok (.aload_n 0, 1) := by decide +kernel
theorem dX10_snaps_57 : decode cX10_snaps 57 = .ok (.getfield 19, 3) := by decide +kernel
theorem dX10_snaps_60 : decode cX10_snaps 60 = .ok (.iload_n 2, 1) := by decide +kernel
theorem dX10_snaps_61 : decode cX10_snaps 61 = .ok (.iaload, 1) := by decide +kernel
theorem dX10_snaps_62 : decode cX10_snaps 62 = .ok (.invokevirtual 117, 3) := by decide +kernel
theorem dX10_snaps_65 : decode cX10_snaps 65 = .ok (.istore_n 3, 1) := by decide +kernel
theorem dX10_snaps_66 : decode cX10_snaps 66 = .ok (.aload_n 0, 1) := by decide +kernel
theorem dX10_snaps_67 : decode cX10_snaps 67 = .ok (.getfield 19, 3) := by decide +kernel
theorem dX10_snaps_70 : decode cX10_snaps 70 = .ok (.iload_n 2, 1) := by decide +kernel
theorem dX10_snaps_71 : decode cX10_snaps 71 = .ok (.iload_n 3, 1) := by decide +kernel
theorem dX10_snaps_72 : decode cX10_snaps 72 = .ok (.bipush (-9), 2) := by decide +kernel
theorem dX10_snaps_74 : decode cX10_snaps 74 = .ok (.if_icmp .eq 17, 3) := by decide +kernel
theorem dX10_snaps_77 : decode cX10_snaps 77 = .ok (.iload_n 3, 1) := by decide +kernel
theorem dX10_snaps_78 : decode cX10_snaps 78 = .ok (.aload_n 0, 1) := by decide +kernel
theorem dX10_snaps_79 : decode cX10_snaps 79 = .ok (.getfield 16, 3) := by decide +kernel
theorem dX10_snaps_82 : decode cX10_snaps 82 = .ok (.iload_n 2, 1) := by decide +kernel
theorem dX10_snaps_83 : decode cX10_snaps 83 = .ok (.iaload, 1) := by decide +kernel
theorem dX10_snaps_84 : decode cX10_snaps 84 = .ok (.if_icmp .le 7, 3) := by decide +kernel
theorem dX10_snaps_87 : decode cX10_snaps 87 = .ok (.iload_n 3, 1) := by decide +kernel
theorem dX10_snaps_88 : decode cX10_snaps 88 = .ok (.goto 9, 3) := by decide +kernel
theorem dX10_snaps_91 : decode cX10_snaps 91 = .ok (.aload_n 0, 1) := by decide +kernel
theorem dX10_snaps_92 : decode cX10_snaps 92 = .ok (.getfield 19, 3) := by decide +kernel
theorem dX10_snaps_95 : decode cX10_snaps 95 = .ok (.iload_n 2, 1) := by decide +kernel
theorem dX10_snaps_96 : decode cX10_snaps 96 = .ok (.iaload, 1) := by decide +kernel
theorem dX10_snaps_97 : decode cX10_snaps 97 = .ok (.iastore, 1) := by decide +kernel
theorem dX10_snaps_98 : decode cX10_snaps 98 = .ok (.iinc 2 1, 3) := by decide +kernel
theorem dX10_snaps_101 : decode cX10_snaps 101 = .ok (.goto (-94), 3) := by decide +kernel
theorem dX10_snaps_104 : decode cX10_snaps 104 = .ok (.aload_n 0, 1) := by decide +kernel
theorem dX10_snaps_105 : decode cX10_snaps 105 = .ok (.invokevirtual 139, 3) := by decide +kernel
theorem dX10_snaps_108 : decode cX10_snaps 108 = .ok (.iconst 0, 1) := by decide +kernel
theorem dX10_snaps_109 : decode cX10_snaps 109 = .ok (.istore_n 2, 1) := by decide +kernel
theorem dX10_snaps_110 : decode cX10_snaps 110 = .ok (.iload_n 2, 1) := by decide +kernel
theorem dX10_snaps_111 : decode cX10_snaps 111 = .ok (.iload_n 1, 1) := by decide +kernel
theorem dX10_snaps_112 : decode cX10_snaps 112 = .ok (.if_icmp .ge 26, 3) := by decide +kernel
theorem dX10_snaps_115 : decode cX10_snaps 115 = .ok (.aload_n 0, 1) := by decide +kernel
theorem dX10_snaps_116 : decode cX10_snaps 116 = .ok (.aload_n 0, 1) := by decide +kernel
theorem dX10_snaps_117 : decode cX10_snaps 117 = .ok (.getfield 31, 3) := by decide +kernel
theorem dX10_snaps_120 : decode cX10_snaps 120 = .ok (.iload_n 2, 1) := by decide +kernel
theorem dX10_snaps_121 : decode cX10_snaps 121 = .ok (.iaload, 1) := by decide +kernel
theorem dX10_snaps_122 : decode cX10_snaps 122 = .ok (.aload_n 0, 1) := by decide +kernel
theorem dX10_snaps_123 : decode cX10_snaps 123 = .ok (.getfield 34, 3) := by decide +kernel
theorem dX10_snaps_126 : decode cX10_snaps 126 = .ok (.iload_n 2, 1) := by decide +kernel
theorem dX10_snaps_127 : decode cX10_snaps 127 = .ok (.iaload, 1) := by decide +kernel
theorem dX10_snaps_128 : decode cX10_snaps 128 = .ok (.iload_n 2, 1) := by decide +kernel
theorem dX10_snaps_129 : decode cX10_snaps 129 = .ok (.invokevirtual 135, 3) := by decide +kernel
theorem dX10_snaps_132 : decode cX10_snaps 132 = .ok (.iinc 2 1, 3) := by decide +kernel
theorem dX10_snaps_135 : decode cX10_snaps 135 = .ok (.goto (-25), 3) := by decide +kernel
theorem dX10_snaps_138 : decode cX10_snaps 138 = .ok (.return_, 1) := by decide +kernel
theorem dX10_separates_0 : decode cX10_separates 0 = .ok (.iconst 0, 1) := by decide +kernel
theorem dX10_separates_1 : decode cX10_separates 1 = .ok (.istore_n 1, 1) := by decide +kernel
theorem dX10_separates_2 : decode cX10_separates 2 = .ok (.iload_n 1, 1) := by decide +kernel
theorem dX10_separates_3 : decode cX10_separates 3 = .ok (.aload_n 0, 1) := by decide +kernel
theorem dX10_separates_4 : decode cX10_separates 4 = .ok (.getfield 84, 3) := by decide +kernel
theorem dX10_separates_7 : decode cX10_separates 7 = .ok (.if_icmp .ge 81, 3) := by decide +kernel
theorem dX10_separates_10 : decode cX10_separates 10 = .ok (.aload_n 0, 1) := by decide +kernel
theorem dX10_separates_11 : decode cX10_separates 11 = .ok (.iload_n 1, 1) := by decide +kernel
theorem dX10_separates_12 : decode cX10_separates 12 = .ok (.invokevirtual 120, 3) := by decide +kernel
theorem dX10_separates_15 : decode cX10_separates 15 = .ok (.istore_n 2, 1) := by decide +kernel
theorem dX10_separates_16 : decode cX10_separates 16 = .ok (.iload_n 2, 1) := by decide +kernel
theorem dX10_separates_17 : decode cX10_separates 17 = .ok (.bipush (-9), 2) := by decide +kernel
theorem dX10_separates_19 : decode cX10_separates 19 = .ok (.if_icmp .ne 12, 3) := by decide +kernel
theorem dX10_separates_22 : decode cX10_separates 22 = .ok (.aload_n 0, 1) := by decide +kernel
theorem dX10_separates_23 : decode cX10_separates 23 = .ok (.getfield 19, 3) := by decide +kernel
theorem dX10_separates_26 : decode cX10_separates 26 = .ok (.iload_n 1, 1) := by decide +kernel
theorem dX10_separates_27 : decode cX10_separates 27 = .ok (.iaload, 1) := by decide +kernel
theorem dX10_separates_28 : decode cX10_separates 28 = .ok (.goto 15, 3) := by decide +kernel
theorem dX10_separates_31 : decode cX10_separates 31 = .ok (.aload_n 0, 1) := by decide +kernel
theorem dX10_separates_32 : decode cX10_separates 32 = .ok (.getfield 16, 3) := by decide +kernel
theorem dX10_separates_35 : decode cX10_separates 35 = .ok (.iload_n 2, 1) := by decide +kernel
theorem dX10_separates_36 : decode cX10_separates 36 = .ok (.iaload, 1) := by decide +kernel
theorem dX10_separates_37 : decode cX10_separates 37 = .ok (.aload_n 0, 1) := by decide +kernel
theorem dX10_separates_38 : decode cX10_separates 38 = .ok (.iconst 2, 1) := by decide +kernel
theorem dX10_separates_39 : decode cX10_separates 39 = .ok (.invokevirtual 105, 3) := by decide +kernel
theorem dX10_separates_42 : decode cX10_separates 42 = .ok (.isub, 1) := by decide +kernel
theorem dX10_separates_43 : decode cX10_separates 43 = .ok (.istore_n 3, 1) := by decide +kernel
theorem dX10_separates_44 : decode cX10_separates 44 = .ok (.iload_n 3, 1) := by decide +kernel
theorem dX10_separates_45 : decode cX10_separates 45 = .ok (.aload_n 0, 1) := by decide +kernel
theorem dX10_separates_46 : decode cX10_separates 46 = .ok (.getfield 19, 3) := by decide +kernel
theorem dX10_separates_49 : decode cX10_separates 49 = .ok (.iload_n 1, 1) := by decide +kernel
theorem dX10_separates_50 : decode cX10_separates 50 = .ok (.iaload, 1) := by decide +kernel
theorem dX10_separates_51 : decode cX10_separates 51 = .ok (.if_icmp .ge 31, 3) := by decide +kernel
theorem dX10_separates_54 : decode cX10_separates 54 = .ok (.aload_n 0, 1) := by decide +kernel
theorem dX10_separates_55 : decode cX10_separates 55 = .ok (.getfield 19, 3) := by decide +kernel
theorem dX10_separates_58 : decode cX10_separates 58 = .ok (.iload_n 1, 1) := by decide +kernel
theorem dX10_separates_59 : decode cX10_separates 59 = .ok (.iload_n 3, 1) := by decide +kernel
theorem dX10_separates_60 : decode cX10_separates 60 = .ok (.aload_n 0, 1) := by decide +kernel
theorem dX10_separates_61 : decode cX10_separates 61 = .ok (.getfield 16, 3) := by decide +kernel
theorem dX10_separates_64 : decode cX10_separates 64 = .ok (.iload_n 1, 1) := by decide +kernel
theorem dX10_separates_65 : decode cX10_separates 65 = .ok (.iaload, 1) := by decide +kernel
theorem dX10_separates_66 : decode cX10_separates 66 = .ok (.if_icmp .le 7, 3) := by decide +kernel
theorem dX10_separates_69 : decode cX10_separates 69 = .ok (.iload_n 3, 1) := by decide +kernel
theorem dX10_separates_70 : decode cX10_separates 70 = .ok (.goto 11, 3) := by decide +kernel
theorem dX10_separates_73 : decode cX10_separates 73 = .ok (.aload_n 0, 1) := by decide +kernel
theorem dX10_separates_74 : decode cX10_separates 74 = .ok (.getfield 16, 3) := by decide +kernel
theorem dX10_separates_77 : decode cX10_separates 77 = .ok (.iload_n 1, 1) := by decide +kernel
theorem dX10_separates_78 : decode cX10_separates 78 = .ok (.iaload, 1) := by decide +kernel
theorem dX10_separates_79 : decode cX10_separates 79 = .ok (.iconst 1, 1) := by decide +kernel
theorem dX10_separates_80 : decode cX10_separates 80 = .ok (.iadd, 1) := by decide +kernel
theorem dX10_separates_81 : decode cX10_separates 81 = .ok (.iastore, 1) := by decide +kernel
theorem dX10_separates_82 : decode cX10_separates 82 = .ok (.iinc 1 1, 3) := by decide +kernel
theorem dX10_separates_85 : decode cX10_separates 85 = .ok (.goto (-83), 3) := by decide +kernel
theorem dX10_separates_88 : decode cX10_separates 88 = .ok (.return_, 1) := by decide +kernel
theorem dX10_conforms_0 : decode cX10_conforms 0 = .ok (.aload_n 0, 1) := by decide +kernel
theorem dX10_conforms_1 : decode cX10_conforms 1 = .ok (.iconst 0, 1) := by decide +kernel
theorem dX10_conforms_2 : decode cX10_conforms 2 = .ok (.putfield 142, 3) := by decide +kernel
theorem dX10_conforms_5 : decode cX10_conforms 5 = .ok (.aload_n 0, 1) := by decide +kernel
theorem dX10_conforms_6 : decode cX10_conforms 6 = .ok (.invokevirtual 155, 3) := by decide +kernel
theorem dX10_conforms_9 : decode cX10_conforms 9 = .ok (.iload_n 1, 1) := by decide +kernel
theorem dX10_conforms_10 : decode cX10_conforms 10 = .ok (.iconst 1, 1) := by decide +kernel
theorem dX10_conforms_11 : decode cX10_conforms 11 = .ok (.iand, 1) := by decide +kernel
theorem dX10_conforms_12 : decode cX10_conforms 12 = .ok (.ifCond .le 12, 3) := by decide +kernel
theorem dX10_conforms_15 : decode cX10_conforms 15 = .ok (.aload_n 0, 1) := by decide +kernel
theorem dX10_conforms_16 : decode cX10_conforms 16 = .ok (.invokevirtual 158, 3) := by decide +kernel
theorem dX10_conforms_19 : decode cX10_conforms 19 = .ok (.ifCond .ne 5, 3) := by decide +kernel
theorem dX10_conforms_22 : decode cX10_conforms 22 = .ok (.iconst 0, 1) := by decide +kernel
theorem dX10_conforms_23 : decode cX10_conforms 23 = .ok (.ireturn, 1) := by decide +kernel
theorem dX10_conforms_24 : decode cX10_conforms 24 = .ok (.iload_n 1, 1) := by decide +kernel
theorem dX10_conforms_25 : decode cX10_conforms 25 = .ok (.iconst 2, 1) := by decide +kernel
theorem dX10_conforms_26 : decode cX10_conforms 26 = .ok (.iand, 1) := by decide +kernel
theorem dX10_conforms_27 : decode cX10_conforms 27 = .ok (.ifCond .le 7, 3) := by decide +kernel
theorem dX10_conforms_30 : decode cX10_conforms 30 = .ok (.aload_n 0, 1) := by decide +kernel
theorem dX10_conforms_31 : decode cX10_conforms 31 = .ok (.invokevirtual 162, 3) := by decide +kernel
theorem dX10_conforms_34 : decode cX10_conforms 34 = .ok (.iload_n 1, 1) := by decide +kernel
theorem dX10_conforms_35 : decode cX10_conforms 35 = .ok (.iconst 4, 1) := by decide +kernel
theorem dX10_conforms_36 : decode cX10_conforms 36 = .ok (.iand, 1) := by decide +kernel
theorem dX10_conforms_37 : decode cX10_conforms 37 = .ok (.ifCond .le 7, 3) := by decide +kernel
theorem dX10_conforms_40 : decode cX10_conforms 40 = .ok (.aload_n 0, 1) := by decide +kernel
theorem dX10_conforms_41 : decode cX10_conforms 41 = .ok (.invokevirtual 165, 3) := by decide +kernel
theorem dX10_conforms_44 : decode cX10_conforms 44 = .ok (.iload_n 1, 1) := by decide +kernel
theorem dX10_conforms_45 : decode cX10_conforms 45 = .ok (.bipush 8, 2) := by decide +kernel
theorem dX10_conforms_47 : decode cX10_conforms 47 = .ok (.iand, 1) := by decide +kernel
theorem dX10_conforms_48 : decode cX10_conforms 48 = .ok (.ifCond .le 7, 3) := by decide +kernel
theorem dX10_conforms_51 : decode cX10_conforms 51 = .ok (.aload_n 0, 1) := by decide +kernel
theorem dX10_conforms_52 : decode cX10_conforms 52 = .ok (.invokevirtual 168, 3) := by decide +kernel
theorem dX10_conforms_55 : decode cX10_conforms 55 = .ok (.iload_n 1, 1) := by decide +kernel
theorem dX10_conforms_56 : decode cX10_conforms 56 = .ok (.bipush 16, 2) := by decide +kernel
theorem dX10_conforms_58 : decode cX10_conforms 58 = .ok (.iand, 1) := by decide +kernel
theorem dX10_conforms_59 : decode cX10_conforms 59 = .ok (.ifCond .le 7, 3) := by decide +kernel
theorem dX10_conforms_62 : decode cX10_conforms 62 = .ok (.aload_n 0, 1) := by decide +kernel
theorem dX10_conforms_63 : decode cX10_conforms 63 = .ok (.invokevirtual 171, 3) := by decide +kernel
theorem dX10_conforms_66 : decode cX10_conforms 66 = .ok (.iconst 1, 1) := by decide +kernel
theorem dX10_conforms_67 : decode cX10_conforms 67 = .ok (.ireturn, 1) := by decide +kernel
theorem dX10_type_0 : decode cX10_type 0 = .ok (.iload_n 1, 1) := by decide +kernel
theorem dX10_type_1 : decode cX10_type 1 = .ok (.bipush 32, 2) := by decide +kernel
theorem dX10_type_3 : decode cX10_type 3 = .ok (.bipush 126, 2) := by decide +kernel
theorem dX10_type_5 : decode cX10_type 5 = .ok (.invokestatic 60, 3) := by decide +kernel
theorem dX10_type_8 : decode cX10_type 8 = .ok (.ifCond .ne 5, 3) := by decide +kernel
theorem dX10_type_11 : decode cX10_type 11 = .ok (.iconst (-1), 1) := by decide +kernel
theorem dX10_type_12 : decode cX10_type 12 = .ok (.ireturn, 1) := by decide +kernel
theorem dX10_type_13 : decode cX10_type 13 = .ok (.aload_n 0, 1) := by decide +kernel
theorem dX10_type_14 : decode cX10_type 14 = .ok (.getfield 174, 3) := by decide +kernel
theorem dX10_type_17 : decode cX10_type 17 = .ok (.bipush 40, 2) := by decide +kernel
theorem dX10_type_19 : decode cX10_type 19 = .ok (.if_icmp .ne 6, 3) := by decide +kernel
theorem dX10_type_22 : decode cX10_type 22 = .ok (.bipush (-3), 2) := by decide +kernel
theorem dX10_type_24 : decode cX10_type 24 = .ok (.ireturn, 1) := by decide +kernel
theorem dX10_type_25 : decode cX10_type 25 = .ok (.aload_n 0, 1) := by decide +kernel
theorem dX10_type_26 : decode cX10_type 26 = .ok (.getfield 13, 3) := by decide +kernel
theorem dX10_type_29 : decode cX10_type 29 = .ok (.aload_n 0, 1) := by decide +kernel
theorem dX10_type_30 : decode cX10_type 30 = .ok (.getfield 174, 3) := by decide +kernel
theorem dX10_type_33 : decode cX10_type 33 = .ok (.iload_n 1, 1) := by decide +kernel
theorem dX10_type_34 : decode cX10_type 34 = .ok (.iastore, 1) := by decide +kernel
theorem dX10_type_35 : decode cX10_type 35 = .ok (.aload_n 0, 1) := by decide +kernel
theorem dX10_type_36 : decode cX10_type 36 = .ok (.dup, 1) := by decide +kernel
theorem dX10_type_37 : decode cX10_type 37 = .ok (.getfield 174, 3) := by decide +kernel
theorem dX10_type_40 : decode cX10_type 40 = .ok (.iconst 1, 1) := by decide +kernel
theorem dX10_type_41 : decode cX10_type 41 = .ok (.iadd, 1) := by decide +kernel
theorem dX10_type_42 : decode cX10_type 42 = .ok (.putfield 174, 3) := by decide +kernel
theorem dX10_type_45 : decode cX10_type 45 = .ok (.aload_n 0, 1) := by decide +kernel
theorem dX10_type_46 : decode cX10_type 46 = .ok (.getfield 174, 3) := by decide +kernel
theorem dX10_type_49 : decode cX10_type 49 = .ok (.ireturn, 1) := by decide +kernel
theorem dX10_clear_0 : decode cX10_clear 0 = .ok (.aload_n 0, 1) := by decide +kernel
theorem dX10_clear_1 : decode cX10_clear 1 = .ok (.getfield 174, 3) := by decide +kernel
theorem dX10_clear_4 : decode cX10_clear 4 = .ok (.istore_n 1, 1) := by decide +kernel
theorem dX10_clear_5 : decode cX10_clear 5 = .ok (.aload_n 0, 1) := by decide +kernel
theorem dX10_clear_6 : decode cX10_clear 6 = .ok (.iconst 0, 1) := by decide +kernel
theorem dX10_clear_7 : decode cX10_clear 7 = .ok (.putfield 174, 3) := by decide +kernel
theorem dX10_clear_10 : decode cX10_clear 10 = .ok (.iload_n 1, 1) := by decide +kernel
theorem dX10_clear_11 : decode cX10_clear 11 = .ok (.ireturn, 1) := by decide +kernel
theorem dX10_wrongBlank_0 : decode cX10_wrongBlank 0 = .ok (.iconst 0, 1) := by decide +kernel
theorem dX10_wrongBlank_1 : decode cX10_wrongBlank 1 = .ok (.istore_n 1, 1) := by decide +kernel
theorem dX10_wrongBlank_2 : decode cX10_wrongBlank 2 = .ok (.iload_n 1, 1) := by decide +kernel
theorem dX10_wrongBlank_3 : decode cX10_wrongBlank 3 = .ok (.aload_n 0, 1) := by decide +kernel
theorem dX10_wrongBlank_4 : decode cX10_wrongBlank 4 = .ok (.getfield 174, 3) := by decide +kernel
theorem dX10_wrongBlank_7 : decode cX10_wrongBlank 7 = .ok (.if_icmp .ge 49, 3) := by decide +kernel
theorem dX10_wrongBlank_10 : decode cX10_wrongBlank 10 = .ok (.aload_n 0, 1) := by decide +kernel
theorem dX10_wrongBlank_11 : decode cX10_wrongBlank 11 = .ok (.getfield 13, 3) := by decide +kernel
theorem dX10_wrongBlank_14 : decode cX10_wrongBlank 14 = .ok (.iload_n 1, 1) := by decide +kernel
theorem dX10_wrongBlank_15 : decode cX10_wrongBlank 15 = .ok (.iaload, 1) := by decide +kernel
theorem dX10_wrongBlank_16 : decode cX10_wrongBlank 16 = .ok (.bipush 32, 2) := by decide +kernel
theorem dX10_wrongBlank_18 : decode cX10_wrongBlank 18 = .ok (.if_icmp .ne 32, 3) := by decide +kernel
theorem dX10_wrongBlank_21 : decode cX10_wrongBlank 21 = .ok (.iload_n 1, 1) := by decide +kernel
theorem dX10_wrongBlank_22 : decode cX10_wrongBlank 22 = .ok (.ifCond .eq 26, 3) := by decide +kernel
theorem dX10_wrongBlank_25 : decode cX10_wrongBlank 25 = .ok (.iload_n 1, 1) := by decide +kernel
theorem dX10_wrongBlank_26 : decode cX10_wrongBlank 26 = .ok (.aload_n 0, 1) := by decide +kernel
theorem dX10_wrongBlank_27 : decode cX10_wrongBlank 27 = .ok (.getfield 174, 3) := by decide +kernel
theorem dX10_wrongBlank_30 : decode cX10_wrongBlank 30 = .ok (.iconst 1, 1) := by decide +kernel
theorem dX10_wrongBlank_31 : decode cX10_wrongBlank 31 = .ok (.isub, 1) := by decide +kernel
theorem dX10_wrongBlank_32 : decode cX10_wrongBlank 32 = .ok (.if_icmp .eq 16, 3) := by decide +kernel
theorem dX10_wrongBlank_35 : decode cX10_wrongBlank 35 = .ok (.aload_n 0, 1) := by decide +kernel
theorem dX10_wrongBlank_36 : decode cX10_wrongBlank 36 = .ok (.getfield 13, 3) := by decide +kernel
theorem dX10_wrongBlank_39 : decode cX10_wrongBlank 39 = .ok (.iload_n 1, 1) := by decide +kernel
theorem dX10_wrongBlank_40 : decode cX10_wrongBlank 40 = .ok (.iconst 1, 1) := by decide +kernel
theorem dX10_wrongBlank_41 : decode cX10_wrongBlank 41 = .ok (.isub, 1) := by decide +kernel
theorem dX10_wrongBlank_42 : decode cX10_wrongBlank 42 = .ok (.iaload, 1) := by decide +kernel
theorem dX10_wrongBlank_43 : decode cX10_wrongBlank 43 = .ok (.bipush 32, 2) := by decide +kernel
theorem dX10_wrongBlank_45 : decode cX10_wrongBlank 45 = .ok (.if_icmp .ne 5, 3) := by decide +kernel
theorem dX10_wrongBlank_48 : decode cX10_wrongBlank 48 = .ok (.iload_n 1, 1) := by decide +kernel
theorem dX10_wrongBlank_49 : decode cX10_wrongBlank 49 = .ok (.ireturn, 1) := by decide +kernel
theorem dX10_wrongBlank_50 : decode cX10_wrongBlank 50 = .ok (.iinc 1 1, 3) := by decide +kernel
theorem dX10_wrongBlank_53 : decode cX10_wrongBlank 53 = .ok (.goto (-51), 3) := by decide +kernel
theorem dX10_wrongBlank_56 : decode cX10_wrongBlank 56 = .ok (.bipush (-9), 2) := by decide +kernel
theorem dX10_wrongBlank_58 : decode cX10_wrongBlank 58 = .ok (.ireturn, 1) := by decide +kernel
theorem dX10_areTimes_0 : decode cX10_areTimes 0 = .ok (.iload_n 0, 1) := by decide +kernel
theorem dX10_areTimes_1 : decode cX10_areTimes 1 = .ok (.ifCond .lt 19, 3) := by decide +kernel
theorem dX10_areTimes_4 : decode cX10_areTimes 4 = .ok (.iload_n 0, 1) := by decide +kernel
theorem dX10_areTimes_5 : decode cX10_areTimes 5 = .ok (.iload_n 1, 1) := by decide +kernel
theorem dX10_areTimes_6 : decode cX10_areTimes 6 = .ok (.if_icmp .ge 14, 3) := by decide +kernel
theorem dX10_areTimes_9 : decode cX10_areTimes 9 = .ok (.iload_n 1, 1) := by decide +kernel
theorem dX10_areTimes_10 : decode cX10_areTimes 10 = .ok (.sipush 9999, 3) := by decide +kernel
theorem dX10_areTimes_13 : decode cX10_areTimes 13 = .ok (.if_icmp .gt 7, 3) := by decide +kernel
theorem dX10_areTimes_16 : decode cX10_areTimes 16 = .ok (.iconst 1, 1) := by decide +kernel
theorem dX10_areTimes_17 : decode cX10_areTimes 17 = .ok (.goto 4, 3) := by decide +kernel
theorem dX10_areTimes_20 : decode cX10_areTimes 20 = .ok (.iconst 0, 1) := by decide +kernel
theorem dX10_areTimes_21 : decode cX10_areTimes 21 = .ok (.ireturn, 1) := by decide +kernel
theorem dX10_add_0 : decode cX10_add 0 = .ok (.iload_n 1, 1) := by decide +kernel
theorem dX10_add_1 : decode cX10_add 1 = .ok (.iload_n 2, 1) := by decide +kernel
theorem dX10_add_2 : decode cX10_add 2 = .ok (.invokestatic 177, 3) := by decide +kernel
theorem dX10_add_5 : decode cX10_add 5 = .ok (.ifCond .eq 12, 3) := by decide +kernel
theorem dX10_add_8 : decode cX10_add 8 = .ok (.iload_n 3, 1) := by decide +kernel
theorem dX10_add_9 : decode cX10_add 9 = .ok (.iconst 0, 1) := by decide +kernel
theorem dX10_add_10 : decode cX10_add 10 = .ok (.iconst 3, 1) := by decide +kernel
theorem dX10_add_11 : decode cX10_add 11 = .ok (.invokestatic 60, 3) := by decide +kernel
theorem dX10_add_14 : decode cX10_add 14 = .ok (.ifCond .ne 5, 3) := by decide +kernel
theorem dX10_add_17 : decode cX10_add 17 = .ok (.iconst (-1), 1) := by decide +kernel
theorem dX10_add_18 : decode cX10_add 18 = .ok (.ireturn, 1) := by decide +kernel
theorem dX10_add_19 : decode cX10_add 19 = .ok (.aload_n 0, 1) := by decide +kernel
theorem dX10_add_20 : decode cX10_add 20 = .ok (.getfield 7, 3) := by decide +kernel
theorem dX10_add_23 : decode cX10_add 23 = .ok (.bipush 42, 2) := by decide +kernel
theorem dX10_add_25 : decode cX10_add 25 = .ok (.iaload, 1) := by decide +kernel
theorem dX10_add_26 : decode cX10_add 26 = .ok (.bipush 16, 2) := by decide +kernel
theorem dX10_add_28 : decode cX10_add 28 = .ok (.if_icmp .ne 6, 3) := by decide +kernel
theorem dX10_add_31 : decode cX10_add 31 = .ok (.bipush (-3), 2) := by decide +kernel
theorem dX10_add_33 : decode cX10_add 33 = .ok (.ireturn, 1) := by decide +kernel
theorem dX10_add_34 : decode cX10_add 34 = .ok (.aload_n 0, 1) := by decide +kernel
theorem dX10_add_35 : decode cX10_add 35 = .ok (.getfield 174, 3) := by decide +kernel
theorem dX10_add_38 : decode cX10_add 38 = .ok (.ifCond .eq 12, 3) := by decide +kernel
theorem dX10_add_41 : decode cX10_add 41 = .ok (.aload_n 0, 1) := by decide +kernel
theorem dX10_add_42 : decode cX10_add 42 = .ok (.invokevirtual 181, 3) := by decide +kernel
theorem dX10_add_45 : decode cX10_add 45 = .ok (.bipush (-9), 2) := by decide +kernel
theorem dX10_add_47 : decode cX10_add 47 = .ok (.if_icmp .eq 23, 3) := by decide +kernel
theorem dX10_add_50 : decode cX10_add 50 = .ok (.aload_n 0, 1) := by decide +kernel
theorem dX10_add_51 : decode cX10_add 51 = .ok (.getfield 174, 3) := by decide +kernel
theorem dX10_add_54 : decode cX10_add 54 = .ok (.ifCond .ne 8, 3) := by decide +kernel
theorem dX10_add_57 : decode cX10_add 57 = .ok (.bipush (-10), 2) := by decide +kernel
theorem dX10_add_59 : decode cX10_add 59 = .ok (.goto 10, 3) := by decide +kernel
theorem dX10_add_62 : decode cX10_add 62 = .ok (.bipush (-10), 2) := by decide +kernel
theorem dX10_add_64 : decode cX10_add 64 = .ok (.aload_n 0, 1) := by decide +kernel
theorem dX10_add_65 : decode cX10_add 65 = .ok (.invokevirtual 181, 3) := by decide +kernel
theorem dX10_add_68 : decode cX10_add 68 = .ok (.isub, 1) := by decide +kernel
theorem dX10_add_69 : decode cX10_add 69 = .ok (.ireturn, 1) := by decide +kernel
theorem dX10_add_70 : decode cX10_add 70 = .ok (.aload_n 0, 1) := by decide +kernel
theorem dX10_add_71 : decode cX10_add 71 = .ok (.invokevirtual 68, 3) := by decide +kernel
theorem dX10_add_74 : decode cX10_add 74 = .ok (.aload_n 0, 1) := by decide +kernel
theorem dX10_add_75 : decode cX10_add 75 = .ok (.invokevirtual 155, 3) := by decide +kernel
theorem dX10_add_78 : decode cX10_add 78 = .ok (.aload_n 0, 1) := by decide +kernel
theorem dX10_add_79 : decode cX10_add 79 = .ok (.getfield 84, 3) := by decide +kernel
theorem dX10_add_82 : decode cX10_add 82 = .ok (.istore 4, 2) := by decide +kernel
theorem dX10_add_84 : decode cX10_add 84 = .ok (.aload_n 0, 1) := by decide +kernel
theorem dX10_add_85 : decode cX10_add 85 = .ok (.getfield 7, 3) := by decide +kernel
theorem dX10_add_88 : decode cX10_add 88 = .ok (.aload_n 0, 1) := by decide +kernel
theorem dX10_add_89 : decode cX10_add 89 = .ok (.iconst 2, 1) := by decide +kernel
theorem dX10_add_90 : decode cX10_add 90 = .ok (.iload 4, 2) := by decide +kernel
theorem dX10_add_92 : decode cX10_add 92 = .ok (.imul, 1) := by decide +kernel
theorem dX10_add_93 : decode cX10_add 93 = .ok (.invokevirtual 91, 3) := by decide +kernel
theorem dX10_add_96 : decode cX10_add 96 = .ok (.iload_n 3, 1) := by decide +kernel
theorem dX10_add_97 : decode cX10_add 97 = .ok (.iastore, 1) := by decide +kernel
theorem dX10_add_98 : decode cX10_add 98 = .ok (.aload_n 0, 1) := by decide +kernel
theorem dX10_add_99 : decode cX10_add 99 = .ok (.getfield 7, 3) := by decide +kernel
theorem dX10_add_102 : decode cX10_add 102 = .ok (.aload_n 0, 1) := by decide +kernel
theorem dX10_add_103 : decode cX10_add 103 = .ok (.iconst 2, 1) := by decide +kernel
theorem dX10_add_104 : decode cX10_add 104 = .ok (.iload 4, 2) := by decide +kernel
theorem dX10_add_106 : decode cX10_add 106 = .ok (.imul, 1) := by decide +kernel
theorem dX10_add_107 : decode cX10_add 107 = .ok (.invokevirtual 91, 3) := by decide +kernel
theorem dX10_add_110 : decode cX10_add 110 = .ok (.iconst 1, 1) := by decide +kernel
theorem dX10_add_111 : decode cX10_add 111 = .ok (.iadd, 1) := by decide +kernel
theorem dX10_add_112 : decode cX10_add 112 = .ok (.aload_n 0, 1) := by decide +kernel
theorem dX10_add_113 : decode cX10_add 113 = .ok (.getfield 174, 3) := by decide +kernel
theorem dX10_add_116 : decode cX10_add 116 = .ok (.iastore, 1) := by decide +kernel
theorem dX10_add_117 : decode cX10_add 117 = .ok (.iconst 0, 1) := by decide +kernel
theorem dX10_add_118 : decode cX10_add 118 = .ok (.istore 5, 2) := by decide +kernel
theorem dX10_add_120 : decode cX10_add 120 = .ok (.iload 5, 2) := by decide +kernel
theorem dX10_add_122 : decode cX10_add 122 = .ok (.aload_n 0, 1) := by decide +kernel
theorem dX10_add_123 : decode cX10_add 123 = .ok (.getfield 174, 3) := by decide +kernel
theorem dX10_add_126 : decode cX10_add 126 = .ok (.if_icmp .ge 34, 3) := by decide +kernel
theorem dX10_add_129 : decode cX10_add 129 = .ok (.aload_n 0, 1) := by decide +kernel
theorem dX10_add_130 : decode cX10_add 130 = .ok (.getfield 7, 3) := by decide +kernel
theorem dX10_add_133 : decode cX10_add 133 = .ok (.aload_n 0, 1) := by decide +kernel
theorem dX10_add_134 : decode cX10_add 134 = .ok (.iconst 2, 1) := by decide +kernel
theorem dX10_add_135 : decode cX10_add 135 = .ok (.iload 4, 2) := by decide +kernel
theorem dX10_add_137 : decode cX10_add 137 = .ok (.imul, 1) := by decide +kernel
theorem dX10_add_138 : decode cX10_add 138 = .ok (.invokevirtual 91, 3) := by decide +kernel
theorem dX10_add_141 : decode cX10_add 141 = .ok (.iconst 2, 1) := by decide +kernel
theorem dX10_add_142 : decode cX10_add 142 = .ok (.iadd, 1) := by decide +kernel
theorem dX10_add_143 : decode cX10_add 143 = .ok (.iload 5, 2) := by decide +kernel
theorem dX10_add_145 : decode cX10_add 145 = .ok (.iadd, 1) := by decide +kernel
theorem dX10_add_146 : decode cX10_add 146 = .ok (.aload_n 0, 1) := by decide +kernel
theorem dX10_add_147 : decode cX10_add 147 = .ok (.getfield 13, 3) := by decide +kernel
theorem dX10_add_150 : decode cX10_add 150 = .ok (.iload 5, 2) := by decide +kernel
theorem dX10_add_152 : decode cX10_add 152 = .ok (.iaload, 1) := by decide +kernel
theorem dX10_add_153 : decode cX10_add 153 = .ok (.iastore, 1) := by decide +kernel
theorem dX10_add_154 : decode cX10_add 154 = .ok (.iinc 5 1, 3) := by decide +kernel
theorem dX10_add_157 : decode cX10_add 157 = .ok (.goto (-37), 3) := by decide +kernel
theorem dX10_add_160 : decode cX10_add 160 = .ok (.aload_n 0, 1) := by decide +kernel
theorem dX10_add_161 : decode cX10_add 161 = .ok (.getfield 37, 3) := by decide +kernel
theorem dX10_add_164 : decode cX10_add 164 = .ok (.iload 4, 2) := by decide +kernel
theorem dX10_add_166 : decode cX10_add 166 = .ok (.iconst 1, 1) := by decide +kernel
theorem dX10_add_167 : decode cX10_add 167 = .ok (.iastore, 1) := by decide +kernel
theorem dX10_add_168 : decode cX10_add 168 = .ok (.aload_n 0, 1) := by decide +kernel
theorem dX10_add_169 : decode cX10_add 169 = .ok (.getfield 40, 3) := by decide +kernel
theorem dX10_add_172 : decode cX10_add 172 = .ok (.iload 4, 2) := by decide +kernel
theorem dX10_add_174 : decode cX10_add 174 = .ok (.iconst 2, 1) := by decide +kernel
theorem dX10_add_175 : decode cX10_add 175 = .ok (.iload 4, 2) := by decide +kernel
theorem dX10_add_177 : decode cX10_add 177 = .ok (.imul, 1) := by decide +kernel
theorem dX10_add_178 : decode cX10_add 178 = .ok (.iastore, 1) := by decide +kernel
theorem dX10_add_179 : decode cX10_add 179 = .ok (.aload_n 0, 1) := by decide +kernel
theorem dX10_add_180 : decode cX10_add 180 = .ok (.getfield 43, 3) := by decide +kernel
theorem dX10_add_183 : decode cX10_add 183 = .ok (.iload 4, 2) := by decide +kernel
theorem dX10_add_185 : decode cX10_add 185 = .ok (.iconst 2, 1) := by decide +kernel
theorem dX10_add_186 : decode cX10_add 186 = .ok (.iload 4, 2) := by decide +kernel
theorem dX10_add_188 : decode cX10_add 188 = .ok (.imul, 1) := by decide +kernel
theorem dX10_add_189 : decode cX10_add 189 = .ok (.iconst 1, 1) := by decide +kernel
theorem dX10_add_190 : decode cX10_add 190 = .ok (.iadd, 1) := by decide +kernel
theorem dX10_add_191 : decode cX10_add 191 = .ok (.iastore, 1) := by decide +kernel
theorem dX10_add_192 : decode cX10_add 192 = .ok (.aload_n 0, 1) := by decide +kernel
theorem dX10_add_193 : decode cX10_add 193 = .ok (.iload_n 1, 1) := by decide +kernel
theorem dX10_add_194 : decode cX10_add 194 = .ok (.iload_n 2, 1) := by decide +kernel
theorem dX10_add_195 : decode cX10_add 195 = .ok (.iload 4, 2) := by decide +kernel
theorem dX10_add_197 : decode cX10_add 197 = .ok (.invokevirtual 135, 3) := by decide +kernel
theorem dX10_add_200 : decode cX10_add 200 = .ok (.aload_n 0, 1) := by decide +kernel
theorem dX10_add_201 : decode cX10_add 201 = .ok (.invokevirtual 184, 3) := by decide +kernel
theorem dX10_add_204 : decode cX10_add 204 = .ok (.aload_n 0, 1) := by decide +kernel
theorem dX10_add_205 : decode cX10_add 205 = .ok (.iconst 2, 1) := by decide +kernel
theorem dX10_add_206 : decode cX10_add 206 = .ok (.iload 4, 2) := by decide +kernel
theorem dX10_add_208 : decode cX10_add 208 = .ok (.imul, 1) := by decide +kernel
theorem dX10_add_209 : decode cX10_add 209 = .ok (.invokevirtual 187, 3) := by decide +kernel
theorem dX10_add_212 : decode cX10_add 212 = .ok (.ireturn, 1) := by decide +kernel
theorem dX10_placeOf_0 : decode cX10_placeOf 0 = .ok (.iconst 0, 1) := by decide +kernel
theorem dX10_placeOf_1 : decode cX10_placeOf 1 = .ok (.istore_n 2, 1) := by decide +kernel
theorem dX10_placeOf_2 : decode cX10_placeOf 2 = .ok (.aload_n 0, 1) := by decide +kernel
theorem dX10_placeOf_3 : decode cX10_placeOf 3 = .ok (.getfield 25, 3) := by decide +kernel
theorem dX10_placeOf_6 : decode cX10_placeOf 6 = .ok (.iload_n 2, 1) := by decide +kernel
theorem dX10_placeOf_7 : decode cX10_placeOf 7 = .ok (.iaload, 1) := by decide +kernel
theorem dX10_placeOf_8 : decode cX10_placeOf 8 = .ok (.iload_n 1, 1) := by decide +kernel
theorem dX10_placeOf_9 : decode cX10_placeOf 9 = .ok (.if_icmp .eq 9, 3) := by decide +kernel
theorem dX10_placeOf_12 : decode cX10_placeOf 12 = .ok (.iinc 2 1, 3) := by decide +kernel
theorem dX10_placeOf_15 : decode cX10_placeOf 15 = .ok (.goto (-13), 3) := by decide +kernel
theorem dX10_placeOf_18 : decode cX10_placeOf 18 = .ok (.iload_n 2, 1) := by decide +kernel
theorem dX10_placeOf_19 : decode cX10_placeOf 19 = .ok (.ireturn, 1) := by decide +kernel
theorem dX10_isSubtitle_0 : decode cX10_isSubtitle 0 = .ok (.iload_n 1, 1) := by decide +kernel
theorem dX10_isSubtitle_1 : decode cX10_isSubtitle 1 = .ok (.iconst 0, 1) := by decide +kernel
theorem dX10_isSubtitle_2 : decode cX10_isSubtitle 2 = .ok (.aload_n 0, 1) := by decide +kernel
theorem dX10_isSubtitle_3 : decode cX10_isSubtitle 3 = .ok (.getfield 7, 3) := by decide +kernel
theorem dX10_isSubtitle_6 : decode cX10_isSubtitle 6 = .ok (.bipush 42, 2) := by decide +kernel
theorem dX10_isSubtitle_8 : decode cX10_isSubtitle 8 = .ok (.iaload, 1) := by decide +kernel
theorem dX10_isSubtitle_9 : decode cX10_isSubtitle 9 = .ok (.iconst 1, 1) := by decide +kernel
theorem dX10_isSubtitle_10 : decode cX10_isSubtitle 10 = .ok (.isub, 1) := by decide +kernel
theorem dX10_isSubtitle_11 : decode cX10_isSubtitle 11 = .ok (.invokestatic 60, 3) := by decide +kernel
theorem dX10_isSubtitle_14 : decode cX10_isSubtitle 14 = .ok (.ireturn, 1) := by decide +kernel
theorem dX10_drop_0 : decode cX10_drop 0 = .ok (.aload_n 0, 1) := by decide +kernel
theorem dX10_drop_1 : decode cX10_drop 1 = .ok (.iload_n 1, 1) := by decide +kernel
theorem dX10_drop_2 : decode cX10_drop 2 = .ok (.invokevirtual 190, 3) := by decide +kernel
theorem dX10_drop_5 : decode cX10_drop 5 = .ok (.ifCond .ne 5, 3) := by decide +kernel
theorem dX10_drop_8 : decode cX10_drop 8 = .ok (.iconst (-1), 1) := by decide +kernel
theorem dX10_drop_9 : decode cX10_drop 9 = .ok (.ireturn, 1) := by decide +kernel
theorem dX10_drop_10 : decode cX10_drop 10 = .ok (.aload_n 0, 1) := by decide +kernel
theorem dX10_drop_11 : decode cX10_drop 11 = .ok (.invokevirtual 68, 3) := by decide +kernel
theorem dX10_drop_14 : decode cX10_drop 14 = .ok (.aload_n 0, 1) := by decide +kernel
theorem dX10_drop_15 : decode cX10_drop 15 = .ok (.invokevirtual 155, 3) := by decide +kernel
theorem dX10_drop_18 : decode cX10_drop 18 = .ok (.aload_n 0, 1) := by decide +kernel
theorem dX10_drop_19 : decode cX10_drop 19 = .ok (.getfield 84, 3) := by decide +kernel
theorem dX10_drop_22 : decode cX10_drop 22 = .ok (.istore_n 2, 1) := by decide +kernel
theorem dX10_drop_23 : decode cX10_drop 23 = .ok (.aload_n 0, 1) := by decide +kernel
theorem dX10_drop_24 : decode cX10_drop 24 = .ok (.invokevirtual 139, 3) := by decide +kernel
theorem dX10_drop_27 : decode cX10_drop 27 = .ok (.iconst 0, 1) := by decide +kernel
theorem dX10_drop_28 : decode cX10_drop 28 = .ok (.istore_n 3, 1) := by decide +kernel
theorem dX10_drop_29 : decode cX10_drop 29 = .ok (.iload_n 3, 1) := by decide +kernel
theorem dX10_drop_30 : decode cX10_drop 30 = .ok (.iload_n 2, 1) := by decide +kernel
theorem dX10_drop_31 : decode cX10_drop 31 = .ok (.if_icmp .ge 31, 3) := by decide +kernel
theorem dX10_drop_34 : decode cX10_drop 34 = .ok (.iload_n 3, 1) := by decide +kernel
theorem dX10_drop_35 : decode cX10_drop 35 = .ok (.iload_n 1, 1) := by decide +kernel
theorem dX10_drop_36 : decode cX10_drop 36 = .ok (.if_icmp .eq 20, 3) := by decide +kernel
theorem dX10_drop_39 : decode cX10_drop 39 = .ok (.aload_n 0, 1) := by decide +kernel
theorem dX10_drop_40 : decode cX10_drop 40 = .ok (.aload_n 0, 1) := by decide +kernel
theorem dX10_drop_41 : decode cX10_drop 41 = .ok (.getfield 31, 3) := by decide +kernel
theorem dX10_drop_44 : decode cX10_drop 44 = .ok (.iload_n 3, 1) := by decide +kernel
theorem dX10_drop_45 : decode cX10_drop 45 = .ok (.iaload, 1) := by decide +kernel
theorem dX10_drop_46 : decode cX10_drop 46 = .ok (.aload_n 0, 1) := by decide +kernel
theorem dX10_drop_47 : decode cX10_drop 47 = .ok (.getfield 34, 3) := by decide +kernel
theorem dX10_drop_50 : decode cX10_drop 50 = .ok (.iload_n 3, 1) := by decide +kernel
theorem dX10_drop_51 : decode cX10_drop 51 = .ok (.iaload, 1) := by decide +kernel
theorem dX10_drop_52 : decode cX10_drop 52 = .ok (.iload_n 3, 1) := by decide +kernel
theorem dX10_drop_53 : decode cX10_drop 53 = .ok (.invokevirtual 135, 3) := by decide +kernel
theorem dX10_drop_56 : decode cX10_drop 56 = .ok (.iinc 3 1, 3) := by decide +kernel
theorem dX10_drop_59 : decode cX10_drop 59 = .ok (.goto (-30), 3) := by decide +kernel
theorem dX10_drop_62 : decode cX10_drop 62 = .ok (.aload_n 0, 1) := by decide +kernel
theorem dX10_drop_63 : decode cX10_drop 63 = .ok (.invokevirtual 184, 3) := by decide +kernel
theorem dX10_drop_66 : decode cX10_drop 66 = .ok (.aload_n 0, 1) := by decide +kernel
theorem dX10_drop_67 : decode cX10_drop 67 = .ok (.getfield 7, 3) := by decide +kernel
theorem dX10_drop_70 : decode cX10_drop 70 = .ok (.bipush 42, 2) := by decide +kernel
theorem dX10_drop_72 : decode cX10_drop 72 = .ok (.iaload, 1) := by decide +kernel
theorem dX10_drop_73 : decode cX10_drop 73 = .ok (.ireturn, 1) := by decide +kernel
theorem dX10_move_0 : decode cX10_move 0 = .ok (.aload_n 0, 1) := by decide +kernel
theorem dX10_move_1 : decode cX10_move 1 = .ok (.iload_n 1, 1) := by decide +kernel
theorem dX10_move_2 : decode cX10_move 2 = .ok (.invokevirtual 190, 3) := by decide +kernel
theorem dX10_move_5 : decode cX10_move 5 = .ok (.ifCond .eq 11, 3) := by decide +kernel
theorem dX10_move_8 : decode cX10_move 8 = .ok (.iload_n 2, 1) := by decide +kernel
theorem dX10_move_9 : decode cX10_move 9 = .ok (.iload_n 3, 1) := by decide +kernel
theorem dX10_move_10 : decode cX10_move 10 = .ok (.invokestatic 177, 3) := by decide +kernel
theorem dX10_move_13 : decode cX10_move 13 = .ok (.ifCond .ne 5, 3) := by decide +kernel
theorem dX10_move_16 : decode cX10_move 16 = .ok (.iconst (-1), 1) := by decide +kernel
theorem dX10_move_17 : decode cX10_move 17 = .ok (.ireturn, 1) := by decide +kernel
theorem dX10_move_18 : decode cX10_move 18 = .ok (.aload_n 0, 1) := by decide +kernel
theorem dX10_move_19 : decode cX10_move 19 = .ok (.invokevirtual 68, 3) := by decide +kernel
theorem dX10_move_22 : decode cX10_move 22 = .ok (.aload_n 0, 1) := by decide +kernel
theorem dX10_move_23 : decode cX10_move 23 = .ok (.invokevirtual 155, 3) := by decide +kernel
theorem dX10_move_26 : decode cX10_move 26 = .ok (.aload_n 0, 1) := by decide +kernel
theorem dX10_move_27 : decode cX10_move 27 = .ok (.getfield 84, 3) := by decide +kernel
theorem dX10_move_30 : decode cX10_move 30 = .ok (.istore 4, 2) := by decide +kernel
theorem dX10_move_32 : decode cX10_move 32 = .ok (.aload_n 0, 1) := by decide +kernel
theorem dX10_move_33 : decode cX10_move 33 = .ok (.invokevirtual 139, 3) := by decide +kernel
theorem dX10_move_36 : decode cX10_move 36 = .ok (.iconst 0, 1) := by decide +kernel
theorem dX10_move_37 : decode cX10_move 37 = .ok (.istore 5, 2) := by decide +kernel
theorem dX10_move_39 : decode cX10_move 39 = .ok (.iload 5, 2) := by decide +kernel
theorem dX10_move_41 : decode cX10_move 41 = .ok (.iload 4, 2) := by decide +kernel
theorem dX10_move_43 : decode cX10_move 43 = .ok (.if_icmp .ge 35, 3) := by decide +kernel
theorem dX10_move_46 : decode cX10_move 46 = .ok (.iload 5, 2) := by decide +kernel
theorem dX10_move_48 : decode cX10_move 48 = .ok (.iload_n 1, 1) := by decide +kernel
theorem dX10_move_49 : decode cX10_move 49 = .ok (.if_icmp .eq 23, 3) := by decide +kernel
theorem dX10_move_52 : decode cX10_move 52 = .ok (.aload_n 0, 1) := by decide +kernel
theorem dX10_move_53 : decode cX10_move 53 = .ok (.aload_n 0, 1) := by decide +kernel
theorem dX10_move_54 : decode cX10_move 54 = .ok (.getfield 31, 3) := by decide +kernel
theorem dX10_move_57 : decode cX10_move 57 = .ok (.iload 5, 2) := by decide +kernel
theorem dX10_move_59 : decode cX10_move 59 = .ok (.iaload, 1) := by decide +kernel
theorem dX10_move_60 : decode cX10_move 60 = .ok (.aload_n 0, 1) := by decide +kernel
theorem dX10_move_61 : decode cX10_move 61 = .ok (.getfield 34, 3) := by decide +kernel
theorem dX10_move_64 : decode cX10_move 64 = .ok (.iload 5, 2) := by decide +kernel
theorem dX10_move_66 : decode cX10_move 66 = .ok (.iaload, 1) := by decide +kernel
theorem dX10_move_67 : decode cX10_move 67 = .ok (.iload 5, 2) := by decide +kernel
theorem dX10_move_69 : decode cX10_move 69 = .ok (.invokevirtual 135, 3) := by decide +kernel
theorem dX10_move_72 : decode cX10_move 72 = .ok (.iinc 5 1, 3) := by decide +kernel
theorem dX10_move_75 : decode cX10_move 75 = .ok (.goto (-36), 3) := by decide +kernel
theorem dX10_move_78 : decode cX10_move 78 = .ok (.aload_n 0, 1) := by decide +kernel
theorem dX10_move_79 : decode cX10_move 79 = .ok (.iload_n 2, 1) := by decide +kernel
theorem dX10_move_80 : decode cX10_move 80 = .ok (.iload_n 3, 1) := by decide +kernel
theorem dX10_move_81 : decode cX10_move 81 = .ok (.iload_n 1, 1) := by decide +kernel
theorem dX10_move_82 : decode cX10_move 82 = .ok (.invokevirtual 135, 3) := by decide +kernel
theorem dX10_move_85 : decode cX10_move 85 = .ok (.aload_n 0, 1) := by decide +kernel
theorem dX10_move_86 : decode cX10_move 86 = .ok (.invokevirtual 184, 3) := by decide +kernel
theorem dX10_move_89 : decode cX10_move 89 = .ok (.aload_n 0, 1) := by decide +kernel
theorem dX10_move_90 : decode cX10_move 90 = .ok (.iconst 2, 1) := by decide +kernel
theorem dX10_move_91 : decode cX10_move 91 = .ok (.iload_n 1, 1) := by decide +kernel
theorem dX10_move_92 : decode cX10_move 92 = .ok (.imul, 1) := by decide +kernel
theorem dX10_move_93 : decode cX10_move 93 = .ok (.invokevirtual 187, 3) := by decide +kernel
theorem dX10_move_96 : decode cX10_move 96 = .ok (.ireturn, 1) := by decide +kernel
theorem dX10_subtitleOf_0 : decode cX10_subtitleOf 0 = .ok (.iload_n 2, 1) := by decide +kernel
theorem dX10_subtitleOf_1 : decode cX10_subtitleOf 1 = .ok (.tableswitch 78 0 5 #[39, 46, 53, 60, 66, 72], 39) := by decide +kernel
theorem dX10_subtitleOf_40 : decode cX10_subtitleOf 40 = .ok (.aload_n 0, 1) := by decide +kernel
theorem dX10_subtitleOf_41 : decode cX10_subtitleOf 41 = .ok (.getfield 16, 3) := by decide +kernel
theorem dX10_subtitleOf_44 : decode cX10_subtitleOf 44 = .ok (.iload_n 1, 1) := by decide +kernel
theorem dX10_subtitleOf_45 : decode cX10_subtitleOf 45 = .ok (.iaload, 1) := by decide +kernel
theorem dX10_subtitleOf_46 : decode cX10_subtitleOf 46 = .ok (.ireturn, 1) := by decide +kernel
theorem dX10_subtitleOf_47 : decode cX10_subtitleOf 47 = .ok (.aload_n 0, 1) := by decide +kernel
theorem dX10_subtitleOf_48 : decode cX10_subtitleOf 48 = .ok (.getfield 19, 3) := by decide +kernel
theorem dX10_subtitleOf_51 : decode cX10_subtitleOf 51 = .ok (.iload_n 1, 1) := by decide +kernel
theorem dX10_subtitleOf_52 : decode cX10_subtitleOf 52 = .ok (.iaload, 1) := by decide +kernel
theorem dX10_subtitleOf_53 : decode cX10_subtitleOf 53 = .ok (.ireturn, 1) := by decide +kernel
theorem dX10_subtitleOf_54 : decode cX10_subtitleOf 54 = .ok (.aload_n 0, 1) := by decide +kernel
theorem dX10_subtitleOf_55 : decode cX10_subtitleOf 55 = .ok (.getfield 22, 3) := by decide +kernel
theorem dX10_subtitleOf_58 : decode cX10_subtitleOf 58 = .ok (.iload_n 1, 1) := by decide +kernel
theorem dX10_subtitleOf_59 : decode cX10_subtitleOf 59 = .ok (.iaload, 1) := by decide +kernel
theorem dX10_subtitleOf_60 : decode cX10_subtitleOf 60 = .ok (.ireturn, 1) := by decide +kernel
theorem dX10_subtitleOf_61 : decode cX10_subtitleOf 61 = .ok (.aload_n 0, 1) := by decide +kernel
theorem dX10_subtitleOf_62 : decode cX10_subtitleOf 62 = .ok (.iload_n 1, 1) := by decide +kernel
theorem dX10_subtitleOf_63 : decode cX10_subtitleOf 63 = .ok (.invokevirtual 114, 3) := by decide +kernel
theorem dX10_subtitleOf_66 : decode cX10_subtitleOf 66 = .ok (.ireturn, 1) := by decide +kernel
theorem dX10_subtitleOf_67 : decode cX10_subtitleOf 67 = .ok (.aload_n 0, 1) := by decide +kernel
theorem dX10_subtitleOf_68 : decode cX10_subtitleOf 68 = .ok (.iload_n 1, 1) := by decide +kernel
theorem dX10_subtitleOf_69 : decode cX10_subtitleOf 69 = .ok (.invokevirtual 123, 3) := by decide +kernel
theorem dX10_subtitleOf_72 : decode cX10_subtitleOf 72 = .ok (.ireturn, 1) := by decide +kernel
theorem dX10_subtitleOf_73 : decode cX10_subtitleOf 73 = .ok (.aload_n 0, 1) := by decide +kernel
theorem dX10_subtitleOf_74 : decode cX10_subtitleOf 74 = .ok (.iload_n 1, 1) := by decide +kernel
theorem dX10_subtitleOf_75 : decode cX10_subtitleOf 75 = .ok (.invokevirtual 193, 3) := by decide +kernel
theorem dX10_subtitleOf_78 : decode cX10_subtitleOf 78 = .ok (.ireturn, 1) := by decide +kernel
theorem dX10_subtitleOf_79 : decode cX10_subtitleOf 79 = .ok (.aload_n 0, 1) := by decide +kernel
theorem dX10_subtitleOf_80 : decode cX10_subtitleOf 80 = .ok (.iload_n 1, 1) := by decide +kernel
theorem dX10_subtitleOf_81 : decode cX10_subtitleOf 81 = .ok (.invokevirtual 120, 3) := by decide +kernel
theorem dX10_subtitleOf_84 : decode cX10_subtitleOf 84 = .ok (.ireturn, 1) := by decide +kernel
theorem dX10_subtitle_0 : decode cX10_subtitle 0 = .ok (.aload_n 0, 1) := by decide +kernel
theorem dX10_subtitle_1 : decode cX10_subtitle 1 = .ok (.iload_n 1, 1) := by decide +kernel
theorem dX10_subtitle_2 : decode cX10_subtitle 2 = .ok (.invokevirtual 190, 3) := by decide +kernel
theorem dX10_subtitle_5 : decode cX10_subtitle 5 = .ok (.ifCond .eq 13, 3) := by decide +kernel
theorem dX10_subtitle_8 : decode cX10_subtitle 8 = .ok (.iload_n 2, 1) := by decide +kernel
theorem dX10_subtitle_9 : decode cX10_subtitle 9 = .ok (.iconst 0, 1) := by decide +kernel
theorem dX10_subtitle_10 : decode cX10_subtitle 10 = .ok (.bipush 6, 2) := by decide +kernel
theorem dX10_subtitle_12 : decode cX10_subtitle 12 = .ok (.invokestatic 60, 3) := by decide +kernel
theorem dX10_subtitle_15 : decode cX10_subtitle 15 = .ok (.ifCond .ne 5, 3) := by decide +kernel
theorem dX10_subtitle_18 : decode cX10_subtitle 18 = .ok (.iconst (-1), 1) := by decide +kernel
theorem dX10_subtitle_19 : decode cX10_subtitle 19 = .ok (.ireturn, 1) := by decide +kernel
theorem dX10_subtitle_20 : decode cX10_subtitle 20 = .ok (.aload_n 0, 1) := by decide +kernel
theorem dX10_subtitle_21 : decode cX10_subtitle 21 = .ok (.invokevirtual 155, 3) := by decide +kernel
theorem dX10_subtitle_24 : decode cX10_subtitle 24 = .ok (.aload_n 0, 1) := by decide +kernel
theorem dX10_subtitle_25 : decode cX10_subtitle 25 = .ok (.iload_n 1, 1) := by decide +kernel
theorem dX10_subtitle_26 : decode cX10_subtitle 26 = .ok (.iload_n 2, 1) := by decide +kernel
theorem dX10_subtitle_27 : decode cX10_subtitle 27 = .ok (.invokevirtual 196, 3) := by decide +kernel
theorem dX10_subtitle_30 : decode cX10_subtitle 30 = .ok (.ireturn, 1) := by decide +kernel
theorem dX10_partOf_0 : decode cX10_partOf 0 = .ok (.aload_n 0, 1) := by decide +kernel
theorem dX10_partOf_1 : decode cX10_partOf 1 = .ok (.iload_n 1, 1) := by decide +kernel
theorem dX10_partOf_2 : decode cX10_partOf 2 = .ok (.invokevirtual 111, 3) := by decide +kernel
theorem dX10_partOf_5 : decode cX10_partOf 5 = .ok (.istore_n 3, 1) := by decide +kernel
theorem dX10_partOf_6 : decode cX10_partOf 6 = .ok (.iload_n 2, 1) := by decide +kernel
theorem dX10_partOf_7 : decode cX10_partOf 7 = .ok (.tableswitch 75 0 3 #[29, 35, 41, 57], 29) := by decide +kernel
theorem dX10_partOf_36 : decode cX10_partOf 36 = .ok (.aload_n 0, 1) := by decide +kernel
theorem dX10_partOf_37 : decode cX10_partOf 37 = .ok (.iload_n 1, 1) := by decide +kernel
theorem dX10_partOf_38 : decode cX10_partOf 38 = .ok (.invokevirtual 149, 3) := by decide +kernel
theorem dX10_partOf_41 : decode cX10_partOf 41 = .ok (.ireturn, 1) := by decide +kernel
theorem dX10_partOf_42 : decode cX10_partOf 42 = .ok (.aload_n 0, 1) := by decide +kernel
theorem dX10_partOf_43 : decode cX10_partOf 43 = .ok (.iload_n 1, 1) := by decide +kernel
theorem dX10_partOf_44 : decode cX10_partOf 44 = .ok (.invokevirtual 94, 3) := by decide +kernel
theorem dX10_partOf_47 : decode cX10_partOf 47 = .ok (.ireturn, 1) := by decide +kernel
theorem dX10_partOf_48 : decode cX10_partOf 48 = .ok (.iload_n 3, 1) := by decide +kernel
theorem dX10_partOf_49 : decode cX10_partOf 49 = .ok (.bipush (-9), 2) := by decide +kernel
theorem dX10_partOf_51 : decode cX10_partOf 51 = .ok (.if_icmp .ne 11, 3) := by decide +kernel
theorem dX10_partOf_54 : decode cX10_partOf 54 = .ok (.aload_n 0, 1) := by decide +kernel
theorem dX10_partOf_55 : decode cX10_partOf 55 = .ok (.iload_n 1, 1) := by decide +kernel
theorem dX10_partOf_56 : decode cX10_partOf 56 = .ok (.invokevirtual 94, 3) := by decide +kernel
theorem dX10_partOf_59 : decode cX10_partOf 59 = .ok (.goto 4, 3) := by decide +kernel
theorem dX10_partOf_62 : decode cX10_partOf 62 = .ok (.iload_n 3, 1) := by decide +kernel
theorem dX10_partOf_63 : decode cX10_partOf 63 = .ok (.ireturn, 1) := by decide +kernel
theorem dX10_partOf_64 : decode cX10_partOf 64 = .ok (.iload_n 3, 1) := by decide +kernel
theorem dX10_partOf_65 : decode cX10_partOf 65 = .ok (.bipush (-9), 2) := by decide +kernel
theorem dX10_partOf_67 : decode cX10_partOf 67 = .ok (.if_icmp .ne 8, 3) := by decide +kernel
theorem dX10_partOf_70 : decode cX10_partOf 70 = .ok (.bipush (-9), 2) := by decide +kernel
theorem dX10_partOf_72 : decode cX10_partOf 72 = .ok (.goto 9, 3) := by decide +kernel
theorem dX10_partOf_75 : decode cX10_partOf 75 = .ok (.aload_n 0, 1) := by decide +kernel
theorem dX10_partOf_76 : decode cX10_partOf 76 = .ok (.iload_n 1, 1) := by decide +kernel
theorem dX10_partOf_77 : decode cX10_partOf 77 = .ok (.iload_n 3, 1) := by decide +kernel
theorem dX10_partOf_78 : decode cX10_partOf 78 = .ok (.invokevirtual 108, 3) := by decide +kernel
theorem dX10_partOf_81 : decode cX10_partOf 81 = .ok (.ireturn, 1) := by decide +kernel
theorem dX10_partOf_82 : decode cX10_partOf 82 = .ok (.iload_n 2, 1) := by decide +kernel
theorem dX10_partOf_83 : decode cX10_partOf 83 = .ok (.bipush 10, 2) := by decide +kernel
theorem dX10_partOf_85 : decode cX10_partOf 85 = .ok (.isub, 1) := by decide +kernel
theorem dX10_partOf_86 : decode cX10_partOf 86 = .ok (.aload_n 0, 1) := by decide +kernel
theorem dX10_partOf_87 : decode cX10_partOf 87 = .ok (.iload_n 1, 1) := by decide +kernel
theorem dX10_partOf_88 : decode cX10_partOf 88 = .ok (.invokevirtual 94, 3) := by decide +kernel
theorem dX10_partOf_91 : decode cX10_partOf 91 = .ok (.if_icmp .ge 15, 3) := by decide +kernel
theorem dX10_partOf_94 : decode cX10_partOf 94 = .ok (.aload_n 0, 1) := by decide +kernel
theorem dX10_partOf_95 : decode cX10_partOf 95 = .ok (.iload_n 1, 1) := by decide +kernel
theorem dX10_partOf_96 : decode cX10_partOf 96 = .ok (.iload_n 2, 1) := by decide +kernel
theorem dX10_partOf_97 : decode cX10_partOf 97 = .ok (.bipush 10, 2) := by decide +kernel
theorem dX10_partOf_99 : decode cX10_partOf 99 = .ok (.isub, 1) := by decide +kernel
theorem dX10_partOf_100 : decode cX10_partOf 100 = .ok (.invokevirtual 97, 3) := by decide +kernel
theorem dX10_partOf_103 : decode cX10_partOf 103 = .ok (.goto 5, 3) := by decide +kernel
theorem dX10_partOf_106 : decode cX10_partOf 106 = .ok (.bipush (-9), 2) := by decide +kernel
theorem dX10_partOf_108 : decode cX10_partOf 108 = .ok (.ireturn, 1) := by decide +kernel
theorem dX10_part_0 : decode cX10_part 0 = .ok (.aload_n 0, 1) := by decide +kernel
theorem dX10_part_1 : decode cX10_part 1 = .ok (.iload_n 1, 1) := by decide +kernel
theorem dX10_part_2 : decode cX10_part 2 = .ok (.invokevirtual 190, 3) := by decide +kernel
theorem dX10_part_5 : decode cX10_part 5 = .ok (.ifCond .eq 26, 3) := by decide +kernel
theorem dX10_part_8 : decode cX10_part 8 = .ok (.iload_n 2, 1) := by decide +kernel
theorem dX10_part_9 : decode cX10_part 9 = .ok (.iconst 0, 1) := by decide +kernel
theorem dX10_part_10 : decode cX10_part 10 = .ok (.iconst 1, 1) := by decide +kernel
theorem dX10_part_11 : decode cX10_part 11 = .ok (.invokestatic 60, 3) := by decide +kernel
theorem dX10_part_14 : decode cX10_part 14 = .ok (.ifCond .eq 17, 3) := by decide +kernel
theorem dX10_part_17 : decode cX10_part 17 = .ok (.iload_n 3, 1) := by decide +kernel
theorem dX10_part_18 : decode cX10_part 18 = .ok (.ifCond .lt 13, 3) := by decide +kernel
theorem dX10_part_21 : decode cX10_part 21 = .ok (.iload_n 3, 1) := by decide +kernel
theorem dX10_part_22 : decode cX10_part 22 = .ok (.iconst 4, 1) := by decide +kernel
theorem dX10_part_23 : decode cX10_part 23 = .ok (.bipush 9, 2) := by decide +kernel
theorem dX10_part_25 : decode cX10_part 25 = .ok (.invokestatic 60, 3) := by decide +kernel
theorem dX10_part_28 : decode cX10_part 28 = .ok (.ifCond .eq 5, 3) := by decide +kernel
theorem dX10_part_31 : decode cX10_part 31 = .ok (.iconst (-1), 1) := by decide +kernel
theorem dX10_part_32 : decode cX10_part 32 = .ok (.ireturn, 1) := by decide +kernel
theorem dX10_part_33 : decode cX10_part 33 = .ok (.iload_n 2, 1) := by decide +kernel
theorem dX10_part_34 : decode cX10_part 34 = .ok (.aload_n 0, 1) := by decide +kernel
theorem dX10_part_35 : decode cX10_part 35 = .ok (.getfield 7, 3) := by decide +kernel
theorem dX10_part_38 : decode cX10_part 38 = .ok (.aload_n 0, 1) := by decide +kernel
theorem dX10_part_39 : decode cX10_part 39 = .ok (.iload_n 1, 1) := by decide +kernel
theorem dX10_part_40 : decode cX10_part 40 = .ok (.invokevirtual 81, 3) := by decide +kernel
theorem dX10_part_43 : decode cX10_part 43 = .ok (.iconst 2, 1) := by decide +kernel
theorem dX10_part_44 : decode cX10_part 44 = .ok (.iadd, 1) := by decide +kernel
theorem dX10_part_45 : decode cX10_part 45 = .ok (.iaload, 1) := by decide +kernel
theorem dX10_part_46 : decode cX10_part 46 = .ok (.if_icmp .lt 8, 3) := by decide +kernel
theorem dX10_part_49 : decode cX10_part 49 = .ok (.bipush (-9), 2) := by decide +kernel
theorem dX10_part_51 : decode cX10_part 51 = .ok (.goto 13, 3) := by decide +kernel
theorem dX10_part_54 : decode cX10_part 54 = .ok (.aload_n 0, 1) := by decide +kernel
theorem dX10_part_55 : decode cX10_part 55 = .ok (.iconst 2, 1) := by decide +kernel
theorem dX10_part_56 : decode cX10_part 56 = .ok (.iload_n 1, 1) := by decide +kernel
theorem dX10_part_57 : decode cX10_part 57 = .ok (.imul, 1) := by decide +kernel
theorem dX10_part_58 : decode cX10_part 58 = .ok (.iload_n 2, 1) := by decide +kernel
theorem dX10_part_59 : decode cX10_part 59 = .ok (.iadd, 1) := by decide +kernel
theorem dX10_part_60 : decode cX10_part 60 = .ok (.iload_n 3, 1) := by decide +kernel
theorem dX10_part_61 : decode cX10_part 61 = .ok (.invokevirtual 199, 3) := by decide +kernel
theorem dX10_part_64 : decode cX10_part 64 = .ok (.ireturn, 1) := by decide +kernel
theorem dX10_set_0 : decode cX10_set 0 = .ok (.iload_n 1, 1) := by decide +kernel
theorem dX10_set_1 : decode cX10_set 1 = .ok (.iconst 0, 1) := by decide +kernel
theorem dX10_set_2 : decode cX10_set 2 = .ok (.iconst 4, 1) := by decide +kernel
theorem dX10_set_3 : decode cX10_set 3 = .ok (.invokestatic 60, 3) := by decide +kernel
theorem dX10_set_6 : decode cX10_set 6 = .ok (.ifCond .eq 62, 3) := by decide +kernel
theorem dX10_set_9 : decode cX10_set 9 = .ok (.iload_n 2, 1) := by decide +kernel
theorem dX10_set_10 : decode cX10_set 10 = .ok (.iload_n 1, 1) := by decide +kernel
theorem dX10_set_11 : decode cX10_set 11 = .ok (.iconst 4, 1) := by decide +kernel
theorem dX10_set_12 : decode cX10_set 12 = .ok (.if_icmp .ne 8, 3) := by decide +kernel
theorem dX10_set_15 : decode cX10_set 15 = .ok (.bipush 8, 2) := by decide +kernel
theorem dX10_set_17 : decode cX10_set 17 = .ok (.goto 13, 3) := by decide +kernel
theorem dX10_set_20 : decode cX10_set 20 = .ok (.iload_n 1, 1) := by decide +kernel
theorem dX10_set_21 : decode cX10_set 21 = .ok (.iconst 2, 1) := by decide +kernel
theorem dX10_set_22 : decode cX10_set 22 = .ok (.if_icmp .ge 7, 3) := by decide +kernel
theorem dX10_set_25 : decode cX10_set 25 = .ok (.iconst 1, 1) := by decide +kernel
theorem dX10_set_26 : decode cX10_set 26 = .ok (.goto 4, 3) := by decide +kernel
theorem dX10_set_29 : decode cX10_set 29 = .ok (.iconst 0, 1) := by decide +kernel
theorem dX10_set_30 : decode cX10_set 30 = .ok (.iload_n 1, 1) := by decide +kernel
theorem dX10_set_31 : decode cX10_set 31 = .ok (.ifCond .ne 8, 3) := by decide +kernel
theorem dX10_set_34 : decode cX10_set 34 = .ok (.bipush 20, 2) := by decide +kernel
theorem dX10_set_36 : decode cX10_set 36 = .ok (.goto 26, 3) := by decide +kernel
theorem dX10_set_39 : decode cX10_set 39 = .ok (.iload_n 1, 1) := by decide +kernel
theorem dX10_set_40 : decode cX10_set 40 = .ok (.iconst 1, 1) := by decide +kernel
theorem dX10_set_41 : decode cX10_set 41 = .ok (.if_icmp .ne 9, 3) := by decide +kernel
theorem dX10_set_44 : decode cX10_set 44 = .ok (.sipush 200, 3) := by decide +kernel
theorem dX10_set_47 : decode cX10_set 47 = .ok (.goto 15, 3) := by decide +kernel
theorem dX10_set_50 : decode cX10_set 50 = .ok (.iload_n 1, 1) := by decide +kernel
theorem dX10_set_51 : decode cX10_set 51 = .ok (.iconst 4, 1) := by decide +kernel
theorem dX10_set_52 : decode cX10_set 52 = .ok (.if_icmp .ne 8, 3) := by decide +kernel
theorem dX10_set_55 : decode cX10_set 55 = .ok (.bipush 40, 2) := by decide +kernel
theorem dX10_set_57 : decode cX10_set 57 = .ok (.goto 5, 3) := by decide +kernel
theorem dX10_set_60 : decode cX10_set 60 = .ok (.bipush 50, 2) := by decide +kernel
theorem dX10_set_62 : decode cX10_set 62 = .ok (.invokestatic 60, 3) := by decide +kernel
theorem dX10_set_65 : decode cX10_set 65 = .ok (.ifCond .ne 5, 3) := by decide +kernel
theorem dX10_set_68 : decode cX10_set 68 = .ok (.iconst (-1), 1) := by decide +kernel
theorem dX10_set_69 : decode cX10_set 69 = .ok (.ireturn, 1) := by decide +kernel
theorem dX10_set_70 : decode cX10_set 70 = .ok (.aload_n 0, 1) := by decide +kernel
theorem dX10_set_71 : decode cX10_set 71 = .ok (.invokevirtual 68, 3) := by decide +kernel
theorem dX10_set_74 : decode cX10_set 74 = .ok (.aload_n 0, 1) := by decide +kernel
theorem dX10_set_75 : decode cX10_set 75 = .ok (.iload_n 1, 1) := by decide +kernel
theorem dX10_set_76 : decode cX10_set 76 = .ok (.invokevirtual 105, 3) := by decide +kernel
theorem dX10_set_79 : decode cX10_set 79 = .ok (.istore_n 3, 1) := by decide +kernel
theorem dX10_set_80 : decode cX10_set 80 = .ok (.aload_n 0, 1) := by decide +kernel
theorem dX10_set_81 : decode cX10_set 81 = .ok (.getfield 7, 3) := by decide +kernel
theorem dX10_set_84 : decode cX10_set 84 = .ok (.sipush 1435, 3) := by decide +kernel
theorem dX10_set_87 : decode cX10_set 87 = .ok (.iload_n 1, 1) := by decide +kernel
theorem dX10_set_88 : decode cX10_set 88 = .ok (.iadd, 1) := by decide +kernel
theorem dX10_set_89 : decode cX10_set 89 = .ok (.iload_n 2, 1) := by decide +kernel
theorem dX10_set_90 : decode cX10_set 90 = .ok (.iastore, 1) := by decide +kernel
theorem dX10_set_91 : decode cX10_set 91 = .ok (.iload_n 3, 1) := by decide +kernel
theorem dX10_set_92 : decode cX10_set 92 = .ok (.ireturn, 1) := by decide +kernel
theorem dX10_conform_0 : decode cX10_conform 0 = .ok (.iload_n 1, 1) := by decide +kernel
theorem dX10_conform_1 : decode cX10_conform 1 = .ok (.iconst 1, 1) := by decide +kernel
theorem dX10_conform_2 : decode cX10_conform 2 = .ok (.bipush 31, 2) := by decide +kernel
theorem dX10_conform_4 : decode cX10_conform 4 = .ok (.invokestatic 60, 3) := by decide +kernel
theorem dX10_conform_7 : decode cX10_conform 7 = .ok (.ifCond .ne 5, 3) := by decide +kernel
theorem dX10_conform_10 : decode cX10_conform 10 = .ok (.iconst (-1), 1) := by decide +kernel
theorem dX10_conform_11 : decode cX10_conform 11 = .ok (.ireturn, 1) := by decide +kernel
theorem dX10_conform_12 : decode cX10_conform 12 = .ok (.aload_n 0, 1) := by decide +kernel
theorem dX10_conform_13 : decode cX10_conform 13 = .ok (.iload_n 1, 1) := by decide +kernel
theorem dX10_conform_14 : decode cX10_conform 14 = .ok (.invokevirtual 202, 3) := by decide +kernel
theorem dX10_conform_17 : decode cX10_conform 17 = .ok (.ifCond .ne 6, 3) := by decide +kernel
theorem dX10_conform_20 : decode cX10_conform 20 = .ok (.bipush (-3), 2) := by decide +kernel
theorem dX10_conform_22 : decode cX10_conform 22 = .ok (.ireturn, 1) := by decide +kernel
theorem dX10_conform_23 : decode cX10_conform 23 = .ok (.aload_n 0, 1) := by decide +kernel
theorem dX10_conform_24 : decode cX10_conform 24 = .ok (.invokevirtual 68, 3) := by decide +kernel
theorem dX10_conform_27 : decode cX10_conform 27 = .ok (.aload_n 0, 1) := by decide +kernel
theorem dX10_conform_28 : decode cX10_conform 28 = .ok (.invokevirtual 184, 3) := by decide +kernel
theorem dX10_conform_31 : decode cX10_conform 31 = .ok (.aload_n 0, 1) := by decide +kernel
theorem dX10_conform_32 : decode cX10_conform 32 = .ok (.getfield 84, 3) := by decide +kernel
theorem dX10_conform_35 : decode cX10_conform 35 = .ok (.ireturn, 1) := by decide +kernel
theorem dX10_wouldBe_0 : decode cX10_wouldBe 0 = .ok (.aload_n 0, 1) := by decide +kernel
theorem dX10_wouldBe_1 : decode cX10_wouldBe 1 = .ok (.iload_n 1, 1) := by decide +kernel
theorem dX10_wouldBe_2 : decode cX10_wouldBe 2 = .ok (.invokevirtual 202, 3) := by decide +kernel
theorem dX10_wouldBe_5 : decode cX10_wouldBe 5 = .ok (.ifCond .ne 6, 3) := by decide +kernel
theorem dX10_wouldBe_8 : decode cX10_wouldBe 8 = .ok (.bipush (-3), 2) := by decide +kernel
theorem dX10_wouldBe_10 : decode cX10_wouldBe 10 = .ok (.ireturn, 1) := by decide +kernel
theorem dX10_wouldBe_11 : decode cX10_wouldBe 11 = .ok (.iconst 0, 1) := by decide +kernel
theorem dX10_wouldBe_12 : decode cX10_wouldBe 12 = .ok (.istore_n 3, 1) := by decide +kernel
theorem dX10_wouldBe_13 : decode cX10_wouldBe 13 = .ok (.iconst 0, 1) := by decide +kernel
theorem dX10_wouldBe_14 : decode cX10_wouldBe 14 = .ok (.istore 4, 2) := by decide +kernel
theorem dX10_wouldBe_16 : decode cX10_wouldBe 16 = .ok (.iconst 0, 1) := by decide +kernel
theorem dX10_wouldBe_17 : decode cX10_wouldBe 17 = .ok (.istore 5, 2) := by decide +kernel
theorem dX10_wouldBe_19 : decode cX10_wouldBe 19 = .ok (.iconst 0, 1) := by decide +kernel
theorem dX10_wouldBe_20 : decode cX10_wouldBe 20 = .ok (.istore 6, 2) := by decide +kernel
theorem dX10_wouldBe_22 : decode cX10_wouldBe 22 = .ok (.iload 6, 2) := by decide +kernel
theorem dX10_wouldBe_24 : decode cX10_wouldBe 24 = .ok (.aload_n 0, 1) := by decide +kernel
theorem dX10_wouldBe_25 : decode cX10_wouldBe 25 = .ok (.getfield 84, 3) := by decide +kernel
theorem dX10_wouldBe_28 : decode cX10_wouldBe 28 = .ok (.if_icmp .ge 72, 3) := by decide +kernel
theorem dX10_wouldBe_31 : decode cX10_wouldBe 31 = .ok (.iload_n 3, 1) := by decide +kernel
theorem dX10_wouldBe_32 : decode cX10_wouldBe 32 = .ok (.aload_n 0, 1) := by decide +kernel
theorem dX10_wouldBe_33 : decode cX10_wouldBe 33 = .ok (.getfield 19, 3) := by decide +kernel
theorem dX10_wouldBe_36 : decode cX10_wouldBe 36 = .ok (.iload 6, 2) := by decide +kernel
theorem dX10_wouldBe_38 : decode cX10_wouldBe 38 = .ok (.iaload, 1) := by decide +kernel
theorem dX10_wouldBe_39 : decode cX10_wouldBe 39 = .ok (.aload_n 0, 1) := by decide +kernel
theorem dX10_wouldBe_40 : decode cX10_wouldBe 40 = .ok (.getfield 16, 3) := by decide +kernel
theorem dX10_wouldBe_43 : decode cX10_wouldBe 43 = .ok (.iload 6, 2) := by decide +kernel
theorem dX10_wouldBe_45 : decode cX10_wouldBe 45 = .ok (.iaload, 1) := by decide +kernel
theorem dX10_wouldBe_46 : decode cX10_wouldBe 46 = .ok (.isub, 1) := by decide +kernel
theorem dX10_wouldBe_47 : decode cX10_wouldBe 47 = .ok (.iadd, 1) := by decide +kernel
theorem dX10_wouldBe_48 : decode cX10_wouldBe 48 = .ok (.istore_n 3, 1) := by decide +kernel
theorem dX10_wouldBe_49 : decode cX10_wouldBe 49 = .ok (.iload 4, 2) := by decide +kernel
theorem dX10_wouldBe_51 : decode cX10_wouldBe 51 = .ok (.aload_n 0, 1) := by decide +kernel
theorem dX10_wouldBe_52 : decode cX10_wouldBe 52 = .ok (.iload 6, 2) := by decide +kernel
theorem dX10_wouldBe_54 : decode cX10_wouldBe 54 = .ok (.invokevirtual 193, 3) := by decide +kernel
theorem dX10_wouldBe_57 : decode cX10_wouldBe 57 = .ok (.ifCond .le 7, 3) := by decide +kernel
theorem dX10_wouldBe_60 : decode cX10_wouldBe 60 = .ok (.iconst 1, 1) := by decide +kernel
theorem dX10_wouldBe_61 : decode cX10_wouldBe 61 = .ok (.goto 4, 3) := by decide +kernel
theorem dX10_wouldBe_64 : decode cX10_wouldBe 64 = .ok (.iconst 0, 1) := by decide +kernel
theorem dX10_wouldBe_65 : decode cX10_wouldBe 65 = .ok (.iadd, 1) := by decide +kernel
theorem dX10_wouldBe_66 : decode cX10_wouldBe 66 = .ok (.istore 4, 2) := by decide +kernel
theorem dX10_wouldBe_68 : decode cX10_wouldBe 68 = .ok (.aload_n 0, 1) := by decide +kernel
theorem dX10_wouldBe_69 : decode cX10_wouldBe 69 = .ok (.getfield 19, 3) := by decide +kernel
theorem dX10_wouldBe_72 : decode cX10_wouldBe 72 = .ok (.iload 6, 2) := by decide +kernel
theorem dX10_wouldBe_74 : decode cX10_wouldBe 74 = .ok (.iaload, 1) := by decide +kernel
theorem dX10_wouldBe_75 : decode cX10_wouldBe 75 = .ok (.iload 5, 2) := by decide +kernel
theorem dX10_wouldBe_77 : decode cX10_wouldBe 77 = .ok (.if_icmp .le 13, 3) := by decide +kernel
theorem dX10_wouldBe_80 : decode cX10_wouldBe 80 = .ok (.aload_n 0, 1) := by decide +kernel
theorem dX10_wouldBe_81 : decode cX10_wouldBe 81 = .ok (.getfield 19, 3) := by decide +kernel
theorem dX10_wouldBe_84 : decode cX10_wouldBe 84 = .ok (.iload 6, 2) := by decide +kernel
theorem dX10_wouldBe_86 : decode cX10_wouldBe 86 = .ok (.iaload, 1) := by decide +kernel
theorem dX10_wouldBe_87 : decode cX10_wouldBe 87 = .ok (.goto 5, 3) := by decide +kernel
theorem dX10_wouldBe_90 : decode cX10_wouldBe 90 = .ok (.iload 5, 2) := by decide +kernel
theorem dX10_wouldBe_92 : decode cX10_wouldBe 92 = .ok (.istore 5, 2) := by decide +kernel
theorem dX10_wouldBe_94 : decode cX10_wouldBe 94 = .ok (.iinc 6 1, 3) := by decide +kernel
theorem dX10_wouldBe_97 : decode cX10_wouldBe 97 = .ok (.goto (-75), 3) := by decide +kernel
theorem dX10_wouldBe_100 : decode cX10_wouldBe 100 = .ok (.iload_n 2, 1) := by decide +kernel
theorem dX10_wouldBe_101 : decode cX10_wouldBe 101 = .ok (.ifCond .ne 10, 3) := by decide +kernel
theorem dX10_wouldBe_104 : decode cX10_wouldBe 104 = .ok (.aload_n 0, 1) := by decide +kernel
theorem dX10_wouldBe_105 : decode cX10_wouldBe 105 = .ok (.getfield 84, 3) := by decide +kernel
theorem dX10_wouldBe_108 : decode cX10_wouldBe 108 = .ok (.goto 36, 3) := by decide +kernel
theorem dX10_wouldBe_111 : decode cX10_wouldBe 111 = .ok (.iload_n 2, 1) := by decide +kernel
theorem dX10_wouldBe_112 : decode cX10_wouldBe 112 = .ok (.iconst 1, 1) := by decide +kernel
theorem dX10_wouldBe_113 : decode cX10_wouldBe 113 = .ok (.if_icmp .ne 7, 3) := by decide +kernel
theorem dX10_wouldBe_116 : decode cX10_wouldBe 116 = .ok (.iload_n 3, 1) := by decide +kernel
theorem dX10_wouldBe_117 : decode cX10_wouldBe 117 = .ok (.goto 27, 3) := by decide +kernel
theorem dX10_wouldBe_120 : decode cX10_wouldBe 120 = .ok (.iload_n 2, 1) := by decide +kernel
theorem dX10_wouldBe_121 : decode cX10_wouldBe 121 = .ok (.iconst 2, 1) := by decide +kernel
theorem dX10_wouldBe_122 : decode cX10_wouldBe 122 = .ok (.if_icmp .ne 8, 3) := by decide +kernel
theorem dX10_wouldBe_125 : decode cX10_wouldBe 125 = .ok (.iload 4, 2) := by decide +kernel
theorem dX10_wouldBe_127 : decode cX10_wouldBe 127 = .ok (.goto 17, 3) := by decide +kernel
theorem dX10_wouldBe_130 : decode cX10_wouldBe 130 = .ok (.iload_n 2, 1) := by decide +kernel
theorem dX10_wouldBe_131 : decode cX10_wouldBe 131 = .ok (.iconst 3, 1) := by decide +kernel
theorem dX10_wouldBe_132 : decode cX10_wouldBe 132 = .ok (.if_icmp .ne 8, 3) := by decide +kernel
theorem dX10_wouldBe_135 : decode cX10_wouldBe 135 = .ok (.iload 5, 2) := by decide +kernel
theorem dX10_wouldBe_137 : decode cX10_wouldBe 137 = .ok (.goto 7, 3) := by decide +kernel
theorem dX10_wouldBe_140 : decode cX10_wouldBe 140 = .ok (.aload_n 0, 1) := by decide +kernel
theorem dX10_wouldBe_141 : decode cX10_wouldBe 141 = .ok (.getfield 142, 3) := by decide +kernel
theorem dX10_wouldBe_144 : decode cX10_wouldBe 144 = .ok (.ireturn, 1) := by decide +kernel
theorem dX10_ifConform_0 : decode cX10_ifConform 0 = .ok (.iload_n 1, 1) := by decide +kernel
theorem dX10_ifConform_1 : decode cX10_ifConform 1 = .ok (.iconst 1, 1) := by decide +kernel
theorem dX10_ifConform_2 : decode cX10_ifConform 2 = .ok (.bipush 31, 2) := by decide +kernel
theorem dX10_ifConform_4 : decode cX10_ifConform 4 = .ok (.invokestatic 60, 3) := by decide +kernel
theorem dX10_ifConform_7 : decode cX10_ifConform 7 = .ok (.ifCond .eq 21, 3) := by decide +kernel
theorem dX10_ifConform_10 : decode cX10_ifConform 10 = .ok (.iload_n 2, 1) := by decide +kernel
theorem dX10_ifConform_11 : decode cX10_ifConform 11 = .ok (.iconst 0, 1) := by decide +kernel
theorem dX10_ifConform_12 : decode cX10_ifConform 12 = .ok (.iconst 4, 1) := by decide +kernel
theorem dX10_ifConform_13 : decode cX10_ifConform 13 = .ok (.invokestatic 60, 3) := by decide +kernel
theorem dX10_ifConform_16 : decode cX10_ifConform 16 = .ok (.ifCond .eq 12, 3) := by decide +kernel
theorem dX10_ifConform_19 : decode cX10_ifConform 19 = .ok (.aload_n 0, 1) := by decide +kernel
theorem dX10_ifConform_20 : decode cX10_ifConform 20 = .ok (.iload_n 1, 1) := by decide +kernel
theorem dX10_ifConform_21 : decode cX10_ifConform 21 = .ok (.iload_n 2, 1) := by decide +kernel
theorem dX10_ifConform_22 : decode cX10_ifConform 22 = .ok (.invokevirtual 205, 3) := by decide +kernel
theorem dX10_ifConform_25 : decode cX10_ifConform 25 = .ok (.goto 4, 3) := by decide +kernel
theorem dX10_ifConform_28 : decode cX10_ifConform 28 = .ok (.iconst (-1), 1) := by decide +kernel
theorem dX10_ifConform_29 : decode cX10_ifConform 29 = .ok (.ireturn, 1) := by decide +kernel
theorem dX10_stretches_0 : decode cX10_stretches 0 = .ok (.aload_n 0, 1) := by decide +kernel
theorem dX10_stretches_1 : decode cX10_stretches 1 = .ok (.iload_n 1, 1) := by decide +kernel
theorem dX10_stretches_2 : decode cX10_stretches 2 = .ok (.invokevirtual 190, 3) := by decide +kernel
theorem dX10_stretches_5 : decode cX10_stretches 5 = .ok (.ifCond .ne 5, 3) := by decide +kernel
theorem dX10_stretches_8 : decode cX10_stretches 8 = .ok (.iconst (-1), 1) := by decide +kernel
theorem dX10_stretches_9 : decode cX10_stretches 9 = .ok (.ireturn, 1) := by decide +kernel
theorem dX10_stretches_10 : decode cX10_stretches 10 = .ok (.aload_n 0, 1) := by decide +kernel
theorem dX10_stretches_11 : decode cX10_stretches 11 = .ok (.aload_n 0, 1) := by decide +kernel
theorem dX10_stretches_12 : decode cX10_stretches 12 = .ok (.getfield 7, 3) := by decide +kernel
theorem dX10_stretches_15 : decode cX10_stretches 15 = .ok (.aload_n 0, 1) := by decide +kernel
theorem dX10_stretches_16 : decode cX10_stretches 16 = .ok (.iload_n 1, 1) := by decide +kernel
theorem dX10_stretches_17 : decode cX10_stretches 17 = .ok (.invokevirtual 81, 3) := by decide +kernel
theorem dX10_stretches_20 : decode cX10_stretches 20 = .ok (.iaload, 1) := by decide +kernel
theorem dX10_stretches_21 : decode cX10_stretches 21 = .ok (.aload_n 0, 1) := by decide +kernel
theorem dX10_stretches_22 : decode cX10_stretches 22 = .ok (.getfield 7, 3) := by decide +kernel
theorem dX10_stretches_25 : decode cX10_stretches 25 = .ok (.aload_n 0, 1) := by decide +kernel
theorem dX10_stretches_26 : decode cX10_stretches 26 = .ok (.iload_n 1, 1) := by decide +kernel
theorem dX10_stretches_27 : decode cX10_stretches 27 = .ok (.invokevirtual 81, 3) := by decide +kernel
theorem dX10_stretches_30 : decode cX10_stretches 30 = .ok (.iconst 1, 1) := by decide +kernel
theorem dX10_stretches_31 : decode cX10_stretches 31 = .ok (.iadd, 1) := by decide +kernel
theorem dX10_stretches_32 : decode cX10_stretches 32 = .ok (.iaload, 1) := by decide +kernel
theorem dX10_stretches_33 : decode cX10_stretches 33 = .ok (.iload_n 1, 1) := by decide +kernel
theorem dX10_stretches_34 : decode cX10_stretches 34 = .ok (.iconst 0, 1) := by decide +kernel
theorem dX10_stretches_35 : decode cX10_stretches 35 = .ok (.invokevirtual 145, 3) := by decide +kernel
theorem dX10_stretches_38 : decode cX10_stretches 38 = .ok (.pop, 1) := by decide +kernel
theorem dX10_stretches_39 : decode cX10_stretches 39 = .ok (.aload_n 0, 1) := by decide +kernel
theorem dX10_stretches_40 : decode cX10_stretches 40 = .ok (.getfield 132, 3) := by decide +kernel
theorem dX10_stretches_43 : decode cX10_stretches 43 = .ok (.ireturn, 1) := by decide +kernel
theorem dX10_shown_0 : decode cX10_shown 0 = .ok (.iload_n 1, 1) := by decide +kernel
theorem dX10_shown_1 : decode cX10_shown 1 = .ok (.iconst 0, 1) := by decide +kernel
theorem dX10_shown_2 : decode cX10_shown 2 = .ok (.sipush 9999, 3) := by decide +kernel
theorem dX10_shown_5 : decode cX10_shown 5 = .ok (.invokestatic 60, 3) := by decide +kernel
theorem dX10_shown_8 : decode cX10_shown 8 = .ok (.ifCond .ne 5, 3) := by decide +kernel
theorem dX10_shown_11 : decode cX10_shown 11 = .ok (.iconst (-1), 1) := by decide +kernel
theorem dX10_shown_12 : decode cX10_shown 12 = .ok (.ireturn, 1) := by decide +kernel
theorem dX10_shown_13 : decode cX10_shown 13 = .ok (.aload_n 0, 1) := by decide +kernel
theorem dX10_shown_14 : decode cX10_shown 14 = .ok (.invokevirtual 155, 3) := by decide +kernel
theorem dX10_shown_17 : decode cX10_shown 17 = .ok (.iconst 0, 1) := by decide +kernel
theorem dX10_shown_18 : decode cX10_shown 18 = .ok (.istore_n 2, 1) := by decide +kernel
theorem dX10_shown_19 : decode cX10_shown 19 = .ok (.iconst 0, 1) := by decide +kernel
theorem dX10_shown_20 : decode cX10_shown 20 = .ok (.istore_n 3, 1) := by decide +kernel
theorem dX10_shown_21 : decode cX10_shown 21 = .ok (.iload_n 3, 1) := by decide +kernel
theorem dX10_shown_22 : decode cX10_shown 22 = .ok (.aload_n 0, 1) := by decide +kernel
theorem dX10_shown_23 : decode cX10_shown 23 = .ok (.getfield 84, 3) := by decide +kernel
theorem dX10_shown_26 : decode cX10_shown 26 = .ok (.if_icmp .ge 39, 3) := by decide +kernel
theorem dX10_shown_29 : decode cX10_shown 29 = .ok (.iload_n 2, 1) := by decide +kernel
theorem dX10_shown_30 : decode cX10_shown 30 = .ok (.aload_n 0, 1) := by decide +kernel
theorem dX10_shown_31 : decode cX10_shown 31 = .ok (.getfield 16, 3) := by decide +kernel
theorem dX10_shown_34 : decode cX10_shown 34 = .ok (.iload_n 3, 1) := by decide +kernel
theorem dX10_shown_35 : decode cX10_shown 35 = .ok (.iaload, 1) := by decide +kernel
theorem dX10_shown_36 : decode cX10_shown 36 = .ok (.iload_n 1, 1) := by decide +kernel
theorem dX10_shown_37 : decode cX10_shown 37 = .ok (.if_icmp .gt 19, 3) := by decide +kernel
theorem dX10_shown_40 : decode cX10_shown 40 = .ok (.iload_n 1, 1) := by decide +kernel
theorem dX10_shown_41 : decode cX10_shown 41 = .ok (.aload_n 0, 1) := by decide +kernel
theorem dX10_shown_42 : decode cX10_shown 42 = .ok (.getfield 19, 3) := by decide +kernel
theorem dX10_shown_45 : decode cX10_shown 45 = .ok (.iload_n 3, 1) := by decide +kernel
theorem dX10_shown_46 : decode cX10_shown 46 = .ok (.iaload, 1) := by decide +kernel
theorem dX10_shown_47 : decode cX10_shown 47 = .ok (.if_icmp .ge 9, 3) := by decide +kernel
theorem dX10_shown_50 : decode cX10_shown 50 = .ok (.iconst 1, 1) := by decide +kernel
theorem dX10_shown_51 : decode cX10_shown 51 = .ok (.iload_n 3, 1) := by decide +kernel
theorem dX10_shown_52 : decode cX10_shown 52 = .ok (.ishl, 1) := by decide +kernel
theorem dX10_shown_53 : decode cX10_shown 53 = .ok (.goto 4, 3) := by decide +kernel
theorem dX10_shown_56 : decode cX10_shown 56 = .ok (.iconst 0, 1) := by decide +kernel
theorem dX10_shown_57 : decode cX10_shown 57 = .ok (.ior, 1) := by decide +kernel
theorem dX10_shown_58 : decode cX10_shown 58 = .ok (.istore_n 2, 1) := by decide +kernel
theorem dX10_shown_59 : decode cX10_shown 59 = .ok (.iinc 3 1, 3) := by decide +kernel
theorem dX10_shown_62 : decode cX10_shown 62 = .ok (.goto (-41), 3) := by decide +kernel
theorem dX10_shown_65 : decode cX10_shown 65 = .ok (.iload_n 2, 1) := by decide +kernel
theorem dX10_shown_66 : decode cX10_shown 66 = .ok (.ireturn, 1) := by decide +kernel
theorem dX10_faultsMany_0 : decode cX10_faultsMany 0 = .ok (.aload_n 0, 1) := by decide +kernel
theorem dX10_faultsMany_1 : decode cX10_faultsMany 1 = .ok (.invokevirtual 155, 3) := by decide +kernel
theorem dX10_faultsMany_4 : decode cX10_faultsMany 4 = .ok (.iconst 0, 1) := by decide +kernel
theorem dX10_faultsMany_5 : decode cX10_faultsMany 5 = .ok (.istore_n 2, 1) := by decide +kernel
theorem dX10_faultsMany_6 : decode cX10_faultsMany 6 = .ok (.iconst 0, 1) := by decide +kernel
theorem dX10_faultsMany_7 : decode cX10_faultsMany 7 = .ok (.istore_n 3, 1) := by decide +kernel
theorem dX10_faultsMany_8 : decode cX10_faultsMany 8 = .ok (.iload_n 3, 1) := by decide +kernel
theorem dX10_faultsMany_9 : decode cX10_faultsMany 9 = .ok (.aload_n 0, 1) := by decide +kernel
theorem dX10_faultsMany_10 : decode cX10_faultsMany 10 = .ok (.getfield 84, 3) := by decide +kernel
theorem dX10_faultsMany_13 : decode cX10_faultsMany 13 = .ok (.if_icmp .ge 48, 3) := by decide +kernel
theorem dX10_faultsMany_16 : decode cX10_faultsMany 16 = .ok (.aload_n 0, 1) := by decide +kernel
theorem dX10_faultsMany_17 : decode cX10_faultsMany 17 = .ok (.iload_n 3, 1) := by decide +kernel
theorem dX10_faultsMany_18 : decode cX10_faultsMany 18 = .ok (.invokevirtual 193, 3) := by decide +kernel
theorem dX10_faultsMany_21 : decode cX10_faultsMany 21 = .ok (.istore 4, 2) := by decide +kernel
theorem dX10_faultsMany_23 : decode cX10_faultsMany 23 = .ok (.iload_n 2, 1) := by decide +kernel
theorem dX10_faultsMany_24 : decode cX10_faultsMany 24 = .ok (.iload_n 1, 1) := by decide +kernel
theorem dX10_faultsMany_25 : decode cX10_faultsMany 25 = .ok (.ifCond .ne 16, 3) := by decide +kernel
theorem dX10_faultsMany_28 : decode cX10_faultsMany 28 = .ok (.iload 4, 2) := by decide +kernel
theorem dX10_faultsMany_30 : decode cX10_faultsMany 30 = .ok (.ifCond .le 7, 3) := by decide +kernel
theorem dX10_faultsMany_33 : decode cX10_faultsMany 33 = .ok (.iconst 1, 1) := by decide +kernel
theorem dX10_faultsMany_34 : decode cX10_faultsMany 34 = .ok (.goto 19, 3) := by decide +kernel
theorem dX10_faultsMany_37 : decode cX10_faultsMany 37 = .ok (.iconst 0, 1) := by decide +kernel
theorem dX10_faultsMany_38 : decode cX10_faultsMany 38 = .ok (.goto 15, 3) := by decide +kernel
theorem dX10_faultsMany_41 : decode cX10_faultsMany 41 = .ok (.iload 4, 2) := by decide +kernel
theorem dX10_faultsMany_43 : decode cX10_faultsMany 43 = .ok (.iload_n 1, 1) := by decide +kernel
theorem dX10_faultsMany_44 : decode cX10_faultsMany 44 = .ok (.iand, 1) := by decide +kernel
theorem dX10_faultsMany_45 : decode cX10_faultsMany 45 = .ok (.ifCond .le 7, 3) := by decide +kernel
theorem dX10_faultsMany_48 : decode cX10_faultsMany 48 = .ok (.iconst 1, 1) := by decide +kernel
theorem dX10_faultsMany_49 : decode cX10_faultsMany 49 = .ok (.goto 4, 3) := by decide +kernel
theorem dX10_faultsMany_52 : decode cX10_faultsMany 52 = .ok (.iconst 0, 1) := by decide +kernel
theorem dX10_faultsMany_53 : decode cX10_faultsMany 53 = .ok (.iadd, 1) := by decide +kernel
theorem dX10_faultsMany_54 : decode cX10_faultsMany 54 = .ok (.istore_n 2, 1) := by decide +kernel
theorem dX10_faultsMany_55 : decode cX10_faultsMany 55 = .ok (.iinc 3 1, 3) := by decide +kernel
theorem dX10_faultsMany_58 : decode cX10_faultsMany 58 = .ok (.goto (-50), 3) := by decide +kernel
theorem dX10_faultsMany_61 : decode cX10_faultsMany 61 = .ok (.iload_n 2, 1) := by decide +kernel
theorem dX10_faultsMany_62 : decode cX10_faultsMany 62 = .ok (.ireturn, 1) := by decide +kernel
theorem dX10_faults_0 : decode cX10_faults 0 = .ok (.iload_n 1, 1) := by decide +kernel
theorem dX10_faults_1 : decode cX10_faults 1 = .ok (.iconst 0, 1) := by decide +kernel
theorem dX10_faults_2 : decode cX10_faults 2 = .ok (.bipush 32, 2) := by decide +kernel
theorem dX10_faults_4 : decode cX10_faults 4 = .ok (.invokestatic 60, 3) := by decide +kernel
theorem dX10_faults_7 : decode cX10_faults 7 = .ok (.ifCond .eq 19, 3) := by decide +kernel
theorem dX10_faults_10 : decode cX10_faults 10 = .ok (.iload_n 1, 1) := by decide +kernel
theorem dX10_faults_11 : decode cX10_faults 11 = .ok (.iload_n 1, 1) := by decide +kernel
theorem dX10_faults_12 : decode cX10_faults 12 = .ok (.iconst 1, 1) := by decide +kernel
theorem dX10_faults_13 : decode cX10_faults 13 = .ok (.isub, 1) := by decide +kernel
theorem dX10_faults_14 : decode cX10_faults 14 = .ok (.iand, 1) := by decide +kernel
theorem dX10_faults_15 : decode cX10_faults 15 = .ok (.ifCond .ne 11, 3) := by decide +kernel
theorem dX10_faults_18 : decode cX10_faults 18 = .ok (.aload_n 0, 1) := by decide +kernel
theorem dX10_faults_19 : decode cX10_faults 19 = .ok (.iload_n 1, 1) := by decide +kernel
theorem dX10_faults_20 : decode cX10_faults 20 = .ok (.invokevirtual 208, 3) := by decide +kernel
theorem dX10_faults_23 : decode cX10_faults 23 = .ok (.goto 4, 3) := by decide +kernel
theorem dX10_faults_26 : decode cX10_faults 26 = .ok (.iconst (-1), 1) := by decide +kernel
theorem dX10_faults_27 : decode cX10_faults 27 = .ok (.ireturn, 1) := by decide +kernel
theorem dX10_doubles_0 : decode cX10_doubles 0 = .ok (.iconst 0, 1) := by decide +kernel
theorem dX10_doubles_1 : decode cX10_doubles 1 = .ok (.istore_n 1, 1) := by decide +kernel
theorem dX10_doubles_2 : decode cX10_doubles 2 = .ok (.iconst 0, 1) := by decide +kernel
theorem dX10_doubles_3 : decode cX10_doubles 3 = .ok (.istore_n 2, 1) := by decide +kernel
theorem dX10_doubles_4 : decode cX10_doubles 4 = .ok (.iload_n 2, 1) := by decide +kernel
theorem dX10_doubles_5 : decode cX10_doubles 5 = .ok (.aload_n 0, 1) := by decide +kernel
theorem dX10_doubles_6 : decode cX10_doubles 6 = .ok (.getfield 7, 3) := by decide +kernel
theorem dX10_doubles_9 : decode cX10_doubles 9 = .ok (.bipush 42, 2) := by decide +kernel
theorem dX10_doubles_11 : decode cX10_doubles 11 = .ok (.iaload, 1) := by decide +kernel
theorem dX10_doubles_12 : decode cX10_doubles 12 = .ok (.if_icmp .ge 33, 3) := by decide +kernel
theorem dX10_doubles_15 : decode cX10_doubles 15 = .ok (.iload_n 1, 1) := by decide +kernel
theorem dX10_doubles_16 : decode cX10_doubles 16 = .ok (.aload_n 0, 1) := by decide +kernel
theorem dX10_doubles_17 : decode cX10_doubles 17 = .ok (.getfield 7, 3) := by decide +kernel
theorem dX10_doubles_20 : decode cX10_doubles 20 = .ok (.aload_n 0, 1) := by decide +kernel
theorem dX10_doubles_21 : decode cX10_doubles 21 = .ok (.iload_n 2, 1) := by decide +kernel
theorem dX10_doubles_22 : decode cX10_doubles 22 = .ok (.invokevirtual 81, 3) := by decide +kernel
theorem dX10_doubles_25 : decode cX10_doubles 25 = .ok (.iconst 2, 1) := by decide +kernel
theorem dX10_doubles_26 : decode cX10_doubles 26 = .ok (.iadd, 1) := by decide +kernel
theorem dX10_doubles_27 : decode cX10_doubles 27 = .ok (.iaload, 1) := by decide +kernel
theorem dX10_doubles_28 : decode cX10_doubles 28 = .ok (.iconst 2, 1) := by decide +kernel
theorem dX10_doubles_29 : decode cX10_doubles 29 = .ok (.if_icmp .ne 7, 3) := by decide +kernel
theorem dX10_doubles_32 : decode cX10_doubles 32 = .ok (.iconst 1, 1) := by decide +kernel
theorem dX10_doubles_33 : decode cX10_doubles 33 = .ok (.goto 4, 3) := by decide +kernel
theorem dX10_doubles_36 : decode cX10_doubles 36 = .ok (.iconst 0, 1) := by decide +kernel
theorem dX10_doubles_37 : decode cX10_doubles 37 = .ok (.iadd, 1) := by decide +kernel
theorem dX10_doubles_38 : decode cX10_doubles 38 = .ok (.istore_n 1, 1) := by decide +kernel
theorem dX10_doubles_39 : decode cX10_doubles 39 = .ok (.iinc 2 1, 3) := by decide +kernel
theorem dX10_doubles_42 : decode cX10_doubles 42 = .ok (.goto (-38), 3) := by decide +kernel
theorem dX10_doubles_45 : decode cX10_doubles 45 = .ok (.iload_n 1, 1) := by decide +kernel
theorem dX10_doubles_46 : decode cX10_doubles 46 = .ok (.ireturn, 1) := by decide +kernel
theorem dX10_told_0 : decode cX10_told 0 = .ok (.iload_n 1, 1) := by decide +kernel
theorem dX10_told_1 : decode cX10_told 1 = .ok (.tableswitch 86 5 11 #[43, 50, 55, 63, 71, 76, 81], 43) := by decide +kernel
theorem dX10_told_44 : decode cX10_told 44 = .ok (.aload_n 0, 1) := by decide +kernel
theorem dX10_told_45 : decode cX10_told 45 = .ok (.getfield 7, 3) := by decide +kernel
theorem dX10_told_48 : decode cX10_told 48 = .ok (.iconst 0, 1) := by decide +kernel
theorem dX10_told_49 : decode cX10_told 49 = .ok (.iaload, 1) := by decide +kernel
theorem dX10_told_50 : decode cX10_told 50 = .ok (.ireturn, 1) := by decide +kernel
theorem dX10_told_51 : decode cX10_told 51 = .ok (.aload_n 0, 1) := by decide +kernel
theorem dX10_told_52 : decode cX10_told 52 = .ok (.invokevirtual 64, 3) := by decide +kernel
theorem dX10_told_55 : decode cX10_told 55 = .ok (.ireturn, 1) := by decide +kernel
theorem dX10_told_56 : decode cX10_told 56 = .ok (.aload_n 0, 1) := by decide +kernel
theorem dX10_told_57 : decode cX10_told 57 = .ok (.getfield 7, 3) := by decide +kernel
theorem dX10_told_60 : decode cX10_told 60 = .ok (.bipush 21, 2) := by decide +kernel
theorem dX10_told_62 : decode cX10_told 62 = .ok (.iaload, 1) := by decide +kernel
theorem dX10_told_63 : decode cX10_told 63 = .ok (.ireturn, 1) := by decide +kernel
theorem dX10_told_64 : decode cX10_told 64 = .ok (.aload_n 0, 1) := by decide +kernel
theorem dX10_told_65 : decode cX10_told 65 = .ok (.getfield 7, 3) := by decide +kernel
theorem dX10_told_68 : decode cX10_told 68 = .ok (.bipush 42, 2) := by decide +kernel
theorem dX10_told_70 : decode cX10_told 70 = .ok (.iaload, 1) := by decide +kernel
theorem dX10_told_71 : decode cX10_told 71 = .ok (.ireturn, 1) := by decide +kernel
theorem dX10_told_72 : decode cX10_told 72 = .ok (.aload_n 0, 1) := by decide +kernel
theorem dX10_told_73 : decode cX10_told 73 = .ok (.invokevirtual 211, 3) := by decide +kernel
theorem dX10_told_76 : decode cX10_told 76 = .ok (.ireturn, 1) := by decide +kernel
theorem dX10_told_77 : decode cX10_told 77 = .ok (.aload_n 0, 1) := by decide +kernel
theorem dX10_told_78 : decode cX10_told 78 = .ok (.getfield 174, 3) := by decide +kernel
theorem dX10_told_81 : decode cX10_told 81 = .ok (.ireturn, 1) := by decide +kernel
theorem dX10_told_82 : decode cX10_told 82 = .ok (.aload_n 0, 1) := by decide +kernel
theorem dX10_told_83 : decode cX10_told 83 = .ok (.getfield 49, 3) := by decide +kernel
theorem dX10_told_86 : decode cX10_told 86 = .ok (.ireturn, 1) := by decide +kernel
theorem dX10_told_87 : decode cX10_told 87 = .ok (.iload_n 1, 1) := by decide +kernel
theorem dX10_told_88 : decode cX10_told 88 = .ok (.iconst 0, 1) := by decide +kernel
theorem dX10_told_89 : decode cX10_told 89 = .ok (.iconst 4, 1) := by decide +kernel
theorem dX10_told_90 : decode cX10_told 90 = .ok (.invokestatic 60, 3) := by decide +kernel
theorem dX10_told_93 : decode cX10_told 93 = .ok (.ifCond .eq 11, 3) := by decide +kernel
theorem dX10_told_96 : decode cX10_told 96 = .ok (.aload_n 0, 1) := by decide +kernel
theorem dX10_told_97 : decode cX10_told 97 = .ok (.iload_n 1, 1) := by decide +kernel
theorem dX10_told_98 : decode cX10_told 98 = .ok (.invokevirtual 105, 3) := by decide +kernel
theorem dX10_told_101 : decode cX10_told 101 = .ok (.goto 4, 3) := by decide +kernel
theorem dX10_told_104 : decode cX10_told 104 = .ok (.iconst (-1), 1) := by decide +kernel
theorem dX10_told_105 : decode cX10_told 105 = .ok (.ireturn, 1) := by decide +kernel
theorem dX10_undo_0 : decode cX10_undo 0 = .ok (.aload_n 0, 1) := by decide +kernel
theorem dX10_undo_1 : decode cX10_undo 1 = .ok (.getfield 49, 3) := by decide +kernel
theorem dX10_undo_4 : decode cX10_undo 4 = .ok (.ifCond .ne 6, 3) := by decide +kernel
theorem dX10_undo_7 : decode cX10_undo 7 = .ok (.bipush (-2), 2) := by decide +kernel
theorem dX10_undo_9 : decode cX10_undo 9 = .ok (.ireturn, 1) := by decide +kernel
theorem dX10_undo_10 : decode cX10_undo 10 = .ok (.iconst 0, 1) := by decide +kernel
theorem dX10_undo_11 : decode cX10_undo 11 = .ok (.istore_n 1, 1) := by decide +kernel
theorem dX10_undo_12 : decode cX10_undo 12 = .ok (.iload_n 1, 1) := by decide +kernel
theorem dX10_undo_13 : decode cX10_undo 13 = .ok (.sipush 1440, 3) := by decide +kernel
theorem dX10_undo_16 : decode cX10_undo 16 = .ok (.if_icmp .ge 30, 3) := by decide +kernel
theorem dX10_undo_19 : decode cX10_undo 19 = .ok (.aload_n 0, 1) := by decide +kernel
theorem dX10_undo_20 : decode cX10_undo 20 = .ok (.getfield 7, 3) := by decide +kernel
theorem dX10_undo_23 : decode cX10_undo 23 = .ok (.iload_n 1, 1) := by decide +kernel
theorem dX10_undo_24 : decode cX10_undo 24 = .ok (.aload_n 0, 1) := by decide +kernel
theorem dX10_undo_25 : decode cX10_undo 25 = .ok (.getfield 7, 3) := by decide +kernel
theorem dX10_undo_28 : decode cX10_undo 28 = .ok (.sipush 1440, 3) := by decide +kernel
theorem dX10_undo_31 : decode cX10_undo 31 = .ok (.aload_n 0, 1) := by decide +kernel
theorem dX10_undo_32 : decode cX10_undo 32 = .ok (.getfield 49, 3) := by decide +kernel
theorem dX10_undo_35 : decode cX10_undo 35 = .ok (.imul, 1) := by decide +kernel
theorem dX10_undo_36 : decode cX10_undo 36 = .ok (.iload_n 1, 1) := by decide +kernel
theorem dX10_undo_37 : decode cX10_undo 37 = .ok (.iadd, 1) := by decide +kernel
theorem dX10_undo_38 : decode cX10_undo 38 = .ok (.iaload, 1) := by decide +kernel
theorem dX10_undo_39 : decode cX10_undo 39 = .ok (.iastore, 1) := by decide +kernel
theorem dX10_undo_40 : decode cX10_undo 40 = .ok (.iinc 1 1, 3) := by decide +kernel
theorem dX10_undo_43 : decode cX10_undo 43 = .ok (.goto (-31), 3) := by decide +kernel
theorem dX10_undo_46 : decode cX10_undo 46 = .ok (.aload_n 0, 1) := by decide +kernel
theorem dX10_undo_47 : decode cX10_undo 47 = .ok (.dup, 1) := by decide +kernel
theorem dX10_undo_48 : decode cX10_undo 48 = .ok (.getfield 49, 3) := by decide +kernel
theorem dX10_undo_51 : decode cX10_undo 51 = .ok (.iconst 1, 1) := by decide +kernel
theorem dX10_undo_52 : decode cX10_undo 52 = .ok (.isub, 1) := by decide +kernel
theorem dX10_undo_53 : decode cX10_undo 53 = .ok (.putfield 49, 3) := by decide +kernel
theorem dX10_undo_56 : decode cX10_undo 56 = .ok (.aload_n 0, 1) := by decide +kernel
theorem dX10_undo_57 : decode cX10_undo 57 = .ok (.getfield 49, 3) := by decide +kernel
theorem dX10_undo_60 : decode cX10_undo 60 = .ok (.ireturn, 1) := by decide +kernel
theorem dX10_mixedSubtitle_0 : decode cX10_mixedSubtitle 0 = .ok (.lload_n 1, 1) := by decide +kernel
theorem dX10_mixedSubtitle_1 : decode cX10_mixedSubtitle 1 = .ok (.lstore 4, 2) := by decide +kernel
theorem dX10_mixedSubtitle_3 : decode cX10_mixedSubtitle 3 = .ok (.iconst 0, 1) := by decide +kernel
theorem dX10_mixedSubtitle_4 : decode cX10_mixedSubtitle 4 = .ok (.istore 6, 2) := by decide +kernel
theorem dX10_mixedSubtitle_6 : decode cX10_mixedSubtitle 6 = .ok (.iload 6, 2) := by decide +kernel
theorem dX10_mixedSubtitle_8 : decode cX10_mixedSubtitle 8 = .ok (.bipush 6, 2) := by decide +kernel
theorem dX10_mixedSubtitle_10 : decode cX10_mixedSubtitle 10 = .ok (.if_icmp .gt 26, 3) := by decide +kernel
theorem dX10_mixedSubtitle_13 : decode cX10_mixedSubtitle 13 = .ok (.ldc2_w 214, 3) := by decide +kernel
theorem dX10_mixedSubtitle_16 : decode cX10_mixedSubtitle 16 = .ok (.lload 4, 2) := by decide +kernel
theorem dX10_mixedSubtitle_18 : decode cX10_mixedSubtitle 18 = .ok (.lmul, 1) := by decide +kernel
theorem dX10_mixedSubtitle_19 : decode cX10_mixedSubtitle 19 = .ok (.aload_n 0, 1) := by decide +kernel
theorem dX10_mixedSubtitle_20 : decode cX10_mixedSubtitle 20 = .ok (.iload_n 3, 1) := by decide +kernel
theorem dX10_mixedSubtitle_21 : decode cX10_mixedSubtitle 21 = .ok (.iload 6, 2) := by decide +kernel
theorem dX10_mixedSubtitle_23 : decode cX10_mixedSubtitle 23 = .ok (.invokevirtual 216, 3) := by decide +kernel
theorem dX10_mixedSubtitle_26 : decode cX10_mixedSubtitle 26 = .ok (.i2l, 1) := by decide +kernel
theorem dX10_mixedSubtitle_27 : decode cX10_mixedSubtitle 27 = .ok (.ladd, 1) := by decide +kernel
theorem dX10_mixedSubtitle_28 : decode cX10_mixedSubtitle 28 = .ok (.lstore 4, 2) := by decide +kernel
theorem dX10_mixedSubtitle_30 : decode cX10_mixedSubtitle 30 = .ok (.iinc 6 1, 3) := by decide +kernel
theorem dX10_mixedSubtitle_33 : decode cX10_mixedSubtitle 33 = .ok (.goto (-27), 3) := by decide +kernel
theorem dX10_mixedSubtitle_36 : decode cX10_mixedSubtitle 36 = .ok (.ldc2_w 214, 3) := by decide +kernel
theorem dX10_mixedSubtitle_39 : decode cX10_mixedSubtitle 39 = .ok (.lload 4, 2) := by decide +kernel
theorem dX10_mixedSubtitle_41 : decode cX10_mixedSubtitle 41 = .ok (.lmul, 1) := by decide +kernel
theorem dX10_mixedSubtitle_42 : decode cX10_mixedSubtitle 42 = .ok (.aload_n 0, 1) := by decide +kernel
theorem dX10_mixedSubtitle_43 : decode cX10_mixedSubtitle 43 = .ok (.iload_n 3, 1) := by decide +kernel
theorem dX10_mixedSubtitle_44 : decode cX10_mixedSubtitle 44 = .ok (.invokevirtual 219, 3) := by decide +kernel
theorem dX10_mixedSubtitle_47 : decode cX10_mixedSubtitle 47 = .ok (.i2l, 1) := by decide +kernel
theorem dX10_mixedSubtitle_48 : decode cX10_mixedSubtitle 48 = .ok (.ladd, 1) := by decide +kernel
theorem dX10_mixedSubtitle_49 : decode cX10_mixedSubtitle 49 = .ok (.lstore 4, 2) := by decide +kernel
theorem dX10_mixedSubtitle_51 : decode cX10_mixedSubtitle 51 = .ok (.iconst 0, 1) := by decide +kernel
theorem dX10_mixedSubtitle_52 : decode cX10_mixedSubtitle 52 = .ok (.istore 6, 2) := by decide +kernel
theorem dX10_mixedSubtitle_54 : decode cX10_mixedSubtitle 54 = .ok (.iload 6, 2) := by decide +kernel
theorem dX10_mixedSubtitle_56 : decode cX10_mixedSubtitle 56 = .ok (.aload_n 0, 1) := by decide +kernel
theorem dX10_mixedSubtitle_57 : decode cX10_mixedSubtitle 57 = .ok (.getfield 7, 3) := by decide +kernel
theorem dX10_mixedSubtitle_60 : decode cX10_mixedSubtitle 60 = .ok (.aload_n 0, 1) := by decide +kernel
theorem dX10_mixedSubtitle_61 : decode cX10_mixedSubtitle 61 = .ok (.iload_n 3, 1) := by decide +kernel
theorem dX10_mixedSubtitle_62 : decode cX10_mixedSubtitle 62 = .ok (.invokevirtual 81, 3) := by decide +kernel
theorem dX10_mixedSubtitle_65 : decode cX10_mixedSubtitle 65 = .ok (.iconst 2, 1) := by decide +kernel
theorem dX10_mixedSubtitle_66 : decode cX10_mixedSubtitle 66 = .ok (.iadd, 1) := by decide +kernel
theorem dX10_mixedSubtitle_67 : decode cX10_mixedSubtitle 67 = .ok (.iaload, 1) := by decide +kernel
theorem dX10_mixedSubtitle_68 : decode cX10_mixedSubtitle 68 = .ok (.if_icmp .ge 92, 3) := by decide +kernel
theorem dX10_mixedSubtitle_71 : decode cX10_mixedSubtitle 71 = .ok (.iconst 0, 1) := by decide +kernel
theorem dX10_mixedSubtitle_72 : decode cX10_mixedSubtitle 72 = .ok (.istore 7, 2) := by decide +kernel
theorem dX10_mixedSubtitle_74 : decode cX10_mixedSubtitle 74 = .ok (.iload 7, 2) := by decide +kernel
theorem dX10_mixedSubtitle_76 : decode cX10_mixedSubtitle 76 = .ok (.iconst 3, 1) := by decide +kernel
theorem dX10_mixedSubtitle_77 : decode cX10_mixedSubtitle 77 = .ok (.if_icmp .gt 31, 3) := by decide +kernel
theorem dX10_mixedSubtitle_80 : decode cX10_mixedSubtitle 80 = .ok (.ldc2_w 214, 3) := by decide +kernel
theorem dX10_mixedSubtitle_83 : decode cX10_mixedSubtitle 83 = .ok (.lload 4, 2) := by decide +kernel
theorem dX10_mixedSubtitle_85 : decode cX10_mixedSubtitle 85 = .ok (.lmul, 1) := by decide +kernel
theorem dX10_mixedSubtitle_86 : decode cX10_mixedSubtitle 86 = .ok (.aload_n 0, 1) := by decide +kernel
theorem dX10_mixedSubtitle_87 : decode cX10_mixedSubtitle 87 = .ok (.iconst 2, 1) := by decide +kernel
theorem dX10_mixedSubtitle_88 : decode cX10_mixedSubtitle 88 = .ok (.iload_n 3, 1) := by decide +kernel
theorem dX10_mixedSubtitle_89 : decode cX10_mixedSubtitle 89 = .ok (.imul, 1) := by decide +kernel
theorem dX10_mixedSubtitle_90 : decode cX10_mixedSubtitle 90 = .ok (.iload 6, 2) := by decide +kernel
theorem dX10_mixedSubtitle_92 : decode cX10_mixedSubtitle 92 = .ok (.iadd, 1) := by decide +kernel
theorem dX10_mixedSubtitle_93 : decode cX10_mixedSubtitle 93 = .ok (.iload 7, 2) := by decide +kernel
theorem dX10_mixedSubtitle_95 : decode cX10_mixedSubtitle 95 = .ok (.invokevirtual 199, 3) := by decide +kernel
theorem dX10_mixedSubtitle_98 : decode cX10_mixedSubtitle 98 = .ok (.i2l, 1) := by decide +kernel
theorem dX10_mixedSubtitle_99 : decode cX10_mixedSubtitle 99 = .ok (.ladd, 1) := by decide +kernel
theorem dX10_mixedSubtitle_100 : decode cX10_mixedSubtitle 100 = .ok (.lstore 4, 2) := by decide +kernel
theorem dX10_mixedSubtitle_102 : decode cX10_mixedSubtitle 102 = .ok (.iinc 7 1, 3) := by decide +kernel
theorem dX10_mixedSubtitle_105 : decode cX10_mixedSubtitle 105 = .ok (.goto (-31), 3) := by decide +kernel
theorem dX10_mixedSubtitle_108 : decode cX10_mixedSubtitle 108 = .ok (.iconst 0, 1) := by decide +kernel
theorem dX10_mixedSubtitle_109 : decode cX10_mixedSubtitle 109 = .ok (.istore 7, 2) := by decide +kernel
theorem dX10_mixedSubtitle_111 : decode cX10_mixedSubtitle 111 = .ok (.iload 7, 2) := by decide +kernel
theorem dX10_mixedSubtitle_113 : decode cX10_mixedSubtitle 113 = .ok (.aload_n 0, 1) := by decide +kernel
theorem dX10_mixedSubtitle_114 : decode cX10_mixedSubtitle 114 = .ok (.iconst 2, 1) := by decide +kernel
theorem dX10_mixedSubtitle_115 : decode cX10_mixedSubtitle 115 = .ok (.iload_n 3, 1) := by decide +kernel
theorem dX10_mixedSubtitle_116 : decode cX10_mixedSubtitle 116 = .ok (.imul, 1) := by decide +kernel
theorem dX10_mixedSubtitle_117 : decode cX10_mixedSubtitle 117 = .ok (.iload 6, 2) := by decide +kernel
theorem dX10_mixedSubtitle_119 : decode cX10_mixedSubtitle 119 = .ok (.iadd, 1) := by decide +kernel
theorem dX10_mixedSubtitle_120 : decode cX10_mixedSubtitle 120 = .ok (.invokevirtual 94, 3) := by decide +kernel
theorem dX10_mixedSubtitle_123 : decode cX10_mixedSubtitle 123 = .ok (.if_icmp .ge 31, 3) := by decide +kernel
theorem dX10_mixedSubtitle_126 : decode cX10_mixedSubtitle 126 = .ok (.ldc2_w 214, 3) := by decide +kernel
theorem dX10_mixedSubtitle_129 : decode cX10_mixedSubtitle 129 = .ok (.lload 4, 2) := by decide +kernel
theorem dX10_mixedSubtitle_131 : decode cX10_mixedSubtitle 131 = .ok (.lmul, 1) := by decide +kernel
theorem dX10_mixedSubtitle_132 : decode cX10_mixedSubtitle 132 = .ok (.aload_n 0, 1) := by decide +kernel
theorem dX10_mixedSubtitle_133 : decode cX10_mixedSubtitle 133 = .ok (.iconst 2, 1) := by decide +kernel
theorem dX10_mixedSubtitle_134 : decode cX10_mixedSubtitle 134 = .ok (.iload_n 3, 1) := by decide +kernel
theorem dX10_mixedSubtitle_135 : decode cX10_mixedSubtitle 135 = .ok (.imul, 1) := by decide +kernel
theorem dX10_mixedSubtitle_136 : decode cX10_mixedSubtitle 136 = .ok (.iload 6, 2) := by decide +kernel
theorem dX10_mixedSubtitle_138 : decode cX10_mixedSubtitle 138 = .ok (.iadd, 1) := by decide +kernel
theorem dX10_mixedSubtitle_139 : decode cX10_mixedSubtitle 139 = .ok (.iload 7, 2) := by decide +kernel
theorem dX10_mixedSubtitle_141 : decode cX10_mixedSubtitle 141 = .ok (.invokevirtual 97, 3) := by decide +kernel
theorem dX10_mixedSubtitle_144 : decode cX10_mixedSubtitle 144 = .ok (.i2l, 1) := by decide +kernel
theorem dX10_mixedSubtitle_145 : decode cX10_mixedSubtitle 145 = .ok (.ladd, 1) := by decide +kernel
theorem dX10_mixedSubtitle_146 : decode cX10_mixedSubtitle 146 = .ok (.lstore 4, 2) := by decide +kernel
theorem dX10_mixedSubtitle_148 : decode cX10_mixedSubtitle 148 = .ok (.iinc 7 1, 3) := by decide +kernel
theorem dX10_mixedSubtitle_151 : decode cX10_mixedSubtitle 151 = .ok (.goto (-40), 3) := by decide +kernel
theorem dX10_mixedSubtitle_154 : decode cX10_mixedSubtitle 154 = .ok (.iinc 6 1, 3) := by decide +kernel
theorem dX10_mixedSubtitle_157 : decode cX10_mixedSubtitle 157 = .ok (.goto (-103), 3) := by decide +kernel
theorem dX10_mixedSubtitle_160 : decode cX10_mixedSubtitle 160 = .ok (.lload 4, 2) := by decide +kernel
theorem dX10_mixedSubtitle_162 : decode cX10_mixedSubtitle 162 = .ok (.lreturn, 1) := by decide +kernel
theorem dX10_digest_0 : decode cX10_digest 0 = .ok (.ldc2_w 222, 3) := by decide +kernel
theorem dX10_digest_3 : decode cX10_digest 3 = .ok (.lstore_n 1, 1) := by decide +kernel
theorem dX10_digest_4 : decode cX10_digest 4 = .ok (.iconst 0, 1) := by decide +kernel
theorem dX10_digest_5 : decode cX10_digest 5 = .ok (.istore_n 3, 1) := by decide +kernel
theorem dX10_digest_6 : decode cX10_digest 6 = .ok (.iload_n 3, 1) := by decide +kernel
theorem dX10_digest_7 : decode cX10_digest 7 = .ok (.bipush 11, 2) := by decide +kernel
theorem dX10_digest_9 : decode cX10_digest 9 = .ok (.if_icmp .gt 22, 3) := by decide +kernel
theorem dX10_digest_12 : decode cX10_digest 12 = .ok (.ldc2_w 214, 3) := by decide +kernel
theorem dX10_digest_15 : decode cX10_digest 15 = .ok (.lload_n 1, 1) := by decide +kernel
theorem dX10_digest_16 : decode cX10_digest 16 = .ok (.lmul, 1) := by decide +kernel
theorem dX10_digest_17 : decode cX10_digest 17 = .ok (.aload_n 0, 1) := by decide +kernel
theorem dX10_digest_18 : decode cX10_digest 18 = .ok (.iload_n 3, 1) := by decide +kernel
theorem dX10_digest_19 : decode cX10_digest 19 = .ok (.invokevirtual 224, 3) := by decide +kernel
theorem dX10_digest_22 : decode cX10_digest 22 = .ok (.i2l, 1) := by decide +kernel
theorem dX10_digest_23 : decode cX10_digest 23 = .ok (.ladd, 1) := by decide +kernel
theorem dX10_digest_24 : decode cX10_digest 24 = .ok (.lstore_n 1, 1) := by decide +kernel
theorem dX10_digest_25 : decode cX10_digest 25 = .ok (.iinc 3 1, 3) := by decide +kernel
theorem dX10_digest_28 : decode cX10_digest 28 = .ok (.goto (-22), 3) := by decide +kernel
theorem dX10_digest_31 : decode cX10_digest 31 = .ok (.iconst 0, 1) := by decide +kernel
theorem dX10_digest_32 : decode cX10_digest 32 = .ok (.istore_n 3, 1) := by decide +kernel
theorem dX10_digest_33 : decode cX10_digest 33 = .ok (.iload_n 3, 1) := by decide +kernel
theorem dX10_digest_34 : decode cX10_digest 34 = .ok (.aload_n 0, 1) := by decide +kernel
theorem dX10_digest_35 : decode cX10_digest 35 = .ok (.getfield 7, 3) := by decide +kernel
theorem dX10_digest_38 : decode cX10_digest 38 = .ok (.iconst 0, 1) := by decide +kernel
theorem dX10_digest_39 : decode cX10_digest 39 = .ok (.iaload, 1) := by decide +kernel
theorem dX10_digest_40 : decode cX10_digest 40 = .ok (.if_icmp .ge 39, 3) := by decide +kernel
theorem dX10_digest_43 : decode cX10_digest 43 = .ok (.iconst 0, 1) := by decide +kernel
theorem dX10_digest_44 : decode cX10_digest 44 = .ok (.istore 4, 2) := by decide +kernel
theorem dX10_digest_46 : decode cX10_digest 46 = .ok (.iload 4, 2) := by decide +kernel
theorem dX10_digest_48 : decode cX10_digest 48 = .ok (.iconst 2, 1) := by decide +kernel
theorem dX10_digest_49 : decode cX10_digest 49 = .ok (.if_icmp .gt 24, 3) := by decide +kernel
theorem dX10_digest_52 : decode cX10_digest 52 = .ok (.ldc2_w 214, 3) := by decide +kernel
theorem dX10_digest_55 : decode cX10_digest 55 = .ok (.lload_n 1, 1) := by decide +kernel
theorem dX10_digest_56 : decode cX10_digest 56 = .ok (.lmul, 1) := by decide +kernel
theorem dX10_digest_57 : decode cX10_digest 57 = .ok (.aload_n 0, 1) := by decide +kernel
theorem dX10_digest_58 : decode cX10_digest 58 = .ok (.iload_n 3, 1) := by decide +kernel
theorem dX10_digest_59 : decode cX10_digest 59 = .ok (.iload 4, 2) := by decide +kernel
theorem dX10_digest_61 : decode cX10_digest 61 = .ok (.invokevirtual 227, 3) := by decide +kernel
theorem dX10_digest_64 : decode cX10_digest 64 = .ok (.i2l, 1) := by decide +kernel
theorem dX10_digest_65 : decode cX10_digest 65 = .ok (.ladd, 1) := by decide +kernel
theorem dX10_digest_66 : decode cX10_digest 66 = .ok (.lstore_n 1, 1) := by decide +kernel
theorem dX10_digest_67 : decode cX10_digest 67 = .ok (.iinc 4 1, 3) := by decide +kernel
theorem dX10_digest_70 : decode cX10_digest 70 = .ok (.goto (-24), 3) := by decide +kernel
theorem dX10_digest_73 : decode cX10_digest 73 = .ok (.iinc 3 1, 3) := by decide +kernel
theorem dX10_digest_76 : decode cX10_digest 76 = .ok (.goto (-43), 3) := by decide +kernel
theorem dX10_digest_79 : decode cX10_digest 79 = .ok (.iconst 0, 1) := by decide +kernel
theorem dX10_digest_80 : decode cX10_digest 80 = .ok (.istore_n 3, 1) := by decide +kernel
theorem dX10_digest_81 : decode cX10_digest 81 = .ok (.iload_n 3, 1) := by decide +kernel
theorem dX10_digest_82 : decode cX10_digest 82 = .ok (.aload_n 0, 1) := by decide +kernel
theorem dX10_digest_83 : decode cX10_digest 83 = .ok (.getfield 7, 3) := by decide +kernel
theorem dX10_digest_86 : decode cX10_digest 86 = .ok (.bipush 21, 2) := by decide +kernel
theorem dX10_digest_88 : decode cX10_digest 88 = .ok (.iaload, 1) := by decide +kernel
theorem dX10_digest_89 : decode cX10_digest 89 = .ok (.if_icmp .ge 26, 3) := by decide +kernel
theorem dX10_digest_92 : decode cX10_digest 92 = .ok (.ldc2_w 214, 3) := by decide +kernel
theorem dX10_digest_95 : decode cX10_digest 95 = .ok (.lload_n 1, 1) := by decide +kernel
theorem dX10_digest_96 : decode cX10_digest 96 = .ok (.lmul, 1) := by decide +kernel
theorem dX10_digest_97 : decode cX10_digest 97 = .ok (.aload_n 0, 1) := by decide +kernel
theorem dX10_digest_98 : decode cX10_digest 98 = .ok (.getfield 7, 3) := by decide +kernel
theorem dX10_digest_101 : decode cX10_digest 101 = .ok (.bipush 22, 2) := by decide +kernel
theorem dX10_digest_103 : decode cX10_digest 103 = .ok (.iload_n 3, 1) := by decide +kernel
theorem dX10_digest_104 : decode cX10_digest 104 = .ok (.iadd, 1) := by decide +kernel
theorem dX10_digest_105 : decode cX10_digest 105 = .ok (.iaload, 1) := by decide +kernel
theorem dX10_digest_106 : decode cX10_digest 106 = .ok (.i2l, 1) := by decide +kernel
theorem dX10_digest_107 : decode cX10_digest 107 = .ok (.ladd, 1) := by decide +kernel
theorem dX10_digest_108 : decode cX10_digest 108 = .ok (.lstore_n 1, 1) := by decide +kernel
theorem dX10_digest_109 : decode cX10_digest 109 = .ok (.iinc 3 1, 3) := by decide +kernel
theorem dX10_digest_112 : decode cX10_digest 112 = .ok (.goto (-31), 3) := by decide +kernel
theorem dX10_digest_115 : decode cX10_digest 115 = .ok (.iconst 0, 1) := by decide +kernel
theorem dX10_digest_116 : decode cX10_digest 116 = .ok (.istore_n 3, 1) := by decide +kernel
theorem dX10_digest_117 : decode cX10_digest 117 = .ok (.iload_n 3, 1) := by decide +kernel
theorem dX10_digest_118 : decode cX10_digest 118 = .ok (.aload_n 0, 1) := by decide +kernel
theorem dX10_digest_119 : decode cX10_digest 119 = .ok (.getfield 7, 3) := by decide +kernel
theorem dX10_digest_122 : decode cX10_digest 122 = .ok (.bipush 42, 2) := by decide +kernel
theorem dX10_digest_124 : decode cX10_digest 124 = .ok (.iaload, 1) := by decide +kernel
theorem dX10_digest_125 : decode cX10_digest 125 = .ok (.if_icmp .ge 16, 3) := by decide +kernel
theorem dX10_digest_128 : decode cX10_digest 128 = .ok (.aload_n 0, 1) := by decide +kernel
theorem dX10_digest_129 : decode cX10_digest 129 = .ok (.lload_n 1, 1) := by decide +kernel
theorem dX10_digest_130 : decode cX10_digest 130 = .ok (.iload_n 3, 1) := by decide +kernel
theorem dX10_digest_131 : decode cX10_digest 131 = .ok (.invokevirtual 230, 3) := by decide +kernel
theorem dX10_digest_134 : decode cX10_digest 134 = .ok (.lstore_n 1, 1) := by decide +kernel
theorem dX10_digest_135 : decode cX10_digest 135 = .ok (.iinc 3 1, 3) := by decide +kernel
theorem dX10_digest_138 : decode cX10_digest 138 = .ok (.goto (-21), 3) := by decide +kernel
theorem dX10_digest_141 : decode cX10_digest 141 = .ok (.ldc2_w 214, 3) := by decide +kernel
theorem dX10_digest_144 : decode cX10_digest 144 = .ok (.lload_n 1, 1) := by decide +kernel
theorem dX10_digest_145 : decode cX10_digest 145 = .ok (.lmul, 1) := by decide +kernel
theorem dX10_digest_146 : decode cX10_digest 146 = .ok (.aload_n 0, 1) := by decide +kernel
theorem dX10_digest_147 : decode cX10_digest 147 = .ok (.iconst 0, 1) := by decide +kernel
theorem dX10_digest_148 : decode cX10_digest 148 = .ok (.invokevirtual 234, 3) := by decide +kernel
theorem dX10_digest_151 : decode cX10_digest 151 = .ok (.i2l, 1) := by decide +kernel
theorem dX10_digest_152 : decode cX10_digest 152 = .ok (.ladd, 1) := by decide +kernel
theorem dX10_digest_153 : decode cX10_digest 153 = .ok (.lstore_n 1, 1) := by decide +kernel
theorem dX10_digest_154 : decode cX10_digest 154 = .ok (.iconst 1, 1) := by decide +kernel
theorem dX10_digest_155 : decode cX10_digest 155 = .ok (.istore_n 3, 1) := by decide +kernel
theorem dX10_digest_156 : decode cX10_digest 156 = .ok (.iload_n 3, 1) := by decide +kernel
theorem dX10_digest_157 : decode cX10_digest 157 = .ok (.bipush 32, 2) := by decide +kernel
theorem dX10_digest_159 : decode cX10_digest 159 = .ok (.if_icmp .gt 23, 3) := by decide +kernel
theorem dX10_digest_162 : decode cX10_digest 162 = .ok (.ldc2_w 214, 3) := by decide +kernel
theorem dX10_digest_165 : decode cX10_digest 165 = .ok (.lload_n 1, 1) := by decide +kernel
theorem dX10_digest_166 : decode cX10_digest 166 = .ok (.lmul, 1) := by decide +kernel
theorem dX10_digest_167 : decode cX10_digest 167 = .ok (.aload_n 0, 1) := by decide +kernel
theorem dX10_digest_168 : decode cX10_digest 168 = .ok (.iload_n 3, 1) := by decide +kernel
theorem dX10_digest_169 : decode cX10_digest 169 = .ok (.invokevirtual 234, 3) := by decide +kernel
theorem dX10_digest_172 : decode cX10_digest 172 = .ok (.i2l, 1) := by decide +kernel
theorem dX10_digest_173 : decode cX10_digest 173 = .ok (.ladd, 1) := by decide +kernel
theorem dX10_digest_174 : decode cX10_digest 174 = .ok (.lstore_n 1, 1) := by decide +kernel
theorem dX10_digest_175 : decode cX10_digest 175 = .ok (.iload_n 3, 1) := by decide +kernel
theorem dX10_digest_176 : decode cX10_digest 176 = .ok (.iconst 2, 1) := by decide +kernel
theorem dX10_digest_177 : decode cX10_digest 177 = .ok (.imul, 1) := by decide +kernel
theorem dX10_digest_178 : decode cX10_digest 178 = .ok (.istore_n 3, 1) := by decide +kernel
theorem dX10_digest_179 : decode cX10_digest 179 = .ok (.goto (-23), 3) := by decide +kernel
theorem dX10_digest_182 : decode cX10_digest 182 = .ok (.iconst 0, 1) := by decide +kernel
theorem dX10_digest_183 : decode cX10_digest 183 = .ok (.istore_n 3, 1) := by decide +kernel
theorem dX10_digest_184 : decode cX10_digest 184 = .ok (.iload_n 3, 1) := by decide +kernel
theorem dX10_digest_185 : decode cX10_digest 185 = .ok (.iconst 4, 1) := by decide +kernel
theorem dX10_digest_186 : decode cX10_digest 186 = .ok (.if_icmp .gt 24, 3) := by decide +kernel
theorem dX10_digest_189 : decode cX10_digest 189 = .ok (.ldc2_w 214, 3) := by decide +kernel
theorem dX10_digest_192 : decode cX10_digest 192 = .ok (.lload_n 1, 1) := by decide +kernel
theorem dX10_digest_193 : decode cX10_digest 193 = .ok (.lmul, 1) := by decide +kernel
theorem dX10_digest_194 : decode cX10_digest 194 = .ok (.aload_n 0, 1) := by decide +kernel
theorem dX10_digest_195 : decode cX10_digest 195 = .ok (.bipush 31, 2) := by decide +kernel
theorem dX10_digest_197 : decode cX10_digest 197 = .ok (.iload_n 3, 1) := by decide +kernel
theorem dX10_digest_198 : decode cX10_digest 198 = .ok (.invokevirtual 237, 3) := by decide +kernel
theorem dX10_digest_201 : decode cX10_digest 201 = .ok (.i2l, 1) := by decide +kernel
theorem dX10_digest_202 : decode cX10_digest 202 = .ok (.ladd, 1) := by decide +kernel
theorem dX10_digest_203 : decode cX10_digest 203 = .ok (.lstore_n 1, 1) := by decide +kernel
theorem dX10_digest_204 : decode cX10_digest 204 = .ok (.iinc 3 1, 3) := by decide +kernel
theorem dX10_digest_207 : decode cX10_digest 207 = .ok (.goto (-23), 3) := by decide +kernel
theorem dX10_digest_210 : decode cX10_digest 210 = .ok (.lload_n 1, 1) := by decide +kernel
theorem dX10_digest_211 : decode cX10_digest 211 = .ok (.lreturn, 1) := by decide +kernel
