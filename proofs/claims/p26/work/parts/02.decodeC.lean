theorem dX0_init_0 : decode cX0_init 0 = .ok (.aload_n 0, 1) := by decide +kernel
theorem dX0_init_1 : decode cX0_init 1 = .ok (.invokespecial 3, 3) := by decide +kernel
theorem dX0_init_4 : decode cX0_init 4 = .ok (.aload_n 0, 1) := by decide +kernel
theorem dX0_init_5 : decode cX0_init 5 = .ok (.bipush 10, 2) := by decide +kernel
theorem dX0_init_7 : decode cX0_init 7 = .ok (.newarray .int, 2) := by decide +kernel
theorem dX0_init_9 : decode cX0_init 9 = .ok (.putfield 9, 3) := by decide +kernel
theorem dX0_init_12 : decode cX0_init 12 = .ok (.aload_n 0, 1) := by decide +kernel
theorem dX0_init_13 : decode cX0_init 13 = .ok (.bipush 10, 2) := by decide +kernel
theorem dX0_init_15 : decode cX0_init 15 = .ok (.newarray .int, 2) := by decide +kernel
theorem dX0_init_17 : decode cX0_init 17 = .ok (.putfield 15, 3) := by decide +kernel
theorem dX0_init_20 : decode cX0_init 20 = .ok (.return_, 1) := by decide +kernel
theorem dX0_become_0 : decode cX0_become 0 = .ok (.aload_n 0, 1) := by decide +kernel
theorem dX0_become_1 : decode cX0_become 1 = .ok (.aload_n 1, 1) := by decide +kernel
theorem dX0_become_2 : decode cX0_become 2 = .ok (.getfield 18, 3) := by decide +kernel
theorem dX0_become_5 : decode cX0_become 5 = .ok (.putfield 18, 3) := by decide +kernel
theorem dX0_become_8 : decode cX0_become 8 = .ok (.aload_n 1, 1) := by decide +kernel
theorem dX0_become_9 : decode cX0_become 9 = .ok (.getfield 9, 3) := by decide +kernel
theorem dX0_become_12 : decode cX0_become 12 = .ok (.iconst 0, 1) := by decide +kernel
theorem dX0_become_13 : decode cX0_become 13 = .ok (.aload_n 0, 1) := by decide +kernel
theorem dX0_become_14 : decode cX0_become 14 = .ok (.getfield 9, 3) := by decide +kernel
theorem dX0_become_17 : decode cX0_become 17 = .ok (.iconst 0, 1) := by decide +kernel
theorem dX0_become_18 : decode cX0_become 18 = .ok (.bipush 10, 2) := by decide +kernel
theorem dX0_become_20 : decode cX0_become 20 = .ok (.invokestatic 22, 3) := by decide +kernel
theorem dX0_become_23 : decode cX0_become 23 = .ok (.aload_n 1, 1) := by decide +kernel
theorem dX0_become_24 : decode cX0_become 24 = .ok (.getfield 15, 3) := by decide +kernel
theorem dX0_become_27 : decode cX0_become 27 = .ok (.iconst 0, 1) := by decide +kernel
theorem dX0_become_28 : decode cX0_become 28 = .ok (.aload_n 0, 1) := by decide +kernel
theorem dX0_become_29 : decode cX0_become 29 = .ok (.getfield 15, 3) := by decide +kernel
theorem dX0_become_32 : decode cX0_become 32 = .ok (.iconst 0, 1) := by decide +kernel
theorem dX0_become_33 : decode cX0_become 33 = .ok (.bipush 10, 2) := by decide +kernel
theorem dX0_become_35 : decode cX0_become 35 = .ok (.invokestatic 22, 3) := by decide +kernel
theorem dX0_become_38 : decode cX0_become 38 = .ok (.return_, 1) := by decide +kernel
theorem dX0_size_0 : decode cX0_size 0 = .ok (.aload_n 0, 1) := by decide +kernel
theorem dX0_size_1 : decode cX0_size 1 = .ok (.getfield 18, 3) := by decide +kernel
theorem dX0_size_4 : decode cX0_size 4 = .ok (.ireturn, 1) := by decide +kernel
theorem dX0_has_0 : decode cX0_has 0 = .ok (.iload_n 1, 1) := by decide +kernel
theorem dX0_has_1 : decode cX0_has 1 = .ok (.ifCond .lt 15, 3) := by decide +kernel
theorem dX0_has_4 : decode cX0_has 4 = .ok (.iload_n 1, 1) := by decide +kernel
theorem dX0_has_5 : decode cX0_has 5 = .ok (.aload_n 0, 1) := by decide +kernel
theorem dX0_has_6 : decode cX0_has 6 = .ok (.getfield 18, 3) := by decide +kernel
theorem dX0_has_9 : decode cX0_has 9 = .ok (.if_icmp .ge 7, 3) := by decide +kernel
theorem dX0_has_12 : decode cX0_has 12 = .ok (.iconst 1, 1) := by decide +kernel
theorem dX0_has_13 : decode cX0_has 13 = .ok (.goto 4, 3) := by decide +kernel
theorem dX0_has_16 : decode cX0_has 16 = .ok (.iconst 0, 1) := by decide +kernel
theorem dX0_has_17 : decode cX0_has 17 = .ok (.ireturn, 1) := by decide +kernel
theorem dX0_firstOf_0 : decode cX0_firstOf 0 = .ok (.aload_n 0, 1) := by decide +kernel
theorem dX0_firstOf_1 : decode cX0_firstOf 1 = .ok (.iload_n 1, 1) := by decide +kernel
theorem dX0_firstOf_2 : decode cX0_firstOf 2 = .ok (.invokevirtual 28, 3) := by decide +kernel
theorem dX0_firstOf_5 : decode cX0_firstOf 5 = .ok (.ifCond .eq 12, 3) := by decide +kernel
theorem dX0_firstOf_8 : decode cX0_firstOf 8 = .ok (.aload_n 0, 1) := by decide +kernel
theorem dX0_firstOf_9 : decode cX0_firstOf 9 = .ok (.getfield 9, 3) := by decide +kernel
theorem dX0_firstOf_12 : decode cX0_firstOf 12 = .ok (.iload_n 1, 1) := by decide +kernel
theorem dX0_firstOf_13 : decode cX0_firstOf 13 = .ok (.iaload, 1) := by decide +kernel
theorem dX0_firstOf_14 : decode cX0_firstOf 14 = .ok (.goto 4, 3) := by decide +kernel
theorem dX0_firstOf_17 : decode cX0_firstOf 17 = .ok (.iconst 0, 1) := by decide +kernel
theorem dX0_firstOf_18 : decode cX0_firstOf 18 = .ok (.ireturn, 1) := by decide +kernel
theorem dX0_lengthOf_0 : decode cX0_lengthOf 0 = .ok (.aload_n 0, 1) := by decide +kernel
theorem dX0_lengthOf_1 : decode cX0_lengthOf 1 = .ok (.iload_n 1, 1) := by decide +kernel
theorem dX0_lengthOf_2 : decode cX0_lengthOf 2 = .ok (.invokevirtual 28, 3) := by decide +kernel
theorem dX0_lengthOf_5 : decode cX0_lengthOf 5 = .ok (.ifCond .eq 12, 3) := by decide +kernel
theorem dX0_lengthOf_8 : decode cX0_lengthOf 8 = .ok (.aload_n 0, 1) := by decide +kernel
theorem dX0_lengthOf_9 : decode cX0_lengthOf 9 = .ok (.getfield 15, 3) := by decide +kernel
theorem dX0_lengthOf_12 : decode cX0_lengthOf 12 = .ok (.iload_n 1, 1) := by decide +kernel
theorem dX0_lengthOf_13 : decode cX0_lengthOf 13 = .ok (.iaload, 1) := by decide +kernel
theorem dX0_lengthOf_14 : decode cX0_lengthOf 14 = .ok (.goto 4, 3) := by decide +kernel
theorem dX0_lengthOf_17 : decode cX0_lengthOf 17 = .ok (.iconst 0, 1) := by decide +kernel
theorem dX0_lengthOf_18 : decode cX0_lengthOf 18 = .ok (.ireturn, 1) := by decide +kernel
theorem dX0_startOf_0 : decode cX0_startOf 0 = .ok (.iconst 0, 1) := by decide +kernel
theorem dX0_startOf_1 : decode cX0_startOf 1 = .ok (.istore_n 2, 1) := by decide +kernel
theorem dX0_startOf_2 : decode cX0_startOf 2 = .ok (.iconst 0, 1) := by decide +kernel
theorem dX0_startOf_3 : decode cX0_startOf 3 = .ok (.istore_n 3, 1) := by decide +kernel
theorem dX0_startOf_4 : decode cX0_startOf 4 = .ok (.iload_n 3, 1) := by decide +kernel
theorem dX0_startOf_5 : decode cX0_startOf 5 = .ok (.iload_n 1, 1) := by decide +kernel
theorem dX0_startOf_6 : decode cX0_startOf 6 = .ok (.if_icmp .ge 26, 3) := by decide +kernel
theorem dX0_startOf_9 : decode cX0_startOf 9 = .ok (.iload_n 3, 1) := by decide +kernel
theorem dX0_startOf_10 : decode cX0_startOf 10 = .ok (.aload_n 0, 1) := by decide +kernel
theorem dX0_startOf_11 : decode cX0_startOf 11 = .ok (.getfield 18, 3) := by decide +kernel
theorem dX0_startOf_14 : decode cX0_startOf 14 = .ok (.if_icmp .ge 18, 3) := by decide +kernel
theorem dX0_startOf_17 : decode cX0_startOf 17 = .ok (.iload_n 2, 1) := by decide +kernel
theorem dX0_startOf_18 : decode cX0_startOf 18 = .ok (.aload_n 0, 1) := by decide +kernel
theorem dX0_startOf_19 : decode cX0_startOf 19 = .ok (.getfield 15, 3) := by decide +kernel
theorem dX0_startOf_22 : decode cX0_startOf 22 = .ok (.iload_n 3, 1) := by decide +kernel
theorem dX0_startOf_23 : decode cX0_startOf 23 = .ok (.iaload, 1) := by decide +kernel
theorem dX0_startOf_24 : decode cX0_startOf 24 = .ok (.iadd, 1) := by decide +kernel
theorem dX0_startOf_25 : decode cX0_startOf 25 = .ok (.istore_n 2, 1) := by decide +kernel
theorem dX0_startOf_26 : decode cX0_startOf 26 = .ok (.iinc 3 1, 3) := by decide +kernel
theorem dX0_startOf_29 : decode cX0_startOf 29 = .ok (.goto (-25), 3) := by decide +kernel
theorem dX0_startOf_32 : decode cX0_startOf 32 = .ok (.iload_n 2, 1) := by decide +kernel
theorem dX0_startOf_33 : decode cX0_startOf 33 = .ok (.ireturn, 1) := by decide +kernel
theorem dX0_frames_0 : decode cX0_frames 0 = .ok (.aload_n 0, 1) := by decide +kernel
theorem dX0_frames_1 : decode cX0_frames 1 = .ok (.aload_n 0, 1) := by decide +kernel
theorem dX0_frames_2 : decode cX0_frames 2 = .ok (.getfield 18, 3) := by decide +kernel
theorem dX0_frames_5 : decode cX0_frames 5 = .ok (.invokevirtual 32, 3) := by decide +kernel
theorem dX0_frames_8 : decode cX0_frames 8 = .ok (.ireturn, 1) := by decide +kernel
theorem dX0_append_0 : decode cX0_append 0 = .ok (.aload_n 0, 1) := by decide +kernel
theorem dX0_append_1 : decode cX0_append 1 = .ok (.getfield 18, 3) := by decide +kernel
theorem dX0_append_4 : decode cX0_append 4 = .ok (.bipush 10, 2) := by decide +kernel
theorem dX0_append_6 : decode cX0_append 6 = .ok (.if_icmp .lt 4, 3) := by decide +kernel
theorem dX0_append_9 : decode cX0_append 9 = .ok (.return_, 1) := by decide +kernel
theorem dX0_append_10 : decode cX0_append 10 = .ok (.aload_n 0, 1) := by decide +kernel
theorem dX0_append_11 : decode cX0_append 11 = .ok (.getfield 9, 3) := by decide +kernel
theorem dX0_append_14 : decode cX0_append 14 = .ok (.aload_n 0, 1) := by decide +kernel
theorem dX0_append_15 : decode cX0_append 15 = .ok (.getfield 18, 3) := by decide +kernel
theorem dX0_append_18 : decode cX0_append 18 = .ok (.iload_n 1, 1) := by decide +kernel
theorem dX0_append_19 : decode cX0_append 19 = .ok (.iastore, 1) := by decide +kernel
theorem dX0_append_20 : decode cX0_append 20 = .ok (.aload_n 0, 1) := by decide +kernel
theorem dX0_append_21 : decode cX0_append 21 = .ok (.getfield 15, 3) := by decide +kernel
theorem dX0_append_24 : decode cX0_append 24 = .ok (.aload_n 0, 1) := by decide +kernel
theorem dX0_append_25 : decode cX0_append 25 = .ok (.getfield 18, 3) := by decide +kernel
theorem dX0_append_28 : decode cX0_append 28 = .ok (.iload_n 2, 1) := by decide +kernel
theorem dX0_append_29 : decode cX0_append 29 = .ok (.iastore, 1) := by decide +kernel
theorem dX0_append_30 : decode cX0_append 30 = .ok (.aload_n 0, 1) := by decide +kernel
theorem dX0_append_31 : decode cX0_append 31 = .ok (.dup, 1) := by decide +kernel
theorem dX0_append_32 : decode cX0_append 32 = .ok (.getfield 18, 3) := by decide +kernel
theorem dX0_append_35 : decode cX0_append 35 = .ok (.iconst 1, 1) := by decide +kernel
theorem dX0_append_36 : decode cX0_append 36 = .ok (.iadd, 1) := by decide +kernel
theorem dX0_append_37 : decode cX0_append 37 = .ok (.putfield 18, 3) := by decide +kernel
theorem dX0_append_40 : decode cX0_append 40 = .ok (.return_, 1) := by decide +kernel
theorem dX0_newFrame_0 : decode cX0_newFrame 0 = .ok (.iload_n 2, 1) := by decide +kernel
theorem dX0_newFrame_1 : decode cX0_newFrame 1 = .ok (.istore_n 3, 1) := by decide +kernel
theorem dX0_newFrame_2 : decode cX0_newFrame 2 = .ok (.iconst 0, 1) := by decide +kernel
theorem dX0_newFrame_3 : decode cX0_newFrame 3 = .ok (.istore 4, 2) := by decide +kernel
theorem dX0_newFrame_5 : decode cX0_newFrame 5 = .ok (.iconst 0, 1) := by decide +kernel
theorem dX0_newFrame_6 : decode cX0_newFrame 6 = .ok (.istore 5, 2) := by decide +kernel
theorem dX0_newFrame_8 : decode cX0_newFrame 8 = .ok (.iload 5, 2) := by decide +kernel
theorem dX0_newFrame_10 : decode cX0_newFrame 10 = .ok (.aload_n 0, 1) := by decide +kernel
theorem dX0_newFrame_11 : decode cX0_newFrame 11 = .ok (.getfield 18, 3) := by decide +kernel
theorem dX0_newFrame_14 : decode cX0_newFrame 14 = .ok (.if_icmp .ge 62, 3) := by decide +kernel
theorem dX0_newFrame_17 : decode cX0_newFrame 17 = .ok (.iload_n 1, 1) := by decide +kernel
theorem dX0_newFrame_18 : decode cX0_newFrame 18 = .ok (.aload_n 0, 1) := by decide +kernel
theorem dX0_newFrame_19 : decode cX0_newFrame 19 = .ok (.getfield 9, 3) := by decide +kernel
theorem dX0_newFrame_22 : decode cX0_newFrame 22 = .ok (.iload 5, 2) := by decide +kernel
theorem dX0_newFrame_24 : decode cX0_newFrame 24 = .ok (.iaload, 1) := by decide +kernel
theorem dX0_newFrame_25 : decode cX0_newFrame 25 = .ok (.isub, 1) := by decide +kernel
theorem dX0_newFrame_26 : decode cX0_newFrame 26 = .ok (.istore 6, 2) := by decide +kernel
theorem dX0_newFrame_28 : decode cX0_newFrame 28 = .ok (.iload 6, 2) := by decide +kernel
theorem dX0_newFrame_30 : decode cX0_newFrame 30 = .ok (.ifCond .lt 28, 3) := by decide +kernel
theorem dX0_newFrame_33 : decode cX0_newFrame 33 = .ok (.iload 6, 2) := by decide +kernel
theorem dX0_newFrame_35 : decode cX0_newFrame 35 = .ok (.aload_n 0, 1) := by decide +kernel
theorem dX0_newFrame_36 : decode cX0_newFrame 36 = .ok (.getfield 15, 3) := by decide +kernel
theorem dX0_newFrame_39 : decode cX0_newFrame 39 = .ok (.iload 5, 2) := by decide +kernel
theorem dX0_newFrame_41 : decode cX0_newFrame 41 = .ok (.iaload, 1) := by decide +kernel
theorem dX0_newFrame_42 : decode cX0_newFrame 42 = .ok (.if_icmp .ge 16, 3) := by decide +kernel
theorem dX0_newFrame_45 : decode cX0_newFrame 45 = .ok (.iload_n 3, 1) := by decide +kernel
theorem dX0_newFrame_46 : decode cX0_newFrame 46 = .ok (.ifCond .ne 9, 3) := by decide +kernel
theorem dX0_newFrame_49 : decode cX0_newFrame 49 = .ok (.iload 4, 2) := by decide +kernel
theorem dX0_newFrame_51 : decode cX0_newFrame 51 = .ok (.iload 6, 2) := by decide +kernel
theorem dX0_newFrame_53 : decode cX0_newFrame 53 = .ok (.iadd, 1) := by decide +kernel
theorem dX0_newFrame_54 : decode cX0_newFrame 54 = .ok (.ireturn, 1) := by decide +kernel
theorem dX0_newFrame_55 : decode cX0_newFrame 55 = .ok (.iinc 3 (-1), 3) := by decide +kernel
theorem dX0_newFrame_58 : decode cX0_newFrame 58 = .ok (.iload 4, 2) := by decide +kernel
theorem dX0_newFrame_60 : decode cX0_newFrame 60 = .ok (.aload_n 0, 1) := by decide +kernel
theorem dX0_newFrame_61 : decode cX0_newFrame 61 = .ok (.getfield 15, 3) := by decide +kernel
theorem dX0_newFrame_64 : decode cX0_newFrame 64 = .ok (.iload 5, 2) := by decide +kernel
theorem dX0_newFrame_66 : decode cX0_newFrame 66 = .ok (.iaload, 1) := by decide +kernel
theorem dX0_newFrame_67 : decode cX0_newFrame 67 = .ok (.iadd, 1) := by decide +kernel
theorem dX0_newFrame_68 : decode cX0_newFrame 68 = .ok (.istore 4, 2) := by decide +kernel
theorem dX0_newFrame_70 : decode cX0_newFrame 70 = .ok (.iinc 5 1, 3) := by decide +kernel
theorem dX0_newFrame_73 : decode cX0_newFrame 73 = .ok (.goto (-65), 3) := by decide +kernel
theorem dX0_newFrame_76 : decode cX0_newFrame 76 = .ok (.bipush (-9), 2) := by decide +kernel
theorem dX0_newFrame_78 : decode cX0_newFrame 78 = .ok (.ireturn, 1) := by decide +kernel
theorem dX0_oldFrame_0 : decode cX0_oldFrame 0 = .ok (.iload_n 1, 1) := by decide +kernel
theorem dX0_oldFrame_1 : decode cX0_oldFrame 1 = .ok (.istore_n 2, 1) := by decide +kernel
theorem dX0_oldFrame_2 : decode cX0_oldFrame 2 = .ok (.iconst 0, 1) := by decide +kernel
theorem dX0_oldFrame_3 : decode cX0_oldFrame 3 = .ok (.istore_n 3, 1) := by decide +kernel
theorem dX0_oldFrame_4 : decode cX0_oldFrame 4 = .ok (.iload_n 3, 1) := by decide +kernel
theorem dX0_oldFrame_5 : decode cX0_oldFrame 5 = .ok (.aload_n 0, 1) := by decide +kernel
theorem dX0_oldFrame_6 : decode cX0_oldFrame 6 = .ok (.getfield 18, 3) := by decide +kernel
theorem dX0_oldFrame_9 : decode cX0_oldFrame 9 = .ok (.if_icmp .ge 37, 3) := by decide +kernel
theorem dX0_oldFrame_12 : decode cX0_oldFrame 12 = .ok (.iload_n 2, 1) := by decide +kernel
theorem dX0_oldFrame_13 : decode cX0_oldFrame 13 = .ok (.aload_n 0, 1) := by decide +kernel
theorem dX0_oldFrame_14 : decode cX0_oldFrame 14 = .ok (.getfield 15, 3) := by decide +kernel
theorem dX0_oldFrame_17 : decode cX0_oldFrame 17 = .ok (.iload_n 3, 1) := by decide +kernel
theorem dX0_oldFrame_18 : decode cX0_oldFrame 18 = .ok (.iaload, 1) := by decide +kernel
theorem dX0_oldFrame_19 : decode cX0_oldFrame 19 = .ok (.if_icmp .ge 12, 3) := by decide +kernel
theorem dX0_oldFrame_22 : decode cX0_oldFrame 22 = .ok (.aload_n 0, 1) := by decide +kernel
theorem dX0_oldFrame_23 : decode cX0_oldFrame 23 = .ok (.getfield 9, 3) := by decide +kernel
theorem dX0_oldFrame_26 : decode cX0_oldFrame 26 = .ok (.iload_n 3, 1) := by decide +kernel
theorem dX0_oldFrame_27 : decode cX0_oldFrame 27 = .ok (.iaload, 1) := by decide +kernel
theorem dX0_oldFrame_28 : decode cX0_oldFrame 28 = .ok (.iload_n 2, 1) := by decide +kernel
theorem dX0_oldFrame_29 : decode cX0_oldFrame 29 = .ok (.iadd, 1) := by decide +kernel
theorem dX0_oldFrame_30 : decode cX0_oldFrame 30 = .ok (.ireturn, 1) := by decide +kernel
theorem dX0_oldFrame_31 : decode cX0_oldFrame 31 = .ok (.iload_n 2, 1) := by decide +kernel
theorem dX0_oldFrame_32 : decode cX0_oldFrame 32 = .ok (.aload_n 0, 1) := by decide +kernel
theorem dX0_oldFrame_33 : decode cX0_oldFrame 33 = .ok (.getfield 15, 3) := by decide +kernel
theorem dX0_oldFrame_36 : decode cX0_oldFrame 36 = .ok (.iload_n 3, 1) := by decide +kernel
theorem dX0_oldFrame_37 : decode cX0_oldFrame 37 = .ok (.iaload, 1) := by decide +kernel
theorem dX0_oldFrame_38 : decode cX0_oldFrame 38 = .ok (.isub, 1) := by decide +kernel
theorem dX0_oldFrame_39 : decode cX0_oldFrame 39 = .ok (.istore_n 2, 1) := by decide +kernel
theorem dX0_oldFrame_40 : decode cX0_oldFrame 40 = .ok (.iinc 3 1, 3) := by decide +kernel
theorem dX0_oldFrame_43 : decode cX0_oldFrame 43 = .ok (.goto (-39), 3) := by decide +kernel
theorem dX0_oldFrame_46 : decode cX0_oldFrame 46 = .ok (.bipush (-9), 2) := by decide +kernel
theorem dX0_oldFrame_48 : decode cX0_oldFrame 48 = .ok (.ireturn, 1) := by decide +kernel
theorem dX1_init_0 : decode cX1_init 0 = .ok (.aload_n 0, 1) := by decide +kernel
theorem dX1_init_1 : decode cX1_init 1 = .ok (.invokespecial 3, 3) := by decide +kernel
theorem dX1_init_4 : decode cX1_init 4 = .ok (.aload_n 0, 1) := by decide +kernel
theorem dX1_init_5 : decode cX1_init 5 = .ok (.bipush 8, 2) := by decide +kernel
theorem dX1_init_7 : decode cX1_init 7 = .ok (.anewarray 9, 3) := by decide +kernel
theorem dX1_init_10 : decode cX1_init 10 = .ok (.putfield 11, 3) := by decide +kernel
theorem dX1_init_13 : decode cX1_init 13 = .ok (.iconst 0, 1) := by decide +kernel
theorem dX1_init_14 : decode cX1_init 14 = .ok (.istore_n 2, 1) := by decide +kernel
theorem dX1_init_15 : decode cX1_init 15 = .ok (.iload_n 2, 1) := by decide +kernel
theorem dX1_init_16 : decode cX1_init 16 = .ok (.aload_n 0, 1) := by decide +kernel
theorem dX1_init_17 : decode cX1_init 17 = .ok (.getfield 11, 3) := by decide +kernel
theorem dX1_init_20 : decode cX1_init 20 = .ok (.arraylength, 1) := by decide +kernel
theorem dX1_init_21 : decode cX1_init 21 = .ok (.if_icmp .ge 23, 3) := by decide +kernel
theorem dX1_init_24 : decode cX1_init 24 = .ok (.aload_n 0, 1) := by decide +kernel
theorem dX1_init_25 : decode cX1_init 25 = .ok (.getfield 11, 3) := by decide +kernel
theorem dX1_init_28 : decode cX1_init 28 = .ok (.iload_n 2, 1) := by decide +kernel
theorem dX1_init_29 : decode cX1_init 29 = .ok (.new 9, 3) := by decide +kernel
theorem dX1_init_32 : decode cX1_init 32 = .ok (.dup, 1) := by decide +kernel
theorem dX1_init_33 : decode cX1_init 33 = .ok (.aload_n 1, 1) := by decide +kernel
theorem dX1_init_34 : decode cX1_init 34 = .ok (.invokespecial 17, 3) := by decide +kernel
theorem dX1_init_37 : decode cX1_init 37 = .ok (.aastore, 1) := by decide +kernel
theorem dX1_init_38 : decode cX1_init 38 = .ok (.iinc 2 1, 3) := by decide +kernel
theorem dX1_init_41 : decode cX1_init 41 = .ok (.goto (-26), 3) := by decide +kernel
theorem dX1_init_44 : decode cX1_init 44 = .ok (.return_, 1) := by decide +kernel
theorem dX1_size_0 : decode cX1_size 0 = .ok (.aload_n 0, 1) := by decide +kernel
theorem dX1_size_1 : decode cX1_size 1 = .ok (.getfield 20, 3) := by decide +kernel
theorem dX1_size_4 : decode cX1_size 4 = .ok (.ireturn, 1) := by decide +kernel
theorem dX1_record_0 : decode cX1_record 0 = .ok (.aload_n 0, 1) := by decide +kernel
theorem dX1_record_1 : decode cX1_record 1 = .ok (.getfield 20, 3) := by decide +kernel
theorem dX1_record_4 : decode cX1_record 4 = .ok (.aload_n 0, 1) := by decide +kernel
theorem dX1_record_5 : decode cX1_record 5 = .ok (.getfield 11, 3) := by decide +kernel
theorem dX1_record_8 : decode cX1_record 8 = .ok (.arraylength, 1) := by decide +kernel
theorem dX1_record_9 : decode cX1_record 9 = .ok (.if_icmp .lt 7, 3) := by decide +kernel
theorem dX1_record_12 : decode cX1_record 12 = .ok (.aload_n 0, 1) := by decide +kernel
theorem dX1_record_13 : decode cX1_record 13 = .ok (.invokevirtual 24, 3) := by decide +kernel
theorem dX1_record_16 : decode cX1_record 16 = .ok (.aload_n 0, 1) := by decide +kernel
theorem dX1_record_17 : decode cX1_record 17 = .ok (.getfield 11, 3) := by decide +kernel
theorem dX1_record_20 : decode cX1_record 20 = .ok (.aload_n 0, 1) := by decide +kernel
theorem dX1_record_21 : decode cX1_record 21 = .ok (.getfield 20, 3) := by decide +kernel
theorem dX1_record_24 : decode cX1_record 24 = .ok (.aaload, 1) := by decide +kernel
theorem dX1_record_25 : decode cX1_record 25 = .ok (.aload_n 1, 1) := by decide +kernel
theorem dX1_record_26 : decode cX1_record 26 = .ok (.invokevirtual 27, 3) := by decide +kernel
theorem dX1_record_29 : decode cX1_record 29 = .ok (.aload_n 0, 1) := by decide +kernel
theorem dX1_record_30 : decode cX1_record 30 = .ok (.dup, 1) := by decide +kernel
theorem dX1_record_31 : decode cX1_record 31 = .ok (.getfield 20, 3) := by decide +kernel
theorem dX1_record_34 : decode cX1_record 34 = .ok (.iconst 1, 1) := by decide +kernel
theorem dX1_record_35 : decode cX1_record 35 = .ok (.iadd, 1) := by decide +kernel
theorem dX1_record_36 : decode cX1_record 36 = .ok (.putfield 20, 3) := by decide +kernel
theorem dX1_record_39 : decode cX1_record 39 = .ok (.return_, 1) := by decide +kernel
theorem dX1_restore_0 : decode cX1_restore 0 = .ok (.aload_n 0, 1) := by decide +kernel
theorem dX1_restore_1 : decode cX1_restore 1 = .ok (.getfield 20, 3) := by decide +kernel
theorem dX1_restore_4 : decode cX1_restore 4 = .ok (.ifCond .gt 4, 3) := by decide +kernel
theorem dX1_restore_7 : decode cX1_restore 7 = .ok (.return_, 1) := by decide +kernel
theorem dX1_restore_8 : decode cX1_restore 8 = .ok (.aload_n 0, 1) := by decide +kernel
theorem dX1_restore_9 : decode cX1_restore 9 = .ok (.dup, 1) := by decide +kernel
theorem dX1_restore_10 : decode cX1_restore 10 = .ok (.getfield 20, 3) := by decide +kernel
theorem dX1_restore_13 : decode cX1_restore 13 = .ok (.iconst 1, 1) := by decide +kernel
theorem dX1_restore_14 : decode cX1_restore 14 = .ok (.isub, 1) := by decide +kernel
theorem dX1_restore_15 : decode cX1_restore 15 = .ok (.putfield 20, 3) := by decide +kernel
theorem dX1_restore_18 : decode cX1_restore 18 = .ok (.aload_n 1, 1) := by decide +kernel
theorem dX1_restore_19 : decode cX1_restore 19 = .ok (.aload_n 0, 1) := by decide +kernel
theorem dX1_restore_20 : decode cX1_restore 20 = .ok (.getfield 11, 3) := by decide +kernel
theorem dX1_restore_23 : decode cX1_restore 23 = .ok (.aload_n 0, 1) := by decide +kernel
theorem dX1_restore_24 : decode cX1_restore 24 = .ok (.getfield 20, 3) := by decide +kernel
theorem dX1_restore_27 : decode cX1_restore 27 = .ok (.aaload, 1) := by decide +kernel
theorem dX1_restore_28 : decode cX1_restore 28 = .ok (.invokevirtual 27, 3) := by decide +kernel
theorem dX1_restore_31 : decode cX1_restore 31 = .ok (.return_, 1) := by decide +kernel
theorem dX1_forgetOldest_0 : decode cX1_forgetOldest 0 = .ok (.aload_n 0, 1) := by decide +kernel
theorem dX1_forgetOldest_1 : decode cX1_forgetOldest 1 = .ok (.getfield 11, 3) := by decide +kernel
theorem dX1_forgetOldest_4 : decode cX1_forgetOldest 4 = .ok (.iconst 0, 1) := by decide +kernel
theorem dX1_forgetOldest_5 : decode cX1_forgetOldest 5 = .ok (.aaload, 1) := by decide +kernel
theorem dX1_forgetOldest_6 : decode cX1_forgetOldest 6 = .ok (.astore_n 1, 1) := by decide +kernel
theorem dX1_forgetOldest_7 : decode cX1_forgetOldest 7 = .ok (.iconst 0, 1) := by decide +kernel
theorem dX1_forgetOldest_8 : decode cX1_forgetOldest 8 = .ok (.istore_n 2, 1) := by decide +kernel
theorem dX1_forgetOldest_9 : decode cX1_forgetOldest 9 = .ok (.iload_n 2, 1) := by decide +kernel
theorem dX1_forgetOldest_10 : decode cX1_forgetOldest 10 = .ok (.iconst 1, 1) := by decide +kernel
theorem dX1_forgetOldest_11 : decode cX1_forgetOldest 11 = .ok (.iadd, 1) := by decide +kernel
theorem dX1_forgetOldest_12 : decode cX1_forgetOldest 12 = .ok (.aload_n 0, 1) := by decide +kernel
theorem dX1_forgetOldest_13 : decode cX1_forgetOldest 13 = .ok (.getfield 11, 3) := by decide +kernel
theorem dX1_forgetOldest_16 : decode cX1_forgetOldest 16 = .ok (.arraylength, 1) := by decide +kernel
theorem dX1_forgetOldest_17 : decode cX1_forgetOldest 17 = .ok (.if_icmp .ge 23, 3) := by decide +kernel
theorem dX1_forgetOldest_20 : decode cX1_forgetOldest 20 = .ok (.aload_n 0, 1) := by decide +kernel
theorem dX1_forgetOldest_21 : decode cX1_forgetOldest 21 = .ok (.getfield 11, 3) := by decide +kernel
theorem dX1_forgetOldest_24 : decode cX1_forgetOldest 24 = .ok (.iload_n 2, 1) := by decide +kernel
theorem dX1_forgetOldest_25 : decode cX1_forgetOldest 25 = .ok (.aload_n 0, 1) := by decide +kernel
theorem dX1_forgetOldest_26 : decode cX1_forgetOldest 26 = .ok (.getfield 11, 3) := by decide +kernel
theorem dX1_forgetOldest_29 : decode cX1_forgetOldest 29 = .ok (.iload_n 2, 1) := by decide +kernel
theorem dX1_forgetOldest_30 : decode cX1_forgetOldest 30 = .ok (.iconst 1, 1) := by decide +kernel
theorem dX1_forgetOldest_31 : decode cX1_forgetOldest 31 = .ok (.iadd, 1) := by decide +kernel
theorem dX1_forgetOldest_32 : decode cX1_forgetOldest 32 = .ok (.aaload, 1) := by decide +kernel
theorem dX1_forgetOldest_33 : decode cX1_forgetOldest 33 = .ok (.aastore, 1) := by decide +kernel
theorem dX1_forgetOldest_34 : decode cX1_forgetOldest 34 = .ok (.iinc 2 1, 3) := by decide +kernel
theorem dX1_forgetOldest_37 : decode cX1_forgetOldest 37 = .ok (.goto (-28), 3) := by decide +kernel
theorem dX1_forgetOldest_40 : decode cX1_forgetOldest 40 = .ok (.aload_n 0, 1) := by decide +kernel
theorem dX1_forgetOldest_41 : decode cX1_forgetOldest 41 = .ok (.aload_n 0, 1) := by decide +kernel
theorem dX1_forgetOldest_42 : decode cX1_forgetOldest 42 = .ok (.getfield 11, 3) := by decide +kernel
theorem dX1_forgetOldest_45 : decode cX1_forgetOldest 45 = .ok (.arraylength, 1) := by decide +kernel
theorem dX1_forgetOldest_46 : decode cX1_forgetOldest 46 = .ok (.iconst 1, 1) := by decide +kernel
theorem dX1_forgetOldest_47 : decode cX1_forgetOldest 47 = .ok (.isub, 1) := by decide +kernel
theorem dX1_forgetOldest_48 : decode cX1_forgetOldest 48 = .ok (.putfield 20, 3) := by decide +kernel
theorem dX1_forgetOldest_51 : decode cX1_forgetOldest 51 = .ok (.aload_n 0, 1) := by decide +kernel
theorem dX1_forgetOldest_52 : decode cX1_forgetOldest 52 = .ok (.getfield 11, 3) := by decide +kernel
theorem dX1_forgetOldest_55 : decode cX1_forgetOldest 55 = .ok (.aload_n 0, 1) := by decide +kernel
theorem dX1_forgetOldest_56 : decode cX1_forgetOldest 56 = .ok (.getfield 20, 3) := by decide +kernel
theorem dX1_forgetOldest_59 : decode cX1_forgetOldest 59 = .ok (.aload_n 1, 1) := by decide +kernel
theorem dX1_forgetOldest_60 : decode cX1_forgetOldest 60 = .ok (.aastore, 1) := by decide +kernel
theorem dX1_forgetOldest_61 : decode cX1_forgetOldest 61 = .ok (.return_, 1) := by decide +kernel
theorem dX2_init_0 : decode cX2_init 0 = .ok (.aload_n 0, 1) := by decide +kernel
theorem dX2_init_1 : decode cX2_init 1 = .ok (.invokespecial 3, 3) := by decide +kernel
theorem dX2_init_4 : decode cX2_init 4 = .ok (.iconst 0, 1) := by decide +kernel
theorem dX2_init_5 : decode cX2_init 5 = .ok (.iload_n 3, 1) := by decide +kernel
theorem dX2_init_6 : decode cX2_init 6 = .ok (.aload_n 2, 1) := by decide +kernel
theorem dX2_init_7 : decode cX2_init 7 = .ok (.arraylength, 1) := by decide +kernel
theorem dX2_init_8 : decode cX2_init 8 = .ok (.invokestatic 9, 3) := by decide +kernel
theorem dX2_init_11 : decode cX2_init 11 = .ok (.invokestatic 15, 3) := by decide +kernel
theorem dX2_init_14 : decode cX2_init 14 = .ok (.istore 4, 2) := by decide +kernel
theorem dX2_init_16 : decode cX2_init 16 = .ok (.aload_n 0, 1) := by decide +kernel
theorem dX2_init_17 : decode cX2_init 17 = .ok (.iload_n 1, 1) := by decide +kernel
theorem dX2_init_18 : decode cX2_init 18 = .ok (.putfield 18, 3) := by decide +kernel
theorem dX2_init_21 : decode cX2_init 21 = .ok (.aload_n 0, 1) := by decide +kernel
theorem dX2_init_22 : decode cX2_init 22 = .ok (.iload 4, 2) := by decide +kernel
theorem dX2_init_24 : decode cX2_init 24 = .ok (.newarray .byte, 2) := by decide +kernel
theorem dX2_init_26 : decode cX2_init 26 = .ok (.putfield 24, 3) := by decide +kernel
theorem dX2_init_29 : decode cX2_init 29 = .ok (.aload_n 2, 1) := by decide +kernel
theorem dX2_init_30 : decode cX2_init 30 = .ok (.iconst 0, 1) := by decide +kernel
theorem dX2_init_31 : decode cX2_init 31 = .ok (.aload_n 0, 1) := by decide +kernel
theorem dX2_init_32 : decode cX2_init 32 = .ok (.getfield 24, 3) := by decide +kernel
theorem dX2_init_35 : decode cX2_init 35 = .ok (.iconst 0, 1) := by decide +kernel
theorem dX2_init_36 : decode cX2_init 36 = .ok (.iload 4, 2) := by decide +kernel
theorem dX2_init_38 : decode cX2_init 38 = .ok (.invokestatic 28, 3) := by decide +kernel
theorem dX2_init_41 : decode cX2_init 41 = .ok (.return_, 1) := by decide +kernel
theorem dX2_bytes_0 : decode cX2_bytes 0 = .ok (.aload_n 0, 1) := by decide +kernel
theorem dX2_bytes_1 : decode cX2_bytes 1 = .ok (.getfield 24, 3) := by decide +kernel
theorem dX2_bytes_4 : decode cX2_bytes 4 = .ok (.arraylength, 1) := by decide +kernel
theorem dX2_bytes_5 : decode cX2_bytes 5 = .ok (.ireturn, 1) := by decide +kernel
theorem dX2_byteAt_0 : decode cX2_byteAt 0 = .ok (.iload_n 1, 1) := by decide +kernel
theorem dX2_byteAt_1 : decode cX2_byteAt 1 = .ok (.ifCond .lt 21, 3) := by decide +kernel
theorem dX2_byteAt_4 : decode cX2_byteAt 4 = .ok (.iload_n 1, 1) := by decide +kernel
theorem dX2_byteAt_5 : decode cX2_byteAt 5 = .ok (.aload_n 0, 1) := by decide +kernel
theorem dX2_byteAt_6 : decode cX2_byteAt 6 = .ok (.getfield 24, 3) := by decide +kernel
theorem dX2_byteAt_9 : decode cX2_byteAt 9 = .ok (.arraylength, 1) := by decide +kernel
theorem dX2_byteAt_10 : decode cX2_byteAt 10 = .ok (.if_icmp .ge 12, 3) := by decide +kernel
theorem dX2_byteAt_13 : decode cX2_byteAt 13 = .ok (.aload_n 0, 1) := by decide +kernel
theorem dX2_byteAt_14 : decode cX2_byteAt 14 = .ok (.getfield 24, 3) := by decide +kernel
theorem dX2_byteAt_17 : decode cX2_byteAt 17 = .ok (.iload_n 1, 1) := by decide +kernel
theorem dX2_byteAt_18 : decode cX2_byteAt 18 = .ok (.baload, 1) := by decide +kernel
theorem dX2_byteAt_19 : decode cX2_byteAt 19 = .ok (.goto 5, 3) := by decide +kernel
theorem dX2_byteAt_22 : decode cX2_byteAt 22 = .ok (.bipush (-9), 2) := by decide +kernel
theorem dX2_byteAt_24 : decode cX2_byteAt 24 = .ok (.ireturn, 1) := by decide +kernel
theorem dX2_brokenAt_0 : decode cX2_brokenAt 0 = .ok (.bipush (-9), 2) := by decide +kernel
theorem dX2_brokenAt_2 : decode cX2_brokenAt 2 = .ok (.istore_n 2, 1) := by decide +kernel
theorem dX2_brokenAt_3 : decode cX2_brokenAt 3 = .ok (.iconst 0, 1) := by decide +kernel
theorem dX2_brokenAt_4 : decode cX2_brokenAt 4 = .ok (.istore_n 3, 1) := by decide +kernel
theorem dX2_brokenAt_5 : decode cX2_brokenAt 5 = .ok (.aload_n 0, 1) := by decide +kernel
theorem dX2_brokenAt_6 : decode cX2_brokenAt 6 = .ok (.getfield 24, 3) := by decide +kernel
theorem dX2_brokenAt_9 : decode cX2_brokenAt 9 = .ok (.arraylength, 1) := by decide +kernel
theorem dX2_brokenAt_10 : decode cX2_brokenAt 10 = .ok (.iload_n 1, 1) := by decide +kernel
theorem dX2_brokenAt_11 : decode cX2_brokenAt 11 = .ok (.if_icmp .gt 5, 3) := by decide +kernel
theorem dX2_brokenAt_14 : decode cX2_brokenAt 14 = .ok (.iload_n 2, 1) := by decide +kernel
theorem dX2_brokenAt_15 : decode cX2_brokenAt 15 = .ok (.ireturn, 1) := by decide +kernel
theorem dX2_brokenAt_16 : decode cX2_brokenAt 16 = .ok (.iconst 0, 1) := by decide +kernel
theorem dX2_brokenAt_17 : decode cX2_brokenAt 17 = .ok (.istore 4, 2) := by decide +kernel
theorem dX2_brokenAt_19 : decode cX2_brokenAt 19 = .ok (.iload 4, 2) := by decide +kernel
theorem dX2_brokenAt_21 : decode cX2_brokenAt 21 = .ok (.aload_n 0, 1) := by decide +kernel
theorem dX2_brokenAt_22 : decode cX2_brokenAt 22 = .ok (.getfield 24, 3) := by decide +kernel
theorem dX2_brokenAt_25 : decode cX2_brokenAt 25 = .ok (.arraylength, 1) := by decide +kernel
theorem dX2_brokenAt_26 : decode cX2_brokenAt 26 = .ok (.if_icmp .ge 94, 3) := by decide +kernel
theorem dX2_brokenAt_29 : decode cX2_brokenAt 29 = .ok (.aload_n 0, 1) := by decide +kernel
theorem dX2_brokenAt_30 : decode cX2_brokenAt 30 = .ok (.getfield 24, 3) := by decide +kernel
theorem dX2_brokenAt_33 : decode cX2_brokenAt 33 = .ok (.iload 4, 2) := by decide +kernel
theorem dX2_brokenAt_35 : decode cX2_brokenAt 35 = .ok (.baload, 1) := by decide +kernel
theorem dX2_brokenAt_36 : decode cX2_brokenAt 36 = .ok (.bipush 32, 2) := by decide +kernel
theorem dX2_brokenAt_38 : decode cX2_brokenAt 38 = .ok (.if_icmp .eq 6, 3) := by decide +kernel
theorem dX2_brokenAt_41 : decode cX2_brokenAt 41 = .ok (.goto 73, 3) := by decide +kernel
theorem dX2_brokenAt_44 : decode cX2_brokenAt 44 = .ok (.aload_n 0, 1) := by decide +kernel
theorem dX2_brokenAt_45 : decode cX2_brokenAt 45 = .ok (.iload 4, 2) := by decide +kernel
theorem dX2_brokenAt_47 : decode cX2_brokenAt 47 = .ok (.invokevirtual 34, 3) := by decide +kernel
theorem dX2_brokenAt_50 : decode cX2_brokenAt 50 = .ok (.istore 5, 2) := by decide +kernel
theorem dX2_brokenAt_52 : decode cX2_brokenAt 52 = .ok (.aload_n 0, 1) := by decide +kernel
theorem dX2_brokenAt_53 : decode cX2_brokenAt 53 = .ok (.getfield 24, 3) := by decide +kernel
theorem dX2_brokenAt_56 : decode cX2_brokenAt 56 = .ok (.arraylength, 1) := by decide +kernel
theorem dX2_brokenAt_57 : decode cX2_brokenAt 57 = .ok (.iconst 1, 1) := by decide +kernel
theorem dX2_brokenAt_58 : decode cX2_brokenAt 58 = .ok (.isub, 1) := by decide +kernel
theorem dX2_brokenAt_59 : decode cX2_brokenAt 59 = .ok (.iload 5, 2) := by decide +kernel
theorem dX2_brokenAt_61 : decode cX2_brokenAt 61 = .ok (.isub, 1) := by decide +kernel
theorem dX2_brokenAt_62 : decode cX2_brokenAt 62 = .ok (.istore 6, 2) := by decide +kernel
theorem dX2_brokenAt_64 : decode cX2_brokenAt 64 = .ok (.iload 5, 2) := by decide +kernel
theorem dX2_brokenAt_66 : decode cX2_brokenAt 66 = .ok (.iload_n 1, 1) := by decide +kernel
theorem dX2_brokenAt_67 : decode cX2_brokenAt 67 = .ok (.if_icmp .le 12, 3) := by decide +kernel
theorem dX2_brokenAt_70 : decode cX2_brokenAt 70 = .ok (.sipush 1000, 3) := by decide +kernel
theorem dX2_brokenAt_73 : decode cX2_brokenAt 73 = .ok (.iload 5, 2) := by decide +kernel
theorem dX2_brokenAt_75 : decode cX2_brokenAt 75 = .ok (.iadd, 1) := by decide +kernel
theorem dX2_brokenAt_76 : decode cX2_brokenAt 76 = .ok (.goto 18, 3) := by decide +kernel
theorem dX2_brokenAt_79 : decode cX2_brokenAt 79 = .ok (.iload 5, 2) := by decide +kernel
theorem dX2_brokenAt_81 : decode cX2_brokenAt 81 = .ok (.iload 6, 2) := by decide +kernel
theorem dX2_brokenAt_83 : decode cX2_brokenAt 83 = .ok (.isub, 1) := by decide +kernel
theorem dX2_brokenAt_84 : decode cX2_brokenAt 84 = .ok (.bipush 6, 2) := by decide +kernel
theorem dX2_brokenAt_86 : decode cX2_brokenAt 86 = .ok (.aload_n 0, 1) := by decide +kernel
theorem dX2_brokenAt_87 : decode cX2_brokenAt 87 = .ok (.iload 4, 2) := by decide +kernel
theorem dX2_brokenAt_89 : decode cX2_brokenAt 89 = .ok (.invokevirtual 38, 3) := by decide +kernel
theorem dX2_brokenAt_92 : decode cX2_brokenAt 92 = .ok (.imul, 1) := by decide +kernel
theorem dX2_brokenAt_93 : decode cX2_brokenAt 93 = .ok (.iadd, 1) := by decide +kernel
theorem dX2_brokenAt_94 : decode cX2_brokenAt 94 = .ok (.istore 7, 2) := by decide +kernel
theorem dX2_brokenAt_96 : decode cX2_brokenAt 96 = .ok (.iload_n 2, 1) := by decide +kernel
theorem dX2_brokenAt_97 : decode cX2_brokenAt 97 = .ok (.bipush (-9), 2) := by decide +kernel
theorem dX2_brokenAt_99 : decode cX2_brokenAt 99 = .ok (.if_icmp .eq 9, 3) := by decide +kernel
theorem dX2_brokenAt_102 : decode cX2_brokenAt 102 = .ok (.iload 7, 2) := by decide +kernel
theorem dX2_brokenAt_104 : decode cX2_brokenAt 104 = .ok (.iload_n 3, 1) := by decide +kernel
theorem dX2_brokenAt_105 : decode cX2_brokenAt 105 = .ok (.if_icmp .ge 9, 3) := by decide +kernel
theorem dX2_brokenAt_108 : decode cX2_brokenAt 108 = .ok (.iload 4, 2) := by decide +kernel
theorem dX2_brokenAt_110 : decode cX2_brokenAt 110 = .ok (.istore_n 2, 1) := by decide +kernel
theorem dX2_brokenAt_111 : decode cX2_brokenAt 111 = .ok (.iload 7, 2) := by decide +kernel
theorem dX2_brokenAt_113 : decode cX2_brokenAt 113 = .ok (.istore_n 3, 1) := by decide +kernel
theorem dX2_brokenAt_114 : decode cX2_brokenAt 114 = .ok (.iinc 4 1, 3) := by decide +kernel
theorem dX2_brokenAt_117 : decode cX2_brokenAt 117 = .ok (.goto (-98), 3) := by decide +kernel
theorem dX2_brokenAt_120 : decode cX2_brokenAt 120 = .ok (.iload_n 2, 1) := by decide +kernel
theorem dX2_brokenAt_121 : decode cX2_brokenAt 121 = .ok (.ireturn, 1) := by decide +kernel
theorem dX2_isTooWide_0 : decode cX2_isTooWide 0 = .ok (.aload_n 0, 1) := by decide +kernel
theorem dX2_isTooWide_1 : decode cX2_isTooWide 1 = .ok (.getfield 24, 3) := by decide +kernel
theorem dX2_isTooWide_4 : decode cX2_isTooWide 4 = .ok (.arraylength, 1) := by decide +kernel
theorem dX2_isTooWide_5 : decode cX2_isTooWide 5 = .ok (.iload_n 1, 1) := by decide +kernel
theorem dX2_isTooWide_6 : decode cX2_isTooWide 6 = .ok (.if_icmp .le 7, 3) := by decide +kernel
theorem dX2_isTooWide_9 : decode cX2_isTooWide 9 = .ok (.iconst 1, 1) := by decide +kernel
theorem dX2_isTooWide_10 : decode cX2_isTooWide 10 = .ok (.goto 4, 3) := by decide +kernel
theorem dX2_isTooWide_13 : decode cX2_isTooWide 13 = .ok (.iconst 0, 1) := by decide +kernel
theorem dX2_isTooWide_14 : decode cX2_isTooWide 14 = .ok (.istore_n 2, 1) := by decide +kernel
theorem dX2_isTooWide_15 : decode cX2_isTooWide 15 = .ok (.iconst 0, 1) := by decide +kernel
theorem dX2_isTooWide_16 : decode cX2_isTooWide 16 = .ok (.istore_n 3, 1) := by decide +kernel
theorem dX2_isTooWide_17 : decode cX2_isTooWide 17 = .ok (.iload_n 2, 1) := by decide +kernel
theorem dX2_isTooWide_18 : decode cX2_isTooWide 18 = .ok (.ifCond .eq 40, 3) := by decide +kernel
theorem dX2_isTooWide_21 : decode cX2_isTooWide 21 = .ok (.iload_n 3, 1) := by decide +kernel
theorem dX2_isTooWide_22 : decode cX2_isTooWide 22 = .ok (.aload_n 0, 1) := by decide +kernel
theorem dX2_isTooWide_23 : decode cX2_isTooWide 23 = .ok (.getfield 24, 3) := by decide +kernel
theorem dX2_isTooWide_26 : decode cX2_isTooWide 26 = .ok (.arraylength, 1) := by decide +kernel
theorem dX2_isTooWide_27 : decode cX2_isTooWide 27 = .ok (.if_icmp .ge 31, 3) := by decide +kernel
theorem dX2_isTooWide_30 : decode cX2_isTooWide 30 = .ok (.aload_n 0, 1) := by decide +kernel
theorem dX2_isTooWide_31 : decode cX2_isTooWide 31 = .ok (.getfield 24, 3) := by decide +kernel
theorem dX2_isTooWide_34 : decode cX2_isTooWide 34 = .ok (.iload_n 3, 1) := by decide +kernel
theorem dX2_isTooWide_35 : decode cX2_isTooWide 35 = .ok (.baload, 1) := by decide +kernel
theorem dX2_isTooWide_36 : decode cX2_isTooWide 36 = .ok (.bipush 32, 2) := by decide +kernel
theorem dX2_isTooWide_38 : decode cX2_isTooWide 38 = .ok (.if_icmp .ne 14, 3) := by decide +kernel
theorem dX2_isTooWide_41 : decode cX2_isTooWide 41 = .ok (.aload_n 0, 1) := by decide +kernel
theorem dX2_isTooWide_42 : decode cX2_isTooWide 42 = .ok (.iload_n 3, 1) := by decide +kernel
theorem dX2_isTooWide_43 : decode cX2_isTooWide 43 = .ok (.invokevirtual 34, 3) := by decide +kernel
theorem dX2_isTooWide_46 : decode cX2_isTooWide 46 = .ok (.iload_n 1, 1) := by decide +kernel
theorem dX2_isTooWide_47 : decode cX2_isTooWide 47 = .ok (.if_icmp .gt 5, 3) := by decide +kernel
theorem dX2_isTooWide_50 : decode cX2_isTooWide 50 = .ok (.iconst 0, 1) := by decide +kernel
theorem dX2_isTooWide_51 : decode cX2_isTooWide 51 = .ok (.istore_n 2, 1) := by decide +kernel
theorem dX2_isTooWide_52 : decode cX2_isTooWide 52 = .ok (.iinc 3 1, 3) := by decide +kernel
theorem dX2_isTooWide_55 : decode cX2_isTooWide 55 = .ok (.goto (-38), 3) := by decide +kernel
theorem dX2_isTooWide_58 : decode cX2_isTooWide 58 = .ok (.iload_n 2, 1) := by decide +kernel
theorem dX2_isTooWide_59 : decode cX2_isTooWide 59 = .ok (.ireturn, 1) := by decide +kernel
theorem dX2_rankOf_0 : decode cX2_rankOf 0 = .ok (.aload_n 0, 1) := by decide +kernel
theorem dX2_rankOf_1 : decode cX2_rankOf 1 = .ok (.iload_n 1, 1) := by decide +kernel
theorem dX2_rankOf_2 : decode cX2_rankOf 2 = .ok (.iconst 1, 1) := by decide +kernel
theorem dX2_rankOf_3 : decode cX2_rankOf 3 = .ok (.isub, 1) := by decide +kernel
theorem dX2_rankOf_4 : decode cX2_rankOf 4 = .ok (.invokevirtual 41, 3) := by decide +kernel
theorem dX2_rankOf_7 : decode cX2_rankOf 7 = .ok (.istore_n 2, 1) := by decide +kernel
theorem dX2_rankOf_8 : decode cX2_rankOf 8 = .ok (.iload_n 2, 1) := by decide +kernel
theorem dX2_rankOf_9 : decode cX2_rankOf 9 = .ok (.bipush 46, 2) := by decide +kernel
theorem dX2_rankOf_11 : decode cX2_rankOf 11 = .ok (.if_icmp .eq 15, 3) := by decide +kernel
theorem dX2_rankOf_14 : decode cX2_rankOf 14 = .ok (.iload_n 2, 1) := by decide +kernel
theorem dX2_rankOf_15 : decode cX2_rankOf 15 = .ok (.bipush 33, 2) := by decide +kernel
theorem dX2_rankOf_17 : decode cX2_rankOf 17 = .ok (.if_icmp .eq 9, 3) := by decide +kernel
theorem dX2_rankOf_20 : decode cX2_rankOf 20 = .ok (.iload_n 2, 1) := by decide +kernel
theorem dX2_rankOf_21 : decode cX2_rankOf 21 = .ok (.bipush 63, 2) := by decide +kernel
theorem dX2_rankOf_23 : decode cX2_rankOf 23 = .ok (.if_icmp .ne 5, 3) := by decide +kernel
theorem dX2_rankOf_26 : decode cX2_rankOf 26 = .ok (.iconst 0, 1) := by decide +kernel
theorem dX2_rankOf_27 : decode cX2_rankOf 27 = .ok (.ireturn, 1) := by decide +kernel
theorem dX2_rankOf_28 : decode cX2_rankOf 28 = .ok (.iload_n 2, 1) := by decide +kernel
theorem dX2_rankOf_29 : decode cX2_rankOf 29 = .ok (.bipush 44, 2) := by decide +kernel
theorem dX2_rankOf_31 : decode cX2_rankOf 31 = .ok (.if_icmp .eq 9, 3) := by decide +kernel
theorem dX2_rankOf_34 : decode cX2_rankOf 34 = .ok (.iload_n 2, 1) := by decide +kernel
theorem dX2_rankOf_35 : decode cX2_rankOf 35 = .ok (.bipush 58, 2) := by decide +kernel
theorem dX2_rankOf_37 : decode cX2_rankOf 37 = .ok (.if_icmp .ne 5, 3) := by decide +kernel
theorem dX2_rankOf_40 : decode cX2_rankOf 40 = .ok (.iconst 1, 1) := by decide +kernel
theorem dX2_rankOf_41 : decode cX2_rankOf 41 = .ok (.ireturn, 1) := by decide +kernel
theorem dX2_rankOf_42 : decode cX2_rankOf 42 = .ok (.iload_n 1, 1) := by decide +kernel
theorem dX2_rankOf_43 : decode cX2_rankOf 43 = .ok (.iconst 1, 1) := by decide +kernel
theorem dX2_rankOf_44 : decode cX2_rankOf 44 = .ok (.iadd, 1) := by decide +kernel
theorem dX2_rankOf_45 : decode cX2_rankOf 45 = .ok (.istore_n 3, 1) := by decide +kernel
theorem dX2_rankOf_46 : decode cX2_rankOf 46 = .ok (.aload_n 0, 1) := by decide +kernel
theorem dX2_rankOf_47 : decode cX2_rankOf 47 = .ok (.iload_n 3, 1) := by decide +kernel
theorem dX2_rankOf_48 : decode cX2_rankOf 48 = .ok (.ldc 44, 2) := by decide +kernel
theorem dX2_rankOf_50 : decode cX2_rankOf 50 = .ok (.invokevirtual 46, 3) := by decide +kernel
theorem dX2_rankOf_53 : decode cX2_rankOf 53 = .ok (.ifCond .ne 23, 3) := by decide +kernel
theorem dX2_rankOf_56 : decode cX2_rankOf 56 = .ok (.aload_n 0, 1) := by decide +kernel
theorem dX2_rankOf_57 : decode cX2_rankOf 57 = .ok (.iload_n 3, 1) := by decide +kernel
theorem dX2_rankOf_58 : decode cX2_rankOf 58 = .ok (.ldc 50, 2) := by decide +kernel
theorem dX2_rankOf_60 : decode cX2_rankOf 60 = .ok (.invokevirtual 46, 3) := by decide +kernel
theorem dX2_rankOf_63 : decode cX2_rankOf 63 = .ok (.ifCond .ne 13, 3) := by decide +kernel
theorem dX2_rankOf_66 : decode cX2_rankOf 66 = .ok (.aload_n 0, 1) := by decide +kernel
theorem dX2_rankOf_67 : decode cX2_rankOf 67 = .ok (.iload_n 3, 1) := by decide +kernel
theorem dX2_rankOf_68 : decode cX2_rankOf 68 = .ok (.ldc 52, 2) := by decide +kernel
theorem dX2_rankOf_70 : decode cX2_rankOf 70 = .ok (.invokevirtual 46, 3) := by decide +kernel
theorem dX2_rankOf_73 : decode cX2_rankOf 73 = .ok (.ifCond .eq 7, 3) := by decide +kernel
theorem dX2_rankOf_76 : decode cX2_rankOf 76 = .ok (.iconst 2, 1) := by decide +kernel
theorem dX2_rankOf_77 : decode cX2_rankOf 77 = .ok (.goto 4, 3) := by decide +kernel
theorem dX2_rankOf_80 : decode cX2_rankOf 80 = .ok (.iconst 3, 1) := by decide +kernel
theorem dX2_rankOf_81 : decode cX2_rankOf 81 = .ok (.ireturn, 1) := by decide +kernel
theorem dX2_longerLine_0 : decode cX2_longerLine 0 = .ok (.aload_n 0, 1) := by decide +kernel
theorem dX2_longerLine_1 : decode cX2_longerLine 1 = .ok (.getfield 24, 3) := by decide +kernel
theorem dX2_longerLine_4 : decode cX2_longerLine 4 = .ok (.arraylength, 1) := by decide +kernel
theorem dX2_longerLine_5 : decode cX2_longerLine 5 = .ok (.iconst 1, 1) := by decide +kernel
theorem dX2_longerLine_6 : decode cX2_longerLine 6 = .ok (.isub, 1) := by decide +kernel
theorem dX2_longerLine_7 : decode cX2_longerLine 7 = .ok (.iload_n 1, 1) := by decide +kernel
theorem dX2_longerLine_8 : decode cX2_longerLine 8 = .ok (.isub, 1) := by decide +kernel
theorem dX2_longerLine_9 : decode cX2_longerLine 9 = .ok (.istore_n 2, 1) := by decide +kernel
theorem dX2_longerLine_10 : decode cX2_longerLine 10 = .ok (.iload_n 1, 1) := by decide +kernel
theorem dX2_longerLine_11 : decode cX2_longerLine 11 = .ok (.iload_n 2, 1) := by decide +kernel
theorem dX2_longerLine_12 : decode cX2_longerLine 12 = .ok (.if_icmp .le 7, 3) := by decide +kernel
theorem dX2_longerLine_15 : decode cX2_longerLine 15 = .ok (.iload_n 1, 1) := by decide +kernel
theorem dX2_longerLine_16 : decode cX2_longerLine 16 = .ok (.goto 4, 3) := by decide +kernel
theorem dX2_longerLine_19 : decode cX2_longerLine 19 = .ok (.iload_n 2, 1) := by decide +kernel
theorem dX2_longerLine_20 : decode cX2_longerLine 20 = .ok (.ireturn, 1) := by decide +kernel
theorem dX2_isWord_0 : decode cX2_isWord 0 = .ok (.iconst 0, 1) := by decide +kernel
theorem dX2_isWord_1 : decode cX2_isWord 1 = .ok (.istore_n 3, 1) := by decide +kernel
theorem dX2_isWord_2 : decode cX2_isWord 2 = .ok (.iload_n 3, 1) := by decide +kernel
theorem dX2_isWord_3 : decode cX2_isWord 3 = .ok (.aload_n 2, 1) := by decide +kernel
theorem dX2_isWord_4 : decode cX2_isWord 4 = .ok (.invokevirtual 54, 3) := by decide +kernel
theorem dX2_isWord_7 : decode cX2_isWord 7 = .ok (.if_icmp .ge 26, 3) := by decide +kernel
theorem dX2_isWord_10 : decode cX2_isWord 10 = .ok (.aload_n 0, 1) := by decide +kernel
theorem dX2_isWord_11 : decode cX2_isWord 11 = .ok (.iload_n 1, 1) := by decide +kernel
theorem dX2_isWord_12 : decode cX2_isWord 12 = .ok (.iload_n 3, 1) := by decide +kernel
theorem dX2_isWord_13 : decode cX2_isWord 13 = .ok (.iadd, 1) := by decide +kernel
theorem dX2_isWord_14 : decode cX2_isWord 14 = .ok (.invokevirtual 41, 3) := by decide +kernel
theorem dX2_isWord_17 : decode cX2_isWord 17 = .ok (.aload_n 2, 1) := by decide +kernel
theorem dX2_isWord_18 : decode cX2_isWord 18 = .ok (.iload_n 3, 1) := by decide +kernel
theorem dX2_isWord_19 : decode cX2_isWord 19 = .ok (.invokevirtual 60, 3) := by decide +kernel
theorem dX2_isWord_22 : decode cX2_isWord 22 = .ok (.if_icmp .eq 5, 3) := by decide +kernel
theorem dX2_isWord_25 : decode cX2_isWord 25 = .ok (.iconst 0, 1) := by decide +kernel
theorem dX2_isWord_26 : decode cX2_isWord 26 = .ok (.ireturn, 1) := by decide +kernel
theorem dX2_isWord_27 : decode cX2_isWord 27 = .ok (.iinc 3 1, 3) := by decide +kernel
theorem dX2_isWord_30 : decode cX2_isWord 30 = .ok (.goto (-28), 3) := by decide +kernel
theorem dX2_isWord_33 : decode cX2_isWord 33 = .ok (.aload_n 0, 1) := by decide +kernel
theorem dX2_isWord_34 : decode cX2_isWord 34 = .ok (.iload_n 1, 1) := by decide +kernel
theorem dX2_isWord_35 : decode cX2_isWord 35 = .ok (.aload_n 2, 1) := by decide +kernel
theorem dX2_isWord_36 : decode cX2_isWord 36 = .ok (.invokevirtual 54, 3) := by decide +kernel
theorem dX2_isWord_39 : decode cX2_isWord 39 = .ok (.iadd, 1) := by decide +kernel
theorem dX2_isWord_40 : decode cX2_isWord 40 = .ok (.invokevirtual 41, 3) := by decide +kernel
theorem dX2_isWord_43 : decode cX2_isWord 43 = .ok (.istore_n 3, 1) := by decide +kernel
theorem dX2_isWord_44 : decode cX2_isWord 44 = .ok (.iload_n 3, 1) := by decide +kernel
theorem dX2_isWord_45 : decode cX2_isWord 45 = .ok (.bipush 32, 2) := by decide +kernel
theorem dX2_isWord_47 : decode cX2_isWord 47 = .ok (.if_icmp .eq 9, 3) := by decide +kernel
theorem dX2_isWord_50 : decode cX2_isWord 50 = .ok (.iload_n 3, 1) := by decide +kernel
theorem dX2_isWord_51 : decode cX2_isWord 51 = .ok (.bipush (-9), 2) := by decide +kernel
theorem dX2_isWord_53 : decode cX2_isWord 53 = .ok (.if_icmp .ne 7, 3) := by decide +kernel
theorem dX2_isWord_56 : decode cX2_isWord 56 = .ok (.iconst 1, 1) := by decide +kernel
theorem dX2_isWord_57 : decode cX2_isWord 57 = .ok (.goto 4, 3) := by decide +kernel
theorem dX2_isWord_60 : decode cX2_isWord 60 = .ok (.iconst 0, 1) := by decide +kernel
theorem dX2_isWord_61 : decode cX2_isWord 61 = .ok (.ireturn, 1) := by decide +kernel
theorem dX3_init_0 : decode cX3_init 0 = .ok (.aload_n 0, 1) := by decide +kernel
theorem dX3_init_1 : decode cX3_init 1 = .ok (.invokespecial 1, 3) := by decide +kernel
theorem dX3_init_4 : decode cX3_init 4 = .ok (.aload_n 0, 1) := by decide +kernel
theorem dX3_init_5 : decode cX3_init 5 = .ok (.getstatic 7, 3) := by decide +kernel
theorem dX3_init_8 : decode cX3_init 8 = .ok (.arraylength, 1) := by decide +kernel
theorem dX3_init_9 : decode cX3_init 9 = .ok (.newarray .int, 2) := by decide +kernel
theorem dX3_init_11 : decode cX3_init 11 = .ok (.putfield 13, 3) := by decide +kernel
theorem dX3_init_14 : decode cX3_init 14 = .ok (.getstatic 7, 3) := by decide +kernel
theorem dX3_init_17 : decode cX3_init 17 = .ok (.iconst 0, 1) := by decide +kernel
theorem dX3_init_18 : decode cX3_init 18 = .ok (.aload_n 0, 1) := by decide +kernel
theorem dX3_init_19 : decode cX3_init 19 = .ok (.getfield 13, 3) := by decide +kernel
theorem dX3_init_22 : decode cX3_init 22 = .ok (.iconst 0, 1) := by decide +kernel
theorem dX3_init_23 : decode cX3_init 23 = .ok (.aload_n 0, 1) := by decide +kernel
theorem dX3_init_24 : decode cX3_init 24 = .ok (.getfield 13, 3) := by decide +kernel
theorem dX3_init_27 : decode cX3_init 27 = .ok (.arraylength, 1) := by decide +kernel
theorem dX3_init_28 : decode cX3_init 28 = .ok (.invokestatic 18, 3) := by decide +kernel
theorem dX3_init_31 : decode cX3_init 31 = .ok (.return_, 1) := by decide +kernel
theorem dX3_become_0 : decode cX3_become 0 = .ok (.aload_n 1, 1) := by decide +kernel
theorem dX3_become_1 : decode cX3_become 1 = .ok (.getfield 13, 3) := by decide +kernel
theorem dX3_become_4 : decode cX3_become 4 = .ok (.iconst 0, 1) := by decide +kernel
theorem dX3_become_5 : decode cX3_become 5 = .ok (.aload_n 0, 1) := by decide +kernel
theorem dX3_become_6 : decode cX3_become 6 = .ok (.getfield 13, 3) := by decide +kernel
theorem dX3_become_9 : decode cX3_become 9 = .ok (.iconst 0, 1) := by decide +kernel
theorem dX3_become_10 : decode cX3_become 10 = .ok (.aload_n 0, 1) := by decide +kernel
theorem dX3_become_11 : decode cX3_become 11 = .ok (.getfield 13, 3) := by decide +kernel
theorem dX3_become_14 : decode cX3_become 14 = .ok (.arraylength, 1) := by decide +kernel
theorem dX3_become_15 : decode cX3_become 15 = .ok (.invokestatic 18, 3) := by decide +kernel
theorem dX3_become_18 : decode cX3_become 18 = .ok (.return_, 1) := by decide +kernel
theorem dX3_at_0 : decode cX3_at 0 = .ok (.iload_n 1, 1) := by decide +kernel
theorem dX3_at_1 : decode cX3_at 1 = .ok (.ifCond .lt 21, 3) := by decide +kernel
theorem dX3_at_4 : decode cX3_at 4 = .ok (.iload_n 1, 1) := by decide +kernel
theorem dX3_at_5 : decode cX3_at 5 = .ok (.aload_n 0, 1) := by decide +kernel
theorem dX3_at_6 : decode cX3_at 6 = .ok (.getfield 13, 3) := by decide +kernel
theorem dX3_at_9 : decode cX3_at 9 = .ok (.arraylength, 1) := by decide +kernel
theorem dX3_at_10 : decode cX3_at 10 = .ok (.if_icmp .ge 12, 3) := by decide +kernel
theorem dX3_at_13 : decode cX3_at 13 = .ok (.aload_n 0, 1) := by decide +kernel
theorem dX3_at_14 : decode cX3_at 14 = .ok (.getfield 13, 3) := by decide +kernel
theorem dX3_at_17 : decode cX3_at 17 = .ok (.iload_n 1, 1) := by decide +kernel
theorem dX3_at_18 : decode cX3_at 18 = .ok (.iaload, 1) := by decide +kernel
theorem dX3_at_19 : decode cX3_at 19 = .ok (.goto 4, 3) := by decide +kernel
theorem dX3_at_22 : decode cX3_at 22 = .ok (.iconst 0, 1) := by decide +kernel
theorem dX3_at_23 : decode cX3_at 23 = .ok (.ireturn, 1) := by decide +kernel
theorem dX3_takes_0 : decode cX3_takes 0 = .ok (.iload_n 1, 1) := by decide +kernel
theorem dX3_takes_1 : decode cX3_takes 1 = .ok (.ifCond .lt 19, 3) := by decide +kernel
theorem dX3_takes_4 : decode cX3_takes 4 = .ok (.iload_n 1, 1) := by decide +kernel
theorem dX3_takes_5 : decode cX3_takes 5 = .ok (.getstatic 24, 3) := by decide +kernel
theorem dX3_takes_8 : decode cX3_takes 8 = .ok (.arraylength, 1) := by decide +kernel
theorem dX3_takes_9 : decode cX3_takes 9 = .ok (.if_icmp .ge 11, 3) := by decide +kernel
theorem dX3_takes_12 : decode cX3_takes 12 = .ok (.iload_n 1, 1) := by decide +kernel
theorem dX3_takes_13 : decode cX3_takes 13 = .ok (.getstatic 27, 3) := by decide +kernel
theorem dX3_takes_16 : decode cX3_takes 16 = .ok (.arraylength, 1) := by decide +kernel
theorem dX3_takes_17 : decode cX3_takes 17 = .ok (.if_icmp .lt 5, 3) := by decide +kernel
theorem dX3_takes_20 : decode cX3_takes 20 = .ok (.iconst 0, 1) := by decide +kernel
theorem dX3_takes_21 : decode cX3_takes 21 = .ok (.ireturn, 1) := by decide +kernel
theorem dX3_takes_22 : decode cX3_takes 22 = .ok (.iload_n 2, 1) := by decide +kernel
theorem dX3_takes_23 : decode cX3_takes 23 = .ok (.getstatic 24, 3) := by decide +kernel
theorem dX3_takes_26 : decode cX3_takes 26 = .ok (.iload_n 1, 1) := by decide +kernel
theorem dX3_takes_27 : decode cX3_takes 27 = .ok (.iaload, 1) := by decide +kernel
theorem dX3_takes_28 : decode cX3_takes 28 = .ok (.if_icmp .lt 16, 3) := by decide +kernel
theorem dX3_takes_31 : decode cX3_takes 31 = .ok (.iload_n 2, 1) := by decide +kernel
theorem dX3_takes_32 : decode cX3_takes 32 = .ok (.getstatic 27, 3) := by decide +kernel
theorem dX3_takes_35 : decode cX3_takes 35 = .ok (.iload_n 1, 1) := by decide +kernel
theorem dX3_takes_36 : decode cX3_takes 36 = .ok (.iaload, 1) := by decide +kernel
theorem dX3_takes_37 : decode cX3_takes 37 = .ok (.if_icmp .gt 7, 3) := by decide +kernel
theorem dX3_takes_40 : decode cX3_takes 40 = .ok (.iconst 1, 1) := by decide +kernel
theorem dX3_takes_41 : decode cX3_takes 41 = .ok (.goto 4, 3) := by decide +kernel
theorem dX3_takes_44 : decode cX3_takes 44 = .ok (.iconst 0, 1) := by decide +kernel
theorem dX3_takes_45 : decode cX3_takes 45 = .ok (.ireturn, 1) := by decide +kernel
theorem dX3_put_0 : decode cX3_put 0 = .ok (.iload_n 1, 1) := by decide +kernel
theorem dX3_put_1 : decode cX3_put 1 = .ok (.ifCond .lt 19, 3) := by decide +kernel
theorem dX3_put_4 : decode cX3_put 4 = .ok (.iload_n 1, 1) := by decide +kernel
theorem dX3_put_5 : decode cX3_put 5 = .ok (.aload_n 0, 1) := by decide +kernel
theorem dX3_put_6 : decode cX3_put 6 = .ok (.getfield 13, 3) := by decide +kernel
theorem dX3_put_9 : decode cX3_put 9 = .ok (.arraylength, 1) := by decide +kernel
theorem dX3_put_10 : decode cX3_put 10 = .ok (.if_icmp .ge 10, 3) := by decide +kernel
theorem dX3_put_13 : decode cX3_put 13 = .ok (.aload_n 0, 1) := by decide +kernel
theorem dX3_put_14 : decode cX3_put 14 = .ok (.getfield 13, 3) := by decide +kernel
theorem dX3_put_17 : decode cX3_put 17 = .ok (.iload_n 1, 1) := by decide +kernel
theorem dX3_put_18 : decode cX3_put 18 = .ok (.iload_n 2, 1) := by decide +kernel
theorem dX3_put_19 : decode cX3_put 19 = .ok (.iastore, 1) := by decide +kernel
theorem dX3_put_20 : decode cX3_put 20 = .ok (.return_, 1) := by decide +kernel
theorem dX4_init_0 : decode cX4_init 0 = .ok (.aload_n 0, 1) := by decide +kernel
theorem dX4_init_1 : decode cX4_init 1 = .ok (.invokespecial 3, 3) := by decide +kernel
theorem dX4_init_4 : decode cX4_init 4 = .ok (.aload_n 0, 1) := by decide +kernel
theorem dX4_init_5 : decode cX4_init 5 = .ok (.bipush 20, 2) := by decide +kernel
theorem dX4_init_7 : decode cX4_init 7 = .ok (.newarray .int, 2) := by decide +kernel
theorem dX4_init_9 : decode cX4_init 9 = .ok (.putfield 9, 3) := by decide +kernel
theorem dX4_init_12 : decode cX4_init 12 = .ok (.return_, 1) := by decide +kernel
theorem dX4_become_0 : decode cX4_become 0 = .ok (.aload_n 0, 1) := by decide +kernel
theorem dX4_become_1 : decode cX4_become 1 = .ok (.aload_n 1, 1) := by decide +kernel
theorem dX4_become_2 : decode cX4_become 2 = .ok (.getfield 15, 3) := by decide +kernel
theorem dX4_become_5 : decode cX4_become 5 = .ok (.putfield 15, 3) := by decide +kernel
theorem dX4_become_8 : decode cX4_become 8 = .ok (.aload_n 1, 1) := by decide +kernel
theorem dX4_become_9 : decode cX4_become 9 = .ok (.getfield 9, 3) := by decide +kernel
theorem dX4_become_12 : decode cX4_become 12 = .ok (.iconst 0, 1) := by decide +kernel
theorem dX4_become_13 : decode cX4_become 13 = .ok (.aload_n 0, 1) := by decide +kernel
theorem dX4_become_14 : decode cX4_become 14 = .ok (.getfield 9, 3) := by decide +kernel
theorem dX4_become_17 : decode cX4_become 17 = .ok (.iconst 0, 1) := by decide +kernel
theorem dX4_become_18 : decode cX4_become 18 = .ok (.bipush 20, 2) := by decide +kernel
theorem dX4_become_20 : decode cX4_become 20 = .ok (.invokestatic 19, 3) := by decide +kernel
theorem dX4_become_23 : decode cX4_become 23 = .ok (.return_, 1) := by decide +kernel
theorem dX4_size_0 : decode cX4_size 0 = .ok (.aload_n 0, 1) := by decide +kernel
theorem dX4_size_1 : decode cX4_size 1 = .ok (.getfield 15, 3) := by decide +kernel
theorem dX4_size_4 : decode cX4_size 4 = .ok (.ireturn, 1) := by decide +kernel
theorem dX4_at_0 : decode cX4_at 0 = .ok (.iload_n 1, 1) := by decide +kernel
theorem dX4_at_1 : decode cX4_at 1 = .ok (.ifCond .lt 20, 3) := by decide +kernel
theorem dX4_at_4 : decode cX4_at 4 = .ok (.iload_n 1, 1) := by decide +kernel
theorem dX4_at_5 : decode cX4_at 5 = .ok (.aload_n 0, 1) := by decide +kernel
theorem dX4_at_6 : decode cX4_at 6 = .ok (.getfield 15, 3) := by decide +kernel
theorem dX4_at_9 : decode cX4_at 9 = .ok (.if_icmp .ge 12, 3) := by decide +kernel
theorem dX4_at_12 : decode cX4_at 12 = .ok (.aload_n 0, 1) := by decide +kernel
theorem dX4_at_13 : decode cX4_at 13 = .ok (.getfield 9, 3) := by decide +kernel
theorem dX4_at_16 : decode cX4_at 16 = .ok (.iload_n 1, 1) := by decide +kernel
theorem dX4_at_17 : decode cX4_at 17 = .ok (.iaload, 1) := by decide +kernel
theorem dX4_at_18 : decode cX4_at 18 = .ok (.goto 5, 3) := by decide +kernel
theorem dX4_at_21 : decode cX4_at 21 = .ok (.bipush (-9), 2) := by decide +kernel
theorem dX4_at_23 : decode cX4_at 23 = .ok (.ireturn, 1) := by decide +kernel
theorem dX4_has_0 : decode cX4_has 0 = .ok (.aload_n 0, 1) := by decide +kernel
theorem dX4_has_1 : decode cX4_has 1 = .ok (.iload_n 1, 1) := by decide +kernel
theorem dX4_has_2 : decode cX4_has 2 = .ok (.iconst 0, 1) := by decide +kernel
theorem dX4_has_3 : decode cX4_has 3 = .ok (.invokevirtual 25, 3) := by decide +kernel
theorem dX4_has_6 : decode cX4_has 6 = .ok (.bipush (-9), 2) := by decide +kernel
theorem dX4_has_8 : decode cX4_has 8 = .ok (.if_icmp .eq 7, 3) := by decide +kernel
theorem dX4_has_11 : decode cX4_has 11 = .ok (.iconst 1, 1) := by decide +kernel
theorem dX4_has_12 : decode cX4_has 12 = .ok (.goto 4, 3) := by decide +kernel
theorem dX4_has_15 : decode cX4_has 15 = .ok (.iconst 0, 1) := by decide +kernel
theorem dX4_has_16 : decode cX4_has 16 = .ok (.ireturn, 1) := by decide +kernel
theorem dX4_nearest_0 : decode cX4_nearest 0 = .ok (.bipush (-9), 2) := by decide +kernel
theorem dX4_nearest_2 : decode cX4_nearest 2 = .ok (.istore_n 3, 1) := by decide +kernel
theorem dX4_nearest_3 : decode cX4_nearest 3 = .ok (.iload_n 2, 1) := by decide +kernel
theorem dX4_nearest_4 : decode cX4_nearest 4 = .ok (.iconst 1, 1) := by decide +kernel
theorem dX4_nearest_5 : decode cX4_nearest 5 = .ok (.iadd, 1) := by decide +kernel
theorem dX4_nearest_6 : decode cX4_nearest 6 = .ok (.istore 4, 2) := by decide +kernel
theorem dX4_nearest_8 : decode cX4_nearest 8 = .ok (.iconst 0, 1) := by decide +kernel
theorem dX4_nearest_9 : decode cX4_nearest 9 = .ok (.istore 5, 2) := by decide +kernel
theorem dX4_nearest_11 : decode cX4_nearest 11 = .ok (.iload 5, 2) := by decide +kernel
theorem dX4_nearest_13 : decode cX4_nearest 13 = .ok (.aload_n 0, 1) := by decide +kernel
theorem dX4_nearest_14 : decode cX4_nearest 14 = .ok (.getfield 15, 3) := by decide +kernel
theorem dX4_nearest_17 : decode cX4_nearest 17 = .ok (.if_icmp .ge 42, 3) := by decide +kernel
theorem dX4_nearest_20 : decode cX4_nearest 20 = .ok (.aload_n 0, 1) := by decide +kernel
theorem dX4_nearest_21 : decode cX4_nearest 21 = .ok (.getfield 9, 3) := by decide +kernel
theorem dX4_nearest_24 : decode cX4_nearest 24 = .ok (.iload 5, 2) := by decide +kernel
theorem dX4_nearest_26 : decode cX4_nearest 26 = .ok (.iaload, 1) := by decide +kernel
theorem dX4_nearest_27 : decode cX4_nearest 27 = .ok (.iload_n 1, 1) := by decide +kernel
theorem dX4_nearest_28 : decode cX4_nearest 28 = .ok (.isub, 1) := by decide +kernel
theorem dX4_nearest_29 : decode cX4_nearest 29 = .ok (.invokestatic 29, 3) := by decide +kernel
theorem dX4_nearest_32 : decode cX4_nearest 32 = .ok (.istore 6, 2) := by decide +kernel
theorem dX4_nearest_34 : decode cX4_nearest 34 = .ok (.iload 6, 2) := by decide +kernel
theorem dX4_nearest_36 : decode cX4_nearest 36 = .ok (.iload 4, 2) := by decide +kernel
theorem dX4_nearest_38 : decode cX4_nearest 38 = .ok (.if_icmp .ge 15, 3) := by decide +kernel
theorem dX4_nearest_41 : decode cX4_nearest 41 = .ok (.aload_n 0, 1) := by decide +kernel
theorem dX4_nearest_42 : decode cX4_nearest 42 = .ok (.getfield 9, 3) := by decide +kernel
theorem dX4_nearest_45 : decode cX4_nearest 45 = .ok (.iload 5, 2) := by decide +kernel
theorem dX4_nearest_47 : decode cX4_nearest 47 = .ok (.iaload, 1) := by decide +kernel
theorem dX4_nearest_48 : decode cX4_nearest 48 = .ok (.istore_n 3, 1) := by decide +kernel
theorem dX4_nearest_49 : decode cX4_nearest 49 = .ok (.iload 6, 2) := by decide +kernel
theorem dX4_nearest_51 : decode cX4_nearest 51 = .ok (.istore 4, 2) := by decide +kernel
theorem dX4_nearest_53 : decode cX4_nearest 53 = .ok (.iinc 5 1, 3) := by decide +kernel
theorem dX4_nearest_56 : decode cX4_nearest 56 = .ok (.goto (-45), 3) := by decide +kernel
theorem dX4_nearest_59 : decode cX4_nearest 59 = .ok (.iload_n 3, 1) := by decide +kernel
theorem dX4_nearest_60 : decode cX4_nearest 60 = .ok (.ireturn, 1) := by decide +kernel
theorem dX4_isMissed_0 : decode cX4_isMissed 0 = .ok (.aload_n 0, 1) := by decide +kernel
theorem dX4_isMissed_1 : decode cX4_isMissed 1 = .ok (.iload_n 1, 1) := by decide +kernel
theorem dX4_isMissed_2 : decode cX4_isMissed 2 = .ok (.iload_n 2, 1) := by decide +kernel
theorem dX4_isMissed_3 : decode cX4_isMissed 3 = .ok (.invokevirtual 25, 3) := by decide +kernel
theorem dX4_isMissed_6 : decode cX4_isMissed 6 = .ok (.istore_n 3, 1) := by decide +kernel
theorem dX4_isMissed_7 : decode cX4_isMissed 7 = .ok (.iload_n 3, 1) := by decide +kernel
theorem dX4_isMissed_8 : decode cX4_isMissed 8 = .ok (.bipush (-9), 2) := by decide +kernel
theorem dX4_isMissed_10 : decode cX4_isMissed 10 = .ok (.if_icmp .eq 12, 3) := by decide +kernel
theorem dX4_isMissed_13 : decode cX4_isMissed 13 = .ok (.iload_n 3, 1) := by decide +kernel
theorem dX4_isMissed_14 : decode cX4_isMissed 14 = .ok (.iload_n 1, 1) := by decide +kernel
theorem dX4_isMissed_15 : decode cX4_isMissed 15 = .ok (.if_icmp .eq 7, 3) := by decide +kernel
theorem dX4_isMissed_18 : decode cX4_isMissed 18 = .ok (.iconst 1, 1) := by decide +kernel
theorem dX4_isMissed_19 : decode cX4_isMissed 19 = .ok (.goto 4, 3) := by decide +kernel
theorem dX4_isMissed_22 : decode cX4_isMissed 22 = .ok (.iconst 0, 1) := by decide +kernel
theorem dX4_isMissed_23 : decode cX4_isMissed 23 = .ok (.ireturn, 1) := by decide +kernel
theorem dX4_insert_0 : decode cX4_insert 0 = .ok (.aload_n 0, 1) := by decide +kernel
theorem dX4_insert_1 : decode cX4_insert 1 = .ok (.getfield 15, 3) := by decide +kernel
theorem dX4_insert_4 : decode cX4_insert 4 = .ok (.bipush 20, 2) := by decide +kernel
theorem dX4_insert_6 : decode cX4_insert 6 = .ok (.if_icmp .ge 11, 3) := by decide +kernel
theorem dX4_insert_9 : decode cX4_insert 9 = .ok (.aload_n 0, 1) := by decide +kernel
theorem dX4_insert_10 : decode cX4_insert 10 = .ok (.iload_n 1, 1) := by decide +kernel
theorem dX4_insert_11 : decode cX4_insert 11 = .ok (.invokevirtual 35, 3) := by decide +kernel
theorem dX4_insert_14 : decode cX4_insert 14 = .ok (.ifCond .eq 4, 3) := by decide +kernel
theorem dX4_insert_17 : decode cX4_insert 17 = .ok (.return_, 1) := by decide +kernel
theorem dX4_insert_18 : decode cX4_insert 18 = .ok (.aload_n 0, 1) := by decide +kernel
theorem dX4_insert_19 : decode cX4_insert 19 = .ok (.getfield 15, 3) := by decide +kernel
theorem dX4_insert_22 : decode cX4_insert 22 = .ok (.istore_n 2, 1) := by decide +kernel
theorem dX4_insert_23 : decode cX4_insert 23 = .ok (.iload_n 2, 1) := by decide +kernel
theorem dX4_insert_24 : decode cX4_insert 24 = .ok (.ifCond .le 35, 3) := by decide +kernel
theorem dX4_insert_27 : decode cX4_insert 27 = .ok (.aload_n 0, 1) := by decide +kernel
theorem dX4_insert_28 : decode cX4_insert 28 = .ok (.getfield 9, 3) := by decide +kernel
theorem dX4_insert_31 : decode cX4_insert 31 = .ok (.iload_n 2, 1) := by decide +kernel
theorem dX4_insert_32 : decode cX4_insert 32 = .ok (.iconst 1, 1) := by decide +kernel
theorem dX4_insert_33 : decode cX4_insert 33 = .ok (.isub, 1) := by decide +kernel
theorem dX4_insert_34 : decode cX4_insert 34 = .ok (.iaload, 1) := by decide +kernel
theorem dX4_insert_35 : decode cX4_insert 35 = .ok (.iload_n 1, 1) := by decide +kernel
theorem dX4_insert_36 : decode cX4_insert 36 = .ok (.if_icmp .le 23, 3) := by decide +kernel
theorem dX4_insert_39 : decode cX4_insert 39 = .ok (.aload_n 0, 1) := by decide +kernel
theorem dX4_insert_40 : decode cX4_insert 40 = .ok (.getfield 9, 3) := by decide +kernel
theorem dX4_insert_43 : decode cX4_insert 43 = .ok (.iload_n 2, 1) := by decide +kernel
theorem dX4_insert_44 : decode cX4_insert 44 = .ok (.aload_n 0, 1) := by decide +kernel
theorem dX4_insert_45 : decode cX4_insert 45 = .ok (.getfield 9, 3) := by decide +kernel
theorem dX4_insert_48 : decode cX4_insert 48 = .ok (.iload_n 2, 1) := by decide +kernel
theorem dX4_insert_49 : decode cX4_insert 49 = .ok (.iconst 1, 1) := by decide +kernel
theorem dX4_insert_50 : decode cX4_insert 50 = .ok (.isub, 1) := by decide +kernel
theorem dX4_insert_51 : decode cX4_insert 51 = .ok (.iaload, 1) := by decide +kernel
theorem dX4_insert_52 : decode cX4_insert 52 = .ok (.iastore, 1) := by decide +kernel
theorem dX4_insert_53 : decode cX4_insert 53 = .ok (.iinc 2 (-1), 3) := by decide +kernel
theorem dX4_insert_56 : decode cX4_insert 56 = .ok (.goto (-33), 3) := by decide +kernel
theorem dX4_insert_59 : decode cX4_insert 59 = .ok (.aload_n 0, 1) := by decide +kernel
theorem dX4_insert_60 : decode cX4_insert 60 = .ok (.getfield 9, 3) := by decide +kernel
theorem dX4_insert_63 : decode cX4_insert 63 = .ok (.iload_n 2, 1) := by decide +kernel
theorem dX4_insert_64 : decode cX4_insert 64 = .ok (.iload_n 1, 1) := by decide +kernel
theorem dX4_insert_65 : decode cX4_insert 65 = .ok (.iastore, 1) := by decide +kernel
theorem dX4_insert_66 : decode cX4_insert 66 = .ok (.aload_n 0, 1) := by decide +kernel
theorem dX4_insert_67 : decode cX4_insert 67 = .ok (.dup, 1) := by decide +kernel
theorem dX4_insert_68 : decode cX4_insert 68 = .ok (.getfield 15, 3) := by decide +kernel
theorem dX4_insert_71 : decode cX4_insert 71 = .ok (.iconst 1, 1) := by decide +kernel
theorem dX4_insert_72 : decode cX4_insert 72 = .ok (.iadd, 1) := by decide +kernel
theorem dX4_insert_73 : decode cX4_insert 73 = .ok (.putfield 15, 3) := by decide +kernel
theorem dX4_insert_76 : decode cX4_insert 76 = .ok (.return_, 1) := by decide +kernel
theorem dX4_remove_0 : decode cX4_remove 0 = .ok (.iconst 0, 1) := by decide +kernel
theorem dX4_remove_1 : decode cX4_remove 1 = .ok (.istore_n 2, 1) := by decide +kernel
theorem dX4_remove_2 : decode cX4_remove 2 = .ok (.iconst 0, 1) := by decide +kernel
theorem dX4_remove_3 : decode cX4_remove 3 = .ok (.istore_n 3, 1) := by decide +kernel
theorem dX4_remove_4 : decode cX4_remove 4 = .ok (.iload_n 3, 1) := by decide +kernel
theorem dX4_remove_5 : decode cX4_remove 5 = .ok (.aload_n 0, 1) := by decide +kernel
theorem dX4_remove_6 : decode cX4_remove 6 = .ok (.getfield 15, 3) := by decide +kernel
theorem dX4_remove_9 : decode cX4_remove 9 = .ok (.if_icmp .ge 34, 3) := by decide +kernel
theorem dX4_remove_12 : decode cX4_remove 12 = .ok (.aload_n 0, 1) := by decide +kernel
theorem dX4_remove_13 : decode cX4_remove 13 = .ok (.getfield 9, 3) := by decide +kernel
theorem dX4_remove_16 : decode cX4_remove 16 = .ok (.iload_n 2, 1) := by decide +kernel
theorem dX4_remove_17 : decode cX4_remove 17 = .ok (.aload_n 0, 1) := by decide +kernel
theorem dX4_remove_18 : decode cX4_remove 18 = .ok (.getfield 9, 3) := by decide +kernel
theorem dX4_remove_21 : decode cX4_remove 21 = .ok (.iload_n 3, 1) := by decide +kernel
theorem dX4_remove_22 : decode cX4_remove 22 = .ok (.iaload, 1) := by decide +kernel
theorem dX4_remove_23 : decode cX4_remove 23 = .ok (.iastore, 1) := by decide +kernel
theorem dX4_remove_24 : decode cX4_remove 24 = .ok (.aload_n 0, 1) := by decide +kernel
theorem dX4_remove_25 : decode cX4_remove 25 = .ok (.getfield 9, 3) := by decide +kernel
theorem dX4_remove_28 : decode cX4_remove 28 = .ok (.iload_n 3, 1) := by decide +kernel
theorem dX4_remove_29 : decode cX4_remove 29 = .ok (.iaload, 1) := by decide +kernel
theorem dX4_remove_30 : decode cX4_remove 30 = .ok (.iload_n 1, 1) := by decide +kernel
theorem dX4_remove_31 : decode cX4_remove 31 = .ok (.if_icmp .eq 6, 3) := by decide +kernel
theorem dX4_remove_34 : decode cX4_remove 34 = .ok (.iinc 2 1, 3) := by decide +kernel
theorem dX4_remove_37 : decode cX4_remove 37 = .ok (.iinc 3 1, 3) := by decide +kernel
theorem dX4_remove_40 : decode cX4_remove 40 = .ok (.goto (-36), 3) := by decide +kernel
theorem dX4_remove_43 : decode cX4_remove 43 = .ok (.aload_n 0, 1) := by decide +kernel
theorem dX4_remove_44 : decode cX4_remove 44 = .ok (.iload_n 2, 1) := by decide +kernel
theorem dX4_remove_45 : decode cX4_remove 45 = .ok (.putfield 15, 3) := by decide +kernel
theorem dX4_remove_48 : decode cX4_remove 48 = .ok (.return_, 1) := by decide +kernel
theorem dX5_init_0 : decode cX5_init 0 = .ok (.aload_n 0, 1) := by decide +kernel
theorem dX5_init_1 : decode cX5_init 1 = .ok (.invokespecial 3, 3) := by decide +kernel
theorem dX5_init_4 : decode cX5_init 4 = .ok (.aload_n 0, 1) := by decide +kernel
theorem dX5_init_5 : decode cX5_init 5 = .ok (.new 9, 3) := by decide +kernel
theorem dX5_init_8 : decode cX5_init 8 = .ok (.dup, 1) := by decide +kernel
theorem dX5_init_9 : decode cX5_init 9 = .ok (.invokespecial 11, 3) := by decide +kernel
theorem dX5_init_12 : decode cX5_init 12 = .ok (.putfield 12, 3) := by decide +kernel
theorem dX5_init_15 : decode cX5_init 15 = .ok (.aload_n 0, 1) := by decide +kernel
theorem dX5_init_16 : decode cX5_init 16 = .ok (.new 18, 3) := by decide +kernel
theorem dX5_init_19 : decode cX5_init 19 = .ok (.dup, 1) := by decide +kernel
theorem dX5_init_20 : decode cX5_init 20 = .ok (.invokespecial 20, 3) := by decide +kernel
theorem dX5_init_23 : decode cX5_init 23 = .ok (.putfield 21, 3) := by decide +kernel
theorem dX5_init_26 : decode cX5_init 26 = .ok (.aload_n 0, 1) := by decide +kernel
theorem dX5_init_27 : decode cX5_init 27 = .ok (.new 25, 3) := by decide +kernel
theorem dX5_init_30 : decode cX5_init 30 = .ok (.dup, 1) := by decide +kernel
theorem dX5_init_31 : decode cX5_init 31 = .ok (.invokespecial 27, 3) := by decide +kernel
theorem dX5_init_34 : decode cX5_init 34 = .ok (.putfield 28, 3) := by decide +kernel
theorem dX5_init_37 : decode cX5_init 37 = .ok (.aload_n 0, 1) := by decide +kernel
theorem dX5_init_38 : decode cX5_init 38 = .ok (.new 32, 3) := by decide +kernel
theorem dX5_init_41 : decode cX5_init 41 = .ok (.dup, 1) := by decide +kernel
theorem dX5_init_42 : decode cX5_init 42 = .ok (.aload_n 1, 1) := by decide +kernel
theorem dX5_init_43 : decode cX5_init 43 = .ok (.invokespecial 34, 3) := by decide +kernel
theorem dX5_init_46 : decode cX5_init 46 = .ok (.putfield 37, 3) := by decide +kernel
theorem dX5_init_49 : decode cX5_init 49 = .ok (.return_, 1) := by decide +kernel
theorem dX5_become_0 : decode cX5_become 0 = .ok (.aload_n 0, 1) := by decide +kernel
theorem dX5_become_1 : decode cX5_become 1 = .ok (.getfield 12, 3) := by decide +kernel
theorem dX5_become_4 : decode cX5_become 4 = .ok (.aload_n 1, 1) := by decide +kernel
theorem dX5_become_5 : decode cX5_become 5 = .ok (.getfield 12, 3) := by decide +kernel
theorem dX5_become_8 : decode cX5_become 8 = .ok (.invokevirtual 41, 3) := by decide +kernel
theorem dX5_become_11 : decode cX5_become 11 = .ok (.aload_n 0, 1) := by decide +kernel
theorem dX5_become_12 : decode cX5_become 12 = .ok (.getfield 21, 3) := by decide +kernel
theorem dX5_become_15 : decode cX5_become 15 = .ok (.aload_n 1, 1) := by decide +kernel
theorem dX5_become_16 : decode cX5_become 16 = .ok (.getfield 21, 3) := by decide +kernel
theorem dX5_become_19 : decode cX5_become 19 = .ok (.invokevirtual 45, 3) := by decide +kernel
theorem dX5_become_22 : decode cX5_become 22 = .ok (.aload_n 0, 1) := by decide +kernel
theorem dX5_become_23 : decode cX5_become 23 = .ok (.getfield 28, 3) := by decide +kernel
theorem dX5_become_26 : decode cX5_become 26 = .ok (.aload_n 1, 1) := by decide +kernel
theorem dX5_become_27 : decode cX5_become 27 = .ok (.getfield 28, 3) := by decide +kernel
theorem dX5_become_30 : decode cX5_become 30 = .ok (.invokevirtual 48, 3) := by decide +kernel
theorem dX5_become_33 : decode cX5_become 33 = .ok (.aload_n 0, 1) := by decide +kernel
theorem dX5_become_34 : decode cX5_become 34 = .ok (.getfield 37, 3) := by decide +kernel
theorem dX5_become_37 : decode cX5_become 37 = .ok (.aload_n 1, 1) := by decide +kernel
theorem dX5_become_38 : decode cX5_become 38 = .ok (.getfield 37, 3) := by decide +kernel
theorem dX5_become_41 : decode cX5_become 41 = .ok (.invokevirtual 51, 3) := by decide +kernel
theorem dX5_become_44 : decode cX5_become 44 = .ok (.return_, 1) := by decide +kernel
theorem dX5_readingLength_0 : decode cX5_readingLength 0 = .ok (.aload_n 0, 1) := by decide +kernel
theorem dX5_readingLength_1 : decode cX5_readingLength 1 = .ok (.getfield 28, 3) := by decide +kernel
theorem dX5_readingLength_4 : decode cX5_readingLength 4 = .ok (.iconst 0, 1) := by decide +kernel
theorem dX5_readingLength_5 : decode cX5_readingLength 5 = .ok (.invokevirtual 54, 3) := by decide +kernel
theorem dX5_readingLength_8 : decode cX5_readingLength 8 = .ok (.aload_n 1, 1) := by decide +kernel
theorem dX5_readingLength_9 : decode cX5_readingLength 9 = .ok (.invokevirtual 58, 3) := by decide +kernel
theorem dX5_readingLength_12 : decode cX5_readingLength 12 = .ok (.imul, 1) := by decide +kernel
theorem dX5_readingLength_13 : decode cX5_readingLength 13 = .ok (.istore_n 2, 1) := by decide +kernel
theorem dX5_readingLength_14 : decode cX5_readingLength 14 = .ok (.aload_n 0, 1) := by decide +kernel
theorem dX5_readingLength_15 : decode cX5_readingLength 15 = .ok (.getfield 28, 3) := by decide +kernel
theorem dX5_readingLength_18 : decode cX5_readingLength 18 = .ok (.iconst 1, 1) := by decide +kernel
theorem dX5_readingLength_19 : decode cX5_readingLength 19 = .ok (.invokevirtual 54, 3) := by decide +kernel
theorem dX5_readingLength_22 : decode cX5_readingLength 22 = .ok (.iload_n 2, 1) := by decide +kernel
theorem dX5_readingLength_23 : decode cX5_readingLength 23 = .ok (.invokestatic 64, 3) := by decide +kernel
theorem dX5_readingLength_26 : decode cX5_readingLength 26 = .ok (.ireturn, 1) := by decide +kernel
theorem dX5_latestEnd_0 : decode cX5_latestEnd 0 = .ok (.aload_n 0, 1) := by decide +kernel
theorem dX5_latestEnd_1 : decode cX5_latestEnd 1 = .ok (.getfield 37, 3) := by decide +kernel
theorem dX5_latestEnd_4 : decode cX5_latestEnd 4 = .ok (.iload_n 1, 1) := by decide +kernel
theorem dX5_latestEnd_5 : decode cX5_latestEnd 5 = .ok (.invokevirtual 70, 3) := by decide +kernel
theorem dX5_latestEnd_8 : decode cX5_latestEnd 8 = .ok (.istore_n 2, 1) := by decide +kernel
theorem dX5_latestEnd_9 : decode cX5_latestEnd 9 = .ok (.iload_n 2, 1) := by decide +kernel
theorem dX5_latestEnd_10 : decode cX5_latestEnd 10 = .ok (.bipush (-9), 2) := by decide +kernel
theorem dX5_latestEnd_12 : decode cX5_latestEnd 12 = .ok (.if_icmp .ne 9, 3) := by decide +kernel
theorem dX5_latestEnd_15 : decode cX5_latestEnd 15 = .ok (.sipush 9999, 3) := by decide +kernel
theorem dX5_latestEnd_18 : decode cX5_latestEnd 18 = .ok (.goto 23, 3) := by decide +kernel
theorem dX5_latestEnd_21 : decode cX5_latestEnd 21 = .ok (.aload_n 0, 1) := by decide +kernel
theorem dX5_latestEnd_22 : decode cX5_latestEnd 22 = .ok (.getfield 37, 3) := by decide +kernel
theorem dX5_latestEnd_25 : decode cX5_latestEnd 25 = .ok (.iload_n 2, 1) := by decide +kernel
theorem dX5_latestEnd_26 : decode cX5_latestEnd 26 = .ok (.invokevirtual 73, 3) := by decide +kernel
theorem dX5_latestEnd_29 : decode cX5_latestEnd 29 = .ok (.getfield 76, 3) := by decide +kernel
theorem dX5_latestEnd_32 : decode cX5_latestEnd 32 = .ok (.aload_n 0, 1) := by decide +kernel
theorem dX5_latestEnd_33 : decode cX5_latestEnd 33 = .ok (.getfield 28, 3) := by decide +kernel
theorem dX5_latestEnd_36 : decode cX5_latestEnd 36 = .ok (.iconst 2, 1) := by decide +kernel
theorem dX5_latestEnd_37 : decode cX5_latestEnd 37 = .ok (.invokevirtual 54, 3) := by decide +kernel
theorem dX5_latestEnd_40 : decode cX5_latestEnd 40 = .ok (.isub, 1) := by decide +kernel
theorem dX5_latestEnd_41 : decode cX5_latestEnd 41 = .ok (.ireturn, 1) := by decide +kernel
theorem dX5_faultsOf_0 : decode cX5_faultsOf 0 = .ok (.aload_n 0, 1) := by decide +kernel
theorem dX5_faultsOf_1 : decode cX5_faultsOf 1 = .ok (.getfield 37, 3) := by decide +kernel
theorem dX5_faultsOf_4 : decode cX5_faultsOf 4 = .ok (.iload_n 1, 1) := by decide +kernel
theorem dX5_faultsOf_5 : decode cX5_faultsOf 5 = .ok (.invokevirtual 73, 3) := by decide +kernel
theorem dX5_faultsOf_8 : decode cX5_faultsOf 8 = .ok (.astore_n 2, 1) := by decide +kernel
theorem dX5_faultsOf_9 : decode cX5_faultsOf 9 = .ok (.aload_n 0, 1) := by decide +kernel
theorem dX5_faultsOf_10 : decode cX5_faultsOf 10 = .ok (.getfield 28, 3) := by decide +kernel
theorem dX5_faultsOf_13 : decode cX5_faultsOf 13 = .ok (.iconst 3, 1) := by decide +kernel
theorem dX5_faultsOf_14 : decode cX5_faultsOf 14 = .ok (.invokevirtual 54, 3) := by decide +kernel
theorem dX5_faultsOf_17 : decode cX5_faultsOf 17 = .ok (.istore_n 3, 1) := by decide +kernel
theorem dX5_faultsOf_18 : decode cX5_faultsOf 18 = .ok (.iconst 0, 1) := by decide +kernel
theorem dX5_faultsOf_19 : decode cX5_faultsOf 19 = .ok (.istore 4, 2) := by decide +kernel
theorem dX5_faultsOf_21 : decode cX5_faultsOf 21 = .ok (.aload_n 2, 1) := by decide +kernel
theorem dX5_faultsOf_22 : decode cX5_faultsOf 22 = .ok (.invokevirtual 80, 3) := by decide +kernel
theorem dX5_faultsOf_25 : decode cX5_faultsOf 25 = .ok (.aload_n 0, 1) := by decide +kernel
theorem dX5_faultsOf_26 : decode cX5_faultsOf 26 = .ok (.aload_n 2, 1) := by decide +kernel
theorem dX5_faultsOf_27 : decode cX5_faultsOf 27 = .ok (.invokevirtual 83, 3) := by decide +kernel
theorem dX5_faultsOf_30 : decode cX5_faultsOf 30 = .ok (.if_icmp .ge 6, 3) := by decide +kernel
theorem dX5_faultsOf_33 : decode cX5_faultsOf 33 = .ok (.iinc 4 1, 3) := by decide +kernel
theorem dX5_faultsOf_36 : decode cX5_faultsOf 36 = .ok (.aload_n 2, 1) := by decide +kernel
theorem dX5_faultsOf_37 : decode cX5_faultsOf 37 = .ok (.getfield 87, 3) := by decide +kernel
theorem dX5_faultsOf_40 : decode cX5_faultsOf 40 = .ok (.aload_n 0, 1) := by decide +kernel
theorem dX5_faultsOf_41 : decode cX5_faultsOf 41 = .ok (.iload_n 1, 1) := by decide +kernel
theorem dX5_faultsOf_42 : decode cX5_faultsOf 42 = .ok (.invokevirtual 90, 3) := by decide +kernel
theorem dX5_faultsOf_45 : decode cX5_faultsOf 45 = .ok (.if_icmp .le 6, 3) := by decide +kernel
theorem dX5_faultsOf_48 : decode cX5_faultsOf 48 = .ok (.iinc 4 2, 3) := by decide +kernel
theorem dX5_faultsOf_51 : decode cX5_faultsOf 51 = .ok (.aload_n 0, 1) := by decide +kernel
theorem dX5_faultsOf_52 : decode cX5_faultsOf 52 = .ok (.getfield 37, 3) := by decide +kernel
theorem dX5_faultsOf_55 : decode cX5_faultsOf 55 = .ok (.iload_n 1, 1) := by decide +kernel
theorem dX5_faultsOf_56 : decode cX5_faultsOf 56 = .ok (.invokevirtual 93, 3) := by decide +kernel
theorem dX5_faultsOf_59 : decode cX5_faultsOf 59 = .ok (.ifCond .eq 6, 3) := by decide +kernel
theorem dX5_faultsOf_62 : decode cX5_faultsOf 62 = .ok (.iinc 4 4, 3) := by decide +kernel
theorem dX5_faultsOf_65 : decode cX5_faultsOf 65 = .ok (.aload_n 0, 1) := by decide +kernel
theorem dX5_faultsOf_66 : decode cX5_faultsOf 66 = .ok (.getfield 21, 3) := by decide +kernel
theorem dX5_faultsOf_69 : decode cX5_faultsOf 69 = .ok (.aload_n 2, 1) := by decide +kernel
theorem dX5_faultsOf_70 : decode cX5_faultsOf 70 = .ok (.getfield 76, 3) := by decide +kernel
theorem dX5_faultsOf_73 : decode cX5_faultsOf 73 = .ok (.iload_n 3, 1) := by decide +kernel
theorem dX5_faultsOf_74 : decode cX5_faultsOf 74 = .ok (.invokevirtual 97, 3) := by decide +kernel
theorem dX5_faultsOf_77 : decode cX5_faultsOf 77 = .ok (.ifCond .ne 18, 3) := by decide +kernel
theorem dX5_faultsOf_80 : decode cX5_faultsOf 80 = .ok (.aload_n 0, 1) := by decide +kernel
theorem dX5_faultsOf_81 : decode cX5_faultsOf 81 = .ok (.getfield 21, 3) := by decide +kernel
theorem dX5_faultsOf_84 : decode cX5_faultsOf 84 = .ok (.aload_n 2, 1) := by decide +kernel
theorem dX5_faultsOf_85 : decode cX5_faultsOf 85 = .ok (.getfield 87, 3) := by decide +kernel
theorem dX5_faultsOf_88 : decode cX5_faultsOf 88 = .ok (.iload_n 3, 1) := by decide +kernel
theorem dX5_faultsOf_89 : decode cX5_faultsOf 89 = .ok (.invokevirtual 97, 3) := by decide +kernel
theorem dX5_faultsOf_92 : decode cX5_faultsOf 92 = .ok (.ifCond .eq 6, 3) := by decide +kernel
theorem dX5_faultsOf_95 : decode cX5_faultsOf 95 = .ok (.iinc 4 8, 3) := by decide +kernel
theorem dX5_faultsOf_98 : decode cX5_faultsOf 98 = .ok (.aload_n 2, 1) := by decide +kernel
theorem dX5_faultsOf_99 : decode cX5_faultsOf 99 = .ok (.aload_n 0, 1) := by decide +kernel
theorem dX5_faultsOf_100 : decode cX5_faultsOf 100 = .ok (.getfield 28, 3) := by decide +kernel
theorem dX5_faultsOf_103 : decode cX5_faultsOf 103 = .ok (.iconst 4, 1) := by decide +kernel
theorem dX5_faultsOf_104 : decode cX5_faultsOf 104 = .ok (.invokevirtual 54, 3) := by decide +kernel
theorem dX5_faultsOf_107 : decode cX5_faultsOf 107 = .ok (.invokevirtual 101, 3) := by decide +kernel
theorem dX5_faultsOf_110 : decode cX5_faultsOf 110 = .ok (.ifCond .eq 6, 3) := by decide +kernel
theorem dX5_faultsOf_113 : decode cX5_faultsOf 113 = .ok (.iinc 4 16, 3) := by decide +kernel
theorem dX5_faultsOf_116 : decode cX5_faultsOf 116 = .ok (.aload_n 2, 1) := by decide +kernel
theorem dX5_faultsOf_117 : decode cX5_faultsOf 117 = .ok (.getfield 87, 3) := by decide +kernel
theorem dX5_faultsOf_120 : decode cX5_faultsOf 120 = .ok (.aload_n 0, 1) := by decide +kernel
theorem dX5_faultsOf_121 : decode cX5_faultsOf 121 = .ok (.getfield 12, 3) := by decide +kernel
theorem dX5_faultsOf_124 : decode cX5_faultsOf 124 = .ok (.invokevirtual 104, 3) := by decide +kernel
theorem dX5_faultsOf_127 : decode cX5_faultsOf 127 = .ok (.if_icmp .le 6, 3) := by decide +kernel
theorem dX5_faultsOf_130 : decode cX5_faultsOf 130 = .ok (.iinc 4 32, 3) := by decide +kernel
theorem dX5_faultsOf_133 : decode cX5_faultsOf 133 = .ok (.iload 4, 2) := by decide +kernel
theorem dX5_faultsOf_135 : decode cX5_faultsOf 135 = .ok (.ireturn, 1) := by decide +kernel
theorem dX5_countFaulty_0 : decode cX5_countFaulty 0 = .ok (.iload_n 1, 1) := by decide +kernel
theorem dX5_countFaulty_1 : decode cX5_countFaulty 1 = .ok (.ifCond .ne 7, 3) := by decide +kernel
theorem dX5_countFaulty_4 : decode cX5_countFaulty 4 = .ok (.iconst (-1), 1) := by decide +kernel
theorem dX5_countFaulty_5 : decode cX5_countFaulty 5 = .ok (.goto 4, 3) := by decide +kernel
theorem dX5_countFaulty_8 : decode cX5_countFaulty 8 = .ok (.iload_n 1, 1) := by decide +kernel
theorem dX5_countFaulty_9 : decode cX5_countFaulty 9 = .ok (.istore_n 2, 1) := by decide +kernel
theorem dX5_countFaulty_10 : decode cX5_countFaulty 10 = .ok (.iconst 0, 1) := by decide +kernel
theorem dX5_countFaulty_11 : decode cX5_countFaulty 11 = .ok (.istore_n 3, 1) := by decide +kernel
theorem dX5_countFaulty_12 : decode cX5_countFaulty 12 = .ok (.iconst 0, 1) := by decide +kernel
theorem dX5_countFaulty_13 : decode cX5_countFaulty 13 = .ok (.istore 4, 2) := by decide +kernel
theorem dX5_countFaulty_15 : decode cX5_countFaulty 15 = .ok (.iload 4, 2) := by decide +kernel
theorem dX5_countFaulty_17 : decode cX5_countFaulty 17 = .ok (.aload_n 0, 1) := by decide +kernel
theorem dX5_countFaulty_18 : decode cX5_countFaulty 18 = .ok (.getfield 37, 3) := by decide +kernel
theorem dX5_countFaulty_21 : decode cX5_countFaulty 21 = .ok (.invokevirtual 107, 3) := by decide +kernel
theorem dX5_countFaulty_24 : decode cX5_countFaulty 24 = .ok (.if_icmp .ge 23, 3) := by decide +kernel
theorem dX5_countFaulty_27 : decode cX5_countFaulty 27 = .ok (.aload_n 0, 1) := by decide +kernel
theorem dX5_countFaulty_28 : decode cX5_countFaulty 28 = .ok (.iload 4, 2) := by decide +kernel
theorem dX5_countFaulty_30 : decode cX5_countFaulty 30 = .ok (.invokevirtual 110, 3) := by decide +kernel
theorem dX5_countFaulty_33 : decode cX5_countFaulty 33 = .ok (.iload_n 2, 1) := by decide +kernel
theorem dX5_countFaulty_34 : decode cX5_countFaulty 34 = .ok (.iand, 1) := by decide +kernel
theorem dX5_countFaulty_35 : decode cX5_countFaulty 35 = .ok (.ifCond .eq 6, 3) := by decide +kernel
theorem dX5_countFaulty_38 : decode cX5_countFaulty 38 = .ok (.iinc 3 1, 3) := by decide +kernel
theorem dX5_countFaulty_41 : decode cX5_countFaulty 41 = .ok (.iinc 4 1, 3) := by decide +kernel
theorem dX5_countFaulty_44 : decode cX5_countFaulty 44 = .ok (.goto (-29), 3) := by decide +kernel
theorem dX5_countFaulty_47 : decode cX5_countFaulty 47 = .ok (.iload_n 3, 1) := by decide +kernel
theorem dX5_countFaulty_48 : decode cX5_countFaulty 48 = .ok (.ireturn, 1) := by decide +kernel
theorem dX6_init_0 : decode cX6_init 0 = .ok (.aload_n 0, 1) := by decide +kernel
theorem dX6_init_1 : decode cX6_init 1 = .ok (.invokespecial 1, 3) := by decide +kernel
theorem dX6_init_4 : decode cX6_init 4 = .ok (.aload_n 0, 1) := by decide +kernel
theorem dX6_init_5 : decode cX6_init 5 = .ok (.aload_n 1, 1) := by decide +kernel
theorem dX6_init_6 : decode cX6_init 6 = .ok (.putfield 7, 3) := by decide +kernel
theorem dX6_init_9 : decode cX6_init 9 = .ok (.aload_n 0, 1) := by decide +kernel
theorem dX6_init_10 : decode cX6_init 10 = .ok (.aload_n 1, 1) := by decide +kernel
theorem dX6_init_11 : decode cX6_init 11 = .ok (.putfield 13, 3) := by decide +kernel
theorem dX6_init_14 : decode cX6_init 14 = .ok (.return_, 1) := by decide +kernel
theorem dX6_become_0 : decode cX6_become 0 = .ok (.aload_n 0, 1) := by decide +kernel
theorem dX6_become_1 : decode cX6_become 1 = .ok (.aload_n 1, 1) := by decide +kernel
theorem dX6_become_2 : decode cX6_become 2 = .ok (.getfield 16, 3) := by decide +kernel
theorem dX6_become_5 : decode cX6_become 5 = .ok (.putfield 16, 3) := by decide +kernel
theorem dX6_become_8 : decode cX6_become 8 = .ok (.aload_n 0, 1) := by decide +kernel
theorem dX6_become_9 : decode cX6_become 9 = .ok (.aload_n 1, 1) := by decide +kernel
theorem dX6_become_10 : decode cX6_become 10 = .ok (.getfield 20, 3) := by decide +kernel
theorem dX6_become_13 : decode cX6_become 13 = .ok (.putfield 20, 3) := by decide +kernel
theorem dX6_become_16 : decode cX6_become 16 = .ok (.aload_n 0, 1) := by decide +kernel
theorem dX6_become_17 : decode cX6_become 17 = .ok (.aload_n 1, 1) := by decide +kernel
theorem dX6_become_18 : decode cX6_become 18 = .ok (.getfield 23, 3) := by decide +kernel
theorem dX6_become_21 : decode cX6_become 21 = .ok (.putfield 23, 3) := by decide +kernel
theorem dX6_become_24 : decode cX6_become 24 = .ok (.aload_n 0, 1) := by decide +kernel
theorem dX6_become_25 : decode cX6_become 25 = .ok (.aload_n 1, 1) := by decide +kernel
theorem dX6_become_26 : decode cX6_become 26 = .ok (.getfield 7, 3) := by decide +kernel
theorem dX6_become_29 : decode cX6_become 29 = .ok (.putfield 7, 3) := by decide +kernel
theorem dX6_become_32 : decode cX6_become 32 = .ok (.aload_n 0, 1) := by decide +kernel
theorem dX6_become_33 : decode cX6_become 33 = .ok (.aload_n 1, 1) := by decide +kernel
theorem dX6_become_34 : decode cX6_become 34 = .ok (.getfield 13, 3) := by decide +kernel
theorem dX6_become_37 : decode cX6_become 37 = .ok (.putfield 13, 3) := by decide +kernel
theorem dX6_become_40 : decode cX6_become 40 = .ok (.return_, 1) := by decide +kernel
theorem dX6_length_0 : decode cX6_length 0 = .ok (.aload_n 0, 1) := by decide +kernel
theorem dX6_length_1 : decode cX6_length 1 = .ok (.getfield 20, 3) := by decide +kernel
theorem dX6_length_4 : decode cX6_length 4 = .ok (.aload_n 0, 1) := by decide +kernel
theorem dX6_length_5 : decode cX6_length 5 = .ok (.getfield 16, 3) := by decide +kernel
theorem dX6_length_8 : decode cX6_length 8 = .ok (.isub, 1) := by decide +kernel
theorem dX6_length_9 : decode cX6_length 9 = .ok (.ireturn, 1) := by decide +kernel
theorem dX6_characters_0 : decode cX6_characters 0 = .ok (.aload_n 0, 1) := by decide +kernel
theorem dX6_characters_1 : decode cX6_characters 1 = .ok (.getfield 23, 3) := by decide +kernel
theorem dX6_characters_4 : decode cX6_characters 4 = .ok (.iconst 2, 1) := by decide +kernel
theorem dX6_characters_5 : decode cX6_characters 5 = .ok (.if_icmp .ne 23, 3) := by decide +kernel
theorem dX6_characters_8 : decode cX6_characters 8 = .ok (.aload_n 0, 1) := by decide +kernel
theorem dX6_characters_9 : decode cX6_characters 9 = .ok (.getfield 7, 3) := by decide +kernel
theorem dX6_characters_12 : decode cX6_characters 12 = .ok (.invokevirtual 26, 3) := by decide +kernel
theorem dX6_characters_15 : decode cX6_characters 15 = .ok (.aload_n 0, 1) := by decide +kernel
theorem dX6_characters_16 : decode cX6_characters 16 = .ok (.getfield 13, 3) := by decide +kernel
theorem dX6_characters_19 : decode cX6_characters 19 = .ok (.invokevirtual 26, 3) := by decide +kernel
theorem dX6_characters_22 : decode cX6_characters 22 = .ok (.iadd, 1) := by decide +kernel
theorem dX6_characters_23 : decode cX6_characters 23 = .ok (.iconst 4, 1) := by decide +kernel
theorem dX6_characters_24 : decode cX6_characters 24 = .ok (.iadd, 1) := by decide +kernel
theorem dX6_characters_25 : decode cX6_characters 25 = .ok (.goto 10, 3) := by decide +kernel
theorem dX6_characters_28 : decode cX6_characters 28 = .ok (.aload_n 0, 1) := by decide +kernel
theorem dX6_characters_29 : decode cX6_characters 29 = .ok (.getfield 7, 3) := by decide +kernel
theorem dX6_characters_32 : decode cX6_characters 32 = .ok (.invokevirtual 26, 3) := by decide +kernel
theorem dX6_characters_35 : decode cX6_characters 35 = .ok (.ireturn, 1) := by decide +kernel
theorem dX6_isTooWide_0 : decode cX6_isTooWide 0 = .ok (.aload_n 0, 1) := by decide +kernel
theorem dX6_isTooWide_1 : decode cX6_isTooWide 1 = .ok (.getfield 7, 3) := by decide +kernel
theorem dX6_isTooWide_4 : decode cX6_isTooWide 4 = .ok (.iload_n 1, 1) := by decide +kernel
theorem dX6_isTooWide_5 : decode cX6_isTooWide 5 = .ok (.invokevirtual 32, 3) := by decide +kernel
theorem dX6_isTooWide_8 : decode cX6_isTooWide 8 = .ok (.ifCond .ne 22, 3) := by decide +kernel
theorem dX6_isTooWide_11 : decode cX6_isTooWide 11 = .ok (.aload_n 0, 1) := by decide +kernel
theorem dX6_isTooWide_12 : decode cX6_isTooWide 12 = .ok (.getfield 23, 3) := by decide +kernel
theorem dX6_isTooWide_15 : decode cX6_isTooWide 15 = .ok (.iconst 2, 1) := by decide +kernel
theorem dX6_isTooWide_16 : decode cX6_isTooWide 16 = .ok (.if_icmp .ne 18, 3) := by decide +kernel
theorem dX6_isTooWide_19 : decode cX6_isTooWide 19 = .ok (.aload_n 0, 1) := by decide +kernel
theorem dX6_isTooWide_20 : decode cX6_isTooWide 20 = .ok (.getfield 13, 3) := by decide +kernel
theorem dX6_isTooWide_23 : decode cX6_isTooWide 23 = .ok (.iload_n 1, 1) := by decide +kernel
theorem dX6_isTooWide_24 : decode cX6_isTooWide 24 = .ok (.invokevirtual 32, 3) := by decide +kernel
theorem dX6_isTooWide_27 : decode cX6_isTooWide 27 = .ok (.ifCond .eq 7, 3) := by decide +kernel
theorem dX6_isTooWide_30 : decode cX6_isTooWide 30 = .ok (.iconst 1, 1) := by decide +kernel
theorem dX6_isTooWide_31 : decode cX6_isTooWide 31 = .ok (.goto 4, 3) := by decide +kernel
theorem dX6_isTooWide_34 : decode cX6_isTooWide 34 = .ok (.iconst 0, 1) := by decide +kernel
theorem dX6_isTooWide_35 : decode cX6_isTooWide 35 = .ok (.ireturn, 1) := by decide +kernel
theorem dX6_overlaps_0 : decode cX6_overlaps 0 = .ok (.aload_n 0, 1) := by decide +kernel
theorem dX6_overlaps_1 : decode cX6_overlaps 1 = .ok (.getfield 23, 3) := by decide +kernel
theorem dX6_overlaps_4 : decode cX6_overlaps 4 = .ok (.iconst 1, 1) := by decide +kernel
theorem dX6_overlaps_5 : decode cX6_overlaps 5 = .ok (.if_icmp .ne 28, 3) := by decide +kernel
theorem dX6_overlaps_8 : decode cX6_overlaps 8 = .ok (.aload_n 1, 1) := by decide +kernel
theorem dX6_overlaps_9 : decode cX6_overlaps 9 = .ok (.getfield 23, 3) := by decide +kernel
theorem dX6_overlaps_12 : decode cX6_overlaps 12 = .ok (.iconst 1, 1) := by decide +kernel
theorem dX6_overlaps_13 : decode cX6_overlaps 13 = .ok (.if_icmp .ne 20, 3) := by decide +kernel
theorem dX6_overlaps_16 : decode cX6_overlaps 16 = .ok (.aload_n 0, 1) := by decide +kernel
theorem dX6_overlaps_17 : decode cX6_overlaps 17 = .ok (.getfield 7, 3) := by decide +kernel
theorem dX6_overlaps_20 : decode cX6_overlaps 20 = .ok (.getfield 36, 3) := by decide +kernel
theorem dX6_overlaps_23 : decode cX6_overlaps 23 = .ok (.aload_n 1, 1) := by decide +kernel
theorem dX6_overlaps_24 : decode cX6_overlaps 24 = .ok (.getfield 7, 3) := by decide +kernel
theorem dX6_overlaps_27 : decode cX6_overlaps 27 = .ok (.getfield 36, 3) := by decide +kernel
theorem dX6_overlaps_30 : decode cX6_overlaps 30 = .ok (.if_icmp .ne 5, 3) := by decide +kernel
theorem dX6_overlaps_33 : decode cX6_overlaps 33 = .ok (.iconst 0, 1) := by decide +kernel
theorem dX6_overlaps_34 : decode cX6_overlaps 34 = .ok (.ireturn, 1) := by decide +kernel
theorem dX6_overlaps_35 : decode cX6_overlaps 35 = .ok (.aload_n 0, 1) := by decide +kernel
theorem dX6_overlaps_36 : decode cX6_overlaps 36 = .ok (.getfield 20, 3) := by decide +kernel
theorem dX6_overlaps_39 : decode cX6_overlaps 39 = .ok (.aload_n 1, 1) := by decide +kernel
theorem dX6_overlaps_40 : decode cX6_overlaps 40 = .ok (.getfield 20, 3) := by decide +kernel
theorem dX6_overlaps_43 : decode cX6_overlaps 43 = .ok (.invokestatic 39, 3) := by decide +kernel
theorem dX6_overlaps_46 : decode cX6_overlaps 46 = .ok (.aload_n 0, 1) := by decide +kernel
theorem dX6_overlaps_47 : decode cX6_overlaps 47 = .ok (.getfield 16, 3) := by decide +kernel
theorem dX6_overlaps_50 : decode cX6_overlaps 50 = .ok (.aload_n 1, 1) := by decide +kernel
theorem dX6_overlaps_51 : decode cX6_overlaps 51 = .ok (.getfield 16, 3) := by decide +kernel
theorem dX6_overlaps_54 : decode cX6_overlaps 54 = .ok (.invokestatic 45, 3) := by decide +kernel
theorem dX6_overlaps_57 : decode cX6_overlaps 57 = .ok (.isub, 1) := by decide +kernel
theorem dX6_overlaps_58 : decode cX6_overlaps 58 = .ok (.istore_n 2, 1) := by decide +kernel
theorem dX6_overlaps_59 : decode cX6_overlaps 59 = .ok (.iload_n 2, 1) := by decide +kernel
theorem dX6_overlaps_60 : decode cX6_overlaps 60 = .ok (.ifCond .le 24, 3) := by decide +kernel
theorem dX6_overlaps_63 : decode cX6_overlaps 63 = .ok (.iconst 2, 1) := by decide +kernel
theorem dX6_overlaps_64 : decode cX6_overlaps 64 = .ok (.iload_n 2, 1) := by decide +kernel
theorem dX6_overlaps_65 : decode cX6_overlaps 65 = .ok (.imul, 1) := by decide +kernel
theorem dX6_overlaps_66 : decode cX6_overlaps 66 = .ok (.aload_n 0, 1) := by decide +kernel
theorem dX6_overlaps_67 : decode cX6_overlaps 67 = .ok (.invokevirtual 48, 3) := by decide +kernel
theorem dX6_overlaps_70 : decode cX6_overlaps 70 = .ok (.aload_n 1, 1) := by decide +kernel
theorem dX6_overlaps_71 : decode cX6_overlaps 71 = .ok (.invokevirtual 48, 3) := by decide +kernel
theorem dX6_overlaps_74 : decode cX6_overlaps 74 = .ok (.invokestatic 39, 3) := by decide +kernel
theorem dX6_overlaps_77 : decode cX6_overlaps 77 = .ok (.if_icmp .lt 7, 3) := by decide +kernel
theorem dX6_overlaps_80 : decode cX6_overlaps 80 = .ok (.iconst 1, 1) := by decide +kernel
theorem dX6_overlaps_81 : decode cX6_overlaps 81 = .ok (.goto 4, 3) := by decide +kernel
theorem dX6_overlaps_84 : decode cX6_overlaps 84 = .ok (.iconst 0, 1) := by decide +kernel
theorem dX6_overlaps_85 : decode cX6_overlaps 85 = .ok (.ireturn, 1) := by decide +kernel
theorem dX6_takeIn_0 : decode cX6_takeIn 0 = .ok (.aload_n 0, 1) := by decide +kernel
theorem dX6_takeIn_1 : decode cX6_takeIn 1 = .ok (.aload_n 1, 1) := by decide +kernel
theorem dX6_takeIn_2 : decode cX6_takeIn 2 = .ok (.getfield 7, 3) := by decide +kernel
theorem dX6_takeIn_5 : decode cX6_takeIn 5 = .ok (.putfield 13, 3) := by decide +kernel
theorem dX6_takeIn_8 : decode cX6_takeIn 8 = .ok (.aload_n 0, 1) := by decide +kernel
theorem dX6_takeIn_9 : decode cX6_takeIn 9 = .ok (.iconst 2, 1) := by decide +kernel
theorem dX6_takeIn_10 : decode cX6_takeIn 10 = .ok (.putfield 23, 3) := by decide +kernel
theorem dX6_takeIn_13 : decode cX6_takeIn 13 = .ok (.aload_n 0, 1) := by decide +kernel
theorem dX6_takeIn_14 : decode cX6_takeIn 14 = .ok (.aload_n 0, 1) := by decide +kernel
theorem dX6_takeIn_15 : decode cX6_takeIn 15 = .ok (.getfield 20, 3) := by decide +kernel
theorem dX6_takeIn_18 : decode cX6_takeIn 18 = .ok (.aload_n 1, 1) := by decide +kernel
theorem dX6_takeIn_19 : decode cX6_takeIn 19 = .ok (.getfield 20, 3) := by decide +kernel
theorem dX6_takeIn_22 : decode cX6_takeIn 22 = .ok (.invokestatic 45, 3) := by decide +kernel
theorem dX6_takeIn_25 : decode cX6_takeIn 25 = .ok (.putfield 20, 3) := by decide +kernel
theorem dX6_takeIn_28 : decode cX6_takeIn 28 = .ok (.return_, 1) := by decide +kernel
theorem dX7_init_0 : decode cX7_init 0 = .ok (.aload_n 0, 1) := by decide +kernel
theorem dX7_init_1 : decode cX7_init 1 = .ok (.invokespecial 3, 3) := by decide +kernel
theorem dX7_init_4 : decode cX7_init 4 = .ok (.aload_n 0, 1) := by decide +kernel
theorem dX7_init_5 : decode cX7_init 5 = .ok (.bipush 16, 2) := by decide +kernel
theorem dX7_init_7 : decode cX7_init 7 = .ok (.anewarray 9, 3) := by decide +kernel
theorem dX7_init_10 : decode cX7_init 10 = .ok (.putfield 11, 3) := by decide +kernel
theorem dX7_init_13 : decode cX7_init 13 = .ok (.iconst 0, 1) := by decide +kernel
theorem dX7_init_14 : decode cX7_init 14 = .ok (.istore_n 2, 1) := by decide +kernel
theorem dX7_init_15 : decode cX7_init 15 = .ok (.iload_n 2, 1) := by decide +kernel
theorem dX7_init_16 : decode cX7_init 16 = .ok (.aload_n 0, 1) := by decide +kernel
theorem dX7_init_17 : decode cX7_init 17 = .ok (.getfield 11, 3) := by decide +kernel
theorem dX7_init_20 : decode cX7_init 20 = .ok (.arraylength, 1) := by decide +kernel
theorem dX7_init_21 : decode cX7_init 21 = .ok (.if_icmp .ge 23, 3) := by decide +kernel
theorem dX7_init_24 : decode cX7_init 24 = .ok (.aload_n 0, 1) := by decide +kernel
theorem dX7_init_25 : decode cX7_init 25 = .ok (.getfield 11, 3) := by decide +kernel
theorem dX7_init_28 : decode cX7_init 28 = .ok (.iload_n 2, 1) := by decide +kernel
theorem dX7_init_29 : decode cX7_init 29 = .ok (.new 9, 3) := by decide +kernel
theorem dX7_init_32 : decode cX7_init 32 = .ok (.dup, 1) := by decide +kernel
theorem dX7_init_33 : decode cX7_init 33 = .ok (.aload_n 1, 1) := by decide +kernel
theorem dX7_init_34 : decode cX7_init 34 = .ok (.invokespecial 17, 3) := by decide +kernel
theorem dX7_init_37 : decode cX7_init 37 = .ok (.aastore, 1) := by decide +kernel
theorem dX7_init_38 : decode cX7_init 38 = .ok (.iinc 2 1, 3) := by decide +kernel
theorem dX7_init_41 : decode cX7_init 41 = .ok (.goto (-26), 3) := by decide +kernel
theorem dX7_init_44 : decode cX7_init 44 = .ok (.aload_n 0, 1) := by decide +kernel
theorem dX7_init_45 : decode cX7_init 45 = .ok (.new 9, 3) := by decide +kernel
theorem dX7_init_48 : decode cX7_init 48 = .ok (.dup, 1) := by decide +kernel
theorem dX7_init_49 : decode cX7_init 49 = .ok (.aload_n 1, 1) := by decide +kernel
theorem dX7_init_50 : decode cX7_init 50 = .ok (.invokespecial 17, 3) := by decide +kernel
theorem dX7_init_53 : decode cX7_init 53 = .ok (.putfield 20, 3) := by decide +kernel
theorem dX7_init_56 : decode cX7_init 56 = .ok (.return_, 1) := by decide +kernel
theorem dX7_become_0 : decode cX7_become 0 = .ok (.aload_n 0, 1) := by decide +kernel
theorem dX7_become_1 : decode cX7_become 1 = .ok (.aload_n 1, 1) := by decide +kernel
theorem dX7_become_2 : decode cX7_become 2 = .ok (.getfield 24, 3) := by decide +kernel
theorem dX7_become_5 : decode cX7_become 5 = .ok (.putfield 24, 3) := by decide +kernel
theorem dX7_become_8 : decode cX7_become 8 = .ok (.iconst 0, 1) := by decide +kernel
theorem dX7_become_9 : decode cX7_become 9 = .ok (.istore_n 2, 1) := by decide +kernel
theorem dX7_become_10 : decode cX7_become 10 = .ok (.iload_n 2, 1) := by decide +kernel
theorem dX7_become_11 : decode cX7_become 11 = .ok (.aload_n 0, 1) := by decide +kernel
theorem dX7_become_12 : decode cX7_become 12 = .ok (.getfield 24, 3) := by decide +kernel
theorem dX7_become_15 : decode cX7_become 15 = .ok (.if_icmp .ge 24, 3) := by decide +kernel
theorem dX7_become_18 : decode cX7_become 18 = .ok (.aload_n 0, 1) := by decide +kernel
theorem dX7_become_19 : decode cX7_become 19 = .ok (.getfield 11, 3) := by decide +kernel
theorem dX7_become_22 : decode cX7_become 22 = .ok (.iload_n 2, 1) := by decide +kernel
theorem dX7_become_23 : decode cX7_become 23 = .ok (.aaload, 1) := by decide +kernel
theorem dX7_become_24 : decode cX7_become 24 = .ok (.aload_n 1, 1) := by decide +kernel
theorem dX7_become_25 : decode cX7_become 25 = .ok (.getfield 11, 3) := by decide +kernel
theorem dX7_become_28 : decode cX7_become 28 = .ok (.iload_n 2, 1) := by decide +kernel
theorem dX7_become_29 : decode cX7_become 29 = .ok (.aaload, 1) := by decide +kernel
theorem dX7_become_30 : decode cX7_become 30 = .ok (.invokevirtual 28, 3) := by decide +kernel
theorem dX7_become_33 : decode cX7_become 33 = .ok (.iinc 2 1, 3) := by decide +kernel
theorem dX7_become_36 : decode cX7_become 36 = .ok (.goto (-26), 3) := by decide +kernel
theorem dX7_become_39 : decode cX7_become 39 = .ok (.return_, 1) := by decide +kernel
theorem dX7_size_0 : decode cX7_size 0 = .ok (.aload_n 0, 1) := by decide +kernel
theorem dX7_size_1 : decode cX7_size 1 = .ok (.getfield 24, 3) := by decide +kernel
theorem dX7_size_4 : decode cX7_size 4 = .ok (.ireturn, 1) := by decide +kernel
theorem dX7_isFull_0 : decode cX7_isFull 0 = .ok (.aload_n 0, 1) := by decide +kernel
theorem dX7_isFull_1 : decode cX7_isFull 1 = .ok (.getfield 24, 3) := by decide +kernel
theorem dX7_isFull_4 : decode cX7_isFull 4 = .ok (.bipush 16, 2) := by decide +kernel
theorem dX7_isFull_6 : decode cX7_isFull 6 = .ok (.if_icmp .lt 7, 3) := by decide +kernel
theorem dX7_isFull_9 : decode cX7_isFull 9 = .ok (.iconst 1, 1) := by decide +kernel
theorem dX7_isFull_10 : decode cX7_isFull 10 = .ok (.goto 4, 3) := by decide +kernel
theorem dX7_isFull_13 : decode cX7_isFull 13 = .ok (.iconst 0, 1) := by decide +kernel
theorem dX7_isFull_14 : decode cX7_isFull 14 = .ok (.ireturn, 1) := by decide +kernel
theorem dX7_has_0 : decode cX7_has 0 = .ok (.iload_n 1, 1) := by decide +kernel
theorem dX7_has_1 : decode cX7_has 1 = .ok (.ifCond .lt 15, 3) := by decide +kernel
theorem dX7_has_4 : decode cX7_has 4 = .ok (.iload_n 1, 1) := by decide +kernel
theorem dX7_has_5 : decode cX7_has 5 = .ok (.aload_n 0, 1) := by decide +kernel
theorem dX7_has_6 : decode cX7_has 6 = .ok (.getfield 24, 3) := by decide +kernel
theorem dX7_has_9 : decode cX7_has 9 = .ok (.if_icmp .ge 7, 3) := by decide +kernel
theorem dX7_has_12 : decode cX7_has 12 = .ok (.iconst 1, 1) := by decide +kernel
theorem dX7_has_13 : decode cX7_has 13 = .ok (.goto 4, 3) := by decide +kernel
theorem dX7_has_16 : decode cX7_has 16 = .ok (.iconst 0, 1) := by decide +kernel
theorem dX7_has_17 : decode cX7_has 17 = .ok (.ireturn, 1) := by decide +kernel
theorem dX7_at_0 : decode cX7_at 0 = .ok (.aload_n 0, 1) := by decide +kernel
theorem dX7_at_1 : decode cX7_at 1 = .ok (.iload_n 1, 1) := by decide +kernel
theorem dX7_at_2 : decode cX7_at 2 = .ok (.invokevirtual 32, 3) := by decide +kernel
theorem dX7_at_5 : decode cX7_at 5 = .ok (.ifCond .eq 12, 3) := by decide +kernel
theorem dX7_at_8 : decode cX7_at 8 = .ok (.aload_n 0, 1) := by decide +kernel
theorem dX7_at_9 : decode cX7_at 9 = .ok (.getfield 11, 3) := by decide +kernel
theorem dX7_at_12 : decode cX7_at 12 = .ok (.iload_n 1, 1) := by decide +kernel
theorem dX7_at_13 : decode cX7_at 13 = .ok (.aaload, 1) := by decide +kernel
theorem dX7_at_14 : decode cX7_at 14 = .ok (.goto 7, 3) := by decide +kernel
theorem dX7_at_17 : decode cX7_at 17 = .ok (.aload_n 0, 1) := by decide +kernel
theorem dX7_at_18 : decode cX7_at 18 = .ok (.getfield 20, 3) := by decide +kernel
theorem dX7_at_21 : decode cX7_at 21 = .ok (.areturn, 1) := by decide +kernel
theorem dX7_empty_0 : decode cX7_empty 0 = .ok (.aload_n 0, 1) := by decide +kernel
theorem dX7_empty_1 : decode cX7_empty 1 = .ok (.iconst 0, 1) := by decide +kernel
theorem dX7_empty_2 : decode cX7_empty 2 = .ok (.putfield 24, 3) := by decide +kernel
theorem dX7_empty_5 : decode cX7_empty 5 = .ok (.return_, 1) := by decide +kernel
theorem dX7_insert_0 : decode cX7_insert 0 = .ok (.aload_n 0, 1) := by decide +kernel
theorem dX7_insert_1 : decode cX7_insert 1 = .ok (.invokevirtual 36, 3) := by decide +kernel
theorem dX7_insert_4 : decode cX7_insert 4 = .ok (.ifCond .eq 6, 3) := by decide +kernel
theorem dX7_insert_7 : decode cX7_insert 7 = .ok (.bipush (-9), 2) := by decide +kernel
theorem dX7_insert_9 : decode cX7_insert 9 = .ok (.ireturn, 1) := by decide +kernel
theorem dX7_insert_10 : decode cX7_insert 10 = .ok (.aload_n 0, 1) := by decide +kernel
theorem dX7_insert_11 : decode cX7_insert 11 = .ok (.getfield 11, 3) := by decide +kernel
theorem dX7_insert_14 : decode cX7_insert 14 = .ok (.aload_n 0, 1) := by decide +kernel
theorem dX7_insert_15 : decode cX7_insert 15 = .ok (.getfield 24, 3) := by decide +kernel
theorem dX7_insert_18 : decode cX7_insert 18 = .ok (.aaload, 1) := by decide +kernel
theorem dX7_insert_19 : decode cX7_insert 19 = .ok (.astore 4, 2) := by decide +kernel
theorem dX7_insert_21 : decode cX7_insert 21 = .ok (.aload 4, 2) := by decide +kernel
theorem dX7_insert_23 : decode cX7_insert 23 = .ok (.iload_n 1, 1) := by decide +kernel
theorem dX7_insert_24 : decode cX7_insert 24 = .ok (.putfield 40, 3) := by decide +kernel
theorem dX7_insert_27 : decode cX7_insert 27 = .ok (.aload 4, 2) := by decide +kernel
theorem dX7_insert_29 : decode cX7_insert 29 = .ok (.iload_n 2, 1) := by decide +kernel
theorem dX7_insert_30 : decode cX7_insert 30 = .ok (.putfield 43, 3) := by decide +kernel
theorem dX7_insert_33 : decode cX7_insert 33 = .ok (.aload 4, 2) := by decide +kernel
theorem dX7_insert_35 : decode cX7_insert 35 = .ok (.iconst 1, 1) := by decide +kernel
theorem dX7_insert_36 : decode cX7_insert 36 = .ok (.putfield 46, 3) := by decide +kernel
theorem dX7_insert_39 : decode cX7_insert 39 = .ok (.aload 4, 2) := by decide +kernel
theorem dX7_insert_41 : decode cX7_insert 41 = .ok (.aload_n 3, 1) := by decide +kernel
theorem dX7_insert_42 : decode cX7_insert 42 = .ok (.putfield 49, 3) := by decide +kernel
theorem dX7_insert_45 : decode cX7_insert 45 = .ok (.aload_n 0, 1) := by decide +kernel
theorem dX7_insert_46 : decode cX7_insert 46 = .ok (.dup, 1) := by decide +kernel
theorem dX7_insert_47 : decode cX7_insert 47 = .ok (.getfield 24, 3) := by decide +kernel
theorem dX7_insert_50 : decode cX7_insert 50 = .ok (.iconst 1, 1) := by decide +kernel
theorem dX7_insert_51 : decode cX7_insert 51 = .ok (.iadd, 1) := by decide +kernel
theorem dX7_insert_52 : decode cX7_insert 52 = .ok (.putfield 24, 3) := by decide +kernel
theorem dX7_insert_55 : decode cX7_insert 55 = .ok (.aload_n 0, 1) := by decide +kernel
theorem dX7_insert_56 : decode cX7_insert 56 = .ok (.aload_n 0, 1) := by decide +kernel
theorem dX7_insert_57 : decode cX7_insert 57 = .ok (.getfield 24, 3) := by decide +kernel
theorem dX7_insert_60 : decode cX7_insert 60 = .ok (.iconst 1, 1) := by decide +kernel
theorem dX7_insert_61 : decode cX7_insert 61 = .ok (.isub, 1) := by decide +kernel
theorem dX7_insert_62 : decode cX7_insert 62 = .ok (.invokevirtual 53, 3) := by decide +kernel
theorem dX7_insert_65 : decode cX7_insert 65 = .ok (.ireturn, 1) := by decide +kernel
theorem dX7_insertLike_0 : decode cX7_insertLike 0 = .ok (.aload_n 0, 1) := by decide +kernel
theorem dX7_insertLike_1 : decode cX7_insertLike 1 = .ok (.invokevirtual 36, 3) := by decide +kernel
theorem dX7_insertLike_4 : decode cX7_insertLike 4 = .ok (.ifCond .eq 4, 3) := by decide +kernel
theorem dX7_insertLike_7 : decode cX7_insertLike 7 = .ok (.return_, 1) := by decide +kernel
theorem dX7_insertLike_8 : decode cX7_insertLike 8 = .ok (.aload_n 0, 1) := by decide +kernel
theorem dX7_insertLike_9 : decode cX7_insertLike 9 = .ok (.getfield 11, 3) := by decide +kernel
theorem dX7_insertLike_12 : decode cX7_insertLike 12 = .ok (.aload_n 0, 1) := by decide +kernel
theorem dX7_insertLike_13 : decode cX7_insertLike 13 = .ok (.getfield 24, 3) := by decide +kernel
theorem dX7_insertLike_16 : decode cX7_insertLike 16 = .ok (.aaload, 1) := by decide +kernel
theorem dX7_insertLike_17 : decode cX7_insertLike 17 = .ok (.astore 4, 2) := by decide +kernel
theorem dX7_insertLike_19 : decode cX7_insertLike 19 = .ok (.aload 4, 2) := by decide +kernel
theorem dX7_insertLike_21 : decode cX7_insertLike 21 = .ok (.aload_n 1, 1) := by decide +kernel
theorem dX7_insertLike_22 : decode cX7_insertLike 22 = .ok (.invokevirtual 28, 3) := by decide +kernel
theorem dX7_insertLike_25 : decode cX7_insertLike 25 = .ok (.aload 4, 2) := by decide +kernel
theorem dX7_insertLike_27 : decode cX7_insertLike 27 = .ok (.iload_n 2, 1) := by decide +kernel
theorem dX7_insertLike_28 : decode cX7_insertLike 28 = .ok (.putfield 40, 3) := by decide +kernel
theorem dX7_insertLike_31 : decode cX7_insertLike 31 = .ok (.aload 4, 2) := by decide +kernel
theorem dX7_insertLike_33 : decode cX7_insertLike 33 = .ok (.iload_n 3, 1) := by decide +kernel
theorem dX7_insertLike_34 : decode cX7_insertLike 34 = .ok (.putfield 43, 3) := by decide +kernel
theorem dX7_insertLike_37 : decode cX7_insertLike 37 = .ok (.aload_n 0, 1) := by decide +kernel
theorem dX7_insertLike_38 : decode cX7_insertLike 38 = .ok (.dup, 1) := by decide +kernel
theorem dX7_insertLike_39 : decode cX7_insertLike 39 = .ok (.getfield 24, 3) := by decide +kernel
theorem dX7_insertLike_42 : decode cX7_insertLike 42 = .ok (.iconst 1, 1) := by decide +kernel
theorem dX7_insertLike_43 : decode cX7_insertLike 43 = .ok (.iadd, 1) := by decide +kernel
theorem dX7_insertLike_44 : decode cX7_insertLike 44 = .ok (.putfield 24, 3) := by decide +kernel
theorem dX7_insertLike_47 : decode cX7_insertLike 47 = .ok (.aload_n 0, 1) := by decide +kernel
theorem dX7_insertLike_48 : decode cX7_insertLike 48 = .ok (.aload_n 0, 1) := by decide +kernel
theorem dX7_insertLike_49 : decode cX7_insertLike 49 = .ok (.getfield 24, 3) := by decide +kernel
theorem dX7_insertLike_52 : decode cX7_insertLike 52 = .ok (.iconst 1, 1) := by decide +kernel
theorem dX7_insertLike_53 : decode cX7_insertLike 53 = .ok (.isub, 1) := by decide +kernel
theorem dX7_insertLike_54 : decode cX7_insertLike 54 = .ok (.invokevirtual 53, 3) := by decide +kernel
theorem dX7_insertLike_57 : decode cX7_insertLike 57 = .ok (.pop, 1) := by decide +kernel
theorem dX7_insertLike_58 : decode cX7_insertLike 58 = .ok (.return_, 1) := by decide +kernel
theorem dX7_remove_0 : decode cX7_remove 0 = .ok (.aload_n 0, 1) := by decide +kernel
theorem dX7_remove_1 : decode cX7_remove 1 = .ok (.iload_n 1, 1) := by decide +kernel
theorem dX7_remove_2 : decode cX7_remove 2 = .ok (.invokevirtual 32, 3) := by decide +kernel
theorem dX7_remove_5 : decode cX7_remove 5 = .ok (.ifCond .ne 4, 3) := by decide +kernel
theorem dX7_remove_8 : decode cX7_remove 8 = .ok (.return_, 1) := by decide +kernel
theorem dX7_remove_9 : decode cX7_remove 9 = .ok (.aload_n 0, 1) := by decide +kernel
theorem dX7_remove_10 : decode cX7_remove 10 = .ok (.getfield 11, 3) := by decide +kernel
theorem dX7_remove_13 : decode cX7_remove 13 = .ok (.iload_n 1, 1) := by decide +kernel
theorem dX7_remove_14 : decode cX7_remove 14 = .ok (.aaload, 1) := by decide +kernel
theorem dX7_remove_15 : decode cX7_remove 15 = .ok (.astore_n 2, 1) := by decide +kernel
theorem dX7_remove_16 : decode cX7_remove 16 = .ok (.iload_n 1, 1) := by decide +kernel
theorem dX7_remove_17 : decode cX7_remove 17 = .ok (.istore_n 3, 1) := by decide +kernel
theorem dX7_remove_18 : decode cX7_remove 18 = .ok (.iload_n 3, 1) := by decide +kernel
theorem dX7_remove_19 : decode cX7_remove 19 = .ok (.iconst 1, 1) := by decide +kernel
theorem dX7_remove_20 : decode cX7_remove 20 = .ok (.iadd, 1) := by decide +kernel
theorem dX7_remove_21 : decode cX7_remove 21 = .ok (.aload_n 0, 1) := by decide +kernel
theorem dX7_remove_22 : decode cX7_remove 22 = .ok (.getfield 24, 3) := by decide +kernel
theorem dX7_remove_25 : decode cX7_remove 25 = .ok (.if_icmp .ge 23, 3) := by decide +kernel
theorem dX7_remove_28 : decode cX7_remove 28 = .ok (.aload_n 0, 1) := by decide +kernel
theorem dX7_remove_29 : decode cX7_remove 29 = .ok (.getfield 11, 3) := by decide +kernel
theorem dX7_remove_32 : decode cX7_remove 32 = .ok (.iload_n 3, 1) := by decide +kernel
theorem dX7_remove_33 : decode cX7_remove 33 = .ok (.aload_n 0, 1) := by decide +kernel
theorem dX7_remove_34 : decode cX7_remove 34 = .ok (.getfield 11, 3) := by decide +kernel
theorem dX7_remove_37 : decode cX7_remove 37 = .ok (.iload_n 3, 1) := by decide +kernel
theorem dX7_remove_38 : decode cX7_remove 38 = .ok (.iconst 1, 1) := by decide +kernel
theorem dX7_remove_39 : decode cX7_remove 39 = .ok (.iadd, 1) := by decide +kernel
theorem dX7_remove_40 : decode cX7_remove 40 = .ok (.aaload, 1) := by decide +kernel
theorem dX7_remove_41 : decode cX7_remove 41 = .ok (.aastore, 1) := by decide +kernel
theorem dX7_remove_42 : decode cX7_remove 42 = .ok (.iinc 3 1, 3) := by decide +kernel
theorem dX7_remove_45 : decode cX7_remove 45 = .ok (.goto (-27), 3) := by decide +kernel
theorem dX7_remove_48 : decode cX7_remove 48 = .ok (.aload_n 0, 1) := by decide +kernel
theorem dX7_remove_49 : decode cX7_remove 49 = .ok (.dup, 1) := by decide +kernel
theorem dX7_remove_50 : decode cX7_remove 50 = .ok (.getfield 24, 3) := by decide +kernel
theorem dX7_remove_53 : decode cX7_remove 53 = .ok (.iconst 1, 1) := by decide +kernel
theorem dX7_remove_54 : decode cX7_remove 54 = .ok (.isub, 1) := by decide +kernel
theorem dX7_remove_55 : decode cX7_remove 55 = .ok (.putfield 24, 3) := by decide +kernel
theorem dX7_remove_58 : decode cX7_remove 58 = .ok (.aload_n 0, 1) := by decide +kernel
theorem dX7_remove_59 : decode cX7_remove 59 = .ok (.getfield 11, 3) := by decide +kernel
theorem dX7_remove_62 : decode cX7_remove 62 = .ok (.aload_n 0, 1) := by decide +kernel
theorem dX7_remove_63 : decode cX7_remove 63 = .ok (.getfield 24, 3) := by decide +kernel
theorem dX7_remove_66 : decode cX7_remove 66 = .ok (.aload_n 2, 1) := by decide +kernel
theorem dX7_remove_67 : decode cX7_remove 67 = .ok (.aastore, 1) := by decide +kernel
theorem dX7_remove_68 : decode cX7_remove 68 = .ok (.return_, 1) := by decide +kernel
theorem dX7_settleAll_0 : decode cX7_settleAll 0 = .ok (.iconst 1, 1) := by decide +kernel
theorem dX7_settleAll_1 : decode cX7_settleAll 1 = .ok (.istore_n 1, 1) := by decide +kernel
theorem dX7_settleAll_2 : decode cX7_settleAll 2 = .ok (.iload_n 1, 1) := by decide +kernel
theorem dX7_settleAll_3 : decode cX7_settleAll 3 = .ok (.aload_n 0, 1) := by decide +kernel
theorem dX7_settleAll_4 : decode cX7_settleAll 4 = .ok (.getfield 24, 3) := by decide +kernel
theorem dX7_settleAll_7 : decode cX7_settleAll 7 = .ok (.if_icmp .ge 15, 3) := by decide +kernel
theorem dX7_settleAll_10 : decode cX7_settleAll 10 = .ok (.aload_n 0, 1) := by decide +kernel
theorem dX7_settleAll_11 : decode cX7_settleAll 11 = .ok (.iload_n 1, 1) := by decide +kernel
theorem dX7_settleAll_12 : decode cX7_settleAll 12 = .ok (.invokevirtual 53, 3) := by decide +kernel
theorem dX7_settleAll_15 : decode cX7_settleAll 15 = .ok (.pop, 1) := by decide +kernel
theorem dX7_settleAll_16 : decode cX7_settleAll 16 = .ok (.iinc 1 1, 3) := by decide +kernel
theorem dX7_settleAll_19 : decode cX7_settleAll 19 = .ok (.goto (-17), 3) := by decide +kernel
theorem dX7_settleAll_22 : decode cX7_settleAll 22 = .ok (.return_, 1) := by decide +kernel
theorem dX7_settle_0 : decode cX7_settle 0 = .ok (.aload_n 0, 1) := by decide +kernel
theorem dX7_settle_1 : decode cX7_settle 1 = .ok (.iload_n 1, 1) := by decide +kernel
theorem dX7_settle_2 : decode cX7_settle 2 = .ok (.invokevirtual 32, 3) := by decide +kernel
theorem dX7_settle_5 : decode cX7_settle 5 = .ok (.ifCond .eq 7, 3) := by decide +kernel
theorem dX7_settle_8 : decode cX7_settle 8 = .ok (.iload_n 1, 1) := by decide +kernel
theorem dX7_settle_9 : decode cX7_settle 9 = .ok (.goto 4, 3) := by decide +kernel
theorem dX7_settle_12 : decode cX7_settle 12 = .ok (.iconst 0, 1) := by decide +kernel
theorem dX7_settle_13 : decode cX7_settle 13 = .ok (.istore_n 2, 1) := by decide +kernel
theorem dX7_settle_14 : decode cX7_settle 14 = .ok (.iload_n 2, 1) := by decide +kernel
theorem dX7_settle_15 : decode cX7_settle 15 = .ok (.ifCond .le 62, 3) := by decide +kernel
theorem dX7_settle_18 : decode cX7_settle 18 = .ok (.aload_n 0, 1) := by decide +kernel
theorem dX7_settle_19 : decode cX7_settle 19 = .ok (.getfield 11, 3) := by decide +kernel
theorem dX7_settle_22 : decode cX7_settle 22 = .ok (.iload_n 2, 1) := by decide +kernel
theorem dX7_settle_23 : decode cX7_settle 23 = .ok (.iconst 1, 1) := by decide +kernel
theorem dX7_settle_24 : decode cX7_settle 24 = .ok (.isub, 1) := by decide +kernel
theorem dX7_settle_25 : decode cX7_settle 25 = .ok (.aaload, 1) := by decide +kernel
theorem dX7_settle_26 : decode cX7_settle 26 = .ok (.getfield 40, 3) := by decide +kernel
theorem dX7_settle_29 : decode cX7_settle 29 = .ok (.aload_n 0, 1) := by decide +kernel
theorem dX7_settle_30 : decode cX7_settle 30 = .ok (.getfield 11, 3) := by decide +kernel
theorem dX7_settle_33 : decode cX7_settle 33 = .ok (.iload_n 2, 1) := by decide +kernel
theorem dX7_settle_34 : decode cX7_settle 34 = .ok (.aaload, 1) := by decide +kernel
theorem dX7_settle_35 : decode cX7_settle 35 = .ok (.getfield 40, 3) := by decide +kernel
theorem dX7_settle_38 : decode cX7_settle 38 = .ok (.if_icmp .le 39, 3) := by decide +kernel
theorem dX7_settle_41 : decode cX7_settle 41 = .ok (.aload_n 0, 1) := by decide +kernel
theorem dX7_settle_42 : decode cX7_settle 42 = .ok (.getfield 11, 3) := by decide +kernel
theorem dX7_settle_45 : decode cX7_settle 45 = .ok (.iload_n 2, 1) := by decide +kernel
theorem dX7_settle_46 : decode cX7_settle 46 = .ok (.iconst 1, 1) := by decide +kernel
theorem dX7_settle_47 : decode cX7_settle 47 = .ok (.isub, 1) := by decide +kernel
theorem dX7_settle_48 : decode cX7_settle 48 = .ok (.aaload, 1) := by decide +kernel
theorem dX7_settle_49 : decode cX7_settle 49 = .ok (.astore_n 3, 1) := by decide +kernel
theorem dX7_settle_50 : decode cX7_settle 50 = .ok (.aload_n 0, 1) := by decide +kernel
theorem dX7_settle_51 : decode cX7_settle 51 = .ok (.getfield 11, 3) := by decide +kernel
theorem dX7_settle_54 : decode cX7_settle 54 = .ok (.iload_n 2, 1) := by decide +kernel
theorem dX7_settle_55 : decode cX7_settle 55 = .ok (.iconst 1, 1) := by decide +kernel
theorem dX7_settle_56 : decode cX7_settle 56 = .ok (.isub, 1) := by decide +kernel
theorem dX7_settle_57 : decode cX7_settle 57 = .ok (.aload_n 0, 1) := by decide +kernel
theorem dX7_settle_58 : decode cX7_settle 58 = .ok (.getfield 11, 3) := by decide +kernel
theorem dX7_settle_61 : decode cX7_settle 61 = .ok (.iload_n 2, 1) := by decide +kernel
theorem dX7_settle_62 : decode cX7_settle 62 = .ok (.aaload, 1) := by decide +kernel
theorem dX7_settle_63 : decode cX7_settle 63 = .ok (.aastore, 1) := by decide +kernel
theorem dX7_settle_64 : decode cX7_settle 64 = .ok (.aload_n 0, 1) := by decide +kernel
theorem dX7_settle_65 : decode cX7_settle 65 = .ok (.getfield 11, 3) := by decide +kernel
theorem dX7_settle_68 : decode cX7_settle 68 = .ok (.iload_n 2, 1) := by decide +kernel
theorem dX7_settle_69 : decode cX7_settle 69 = .ok (.aload_n 3, 1) := by decide +kernel
theorem dX7_settle_70 : decode cX7_settle 70 = .ok (.aastore, 1) := by decide +kernel
theorem dX7_settle_71 : decode cX7_settle 71 = .ok (.iinc 2 (-1), 3) := by decide +kernel
theorem dX7_settle_74 : decode cX7_settle 74 = .ok (.goto (-60), 3) := by decide +kernel
theorem dX7_settle_77 : decode cX7_settle 77 = .ok (.iload_n 2, 1) := by decide +kernel
theorem dX7_settle_78 : decode cX7_settle 78 = .ok (.ireturn, 1) := by decide +kernel
theorem dX7_next_0 : decode cX7_next 0 = .ok (.iload_n 1, 1) := by decide +kernel
theorem dX7_next_1 : decode cX7_next 1 = .ok (.iconst 1, 1) := by decide +kernel
theorem dX7_next_2 : decode cX7_next 2 = .ok (.iadd, 1) := by decide +kernel
theorem dX7_next_3 : decode cX7_next 3 = .ok (.istore_n 2, 1) := by decide +kernel
theorem dX7_next_4 : decode cX7_next 4 = .ok (.aload_n 0, 1) := by decide +kernel
theorem dX7_next_5 : decode cX7_next 5 = .ok (.iload_n 1, 1) := by decide +kernel
theorem dX7_next_6 : decode cX7_next 6 = .ok (.invokevirtual 32, 3) := by decide +kernel
theorem dX7_next_9 : decode cX7_next 9 = .ok (.ifCond .eq 40, 3) := by decide +kernel
theorem dX7_next_12 : decode cX7_next 12 = .ok (.iload_n 2, 1) := by decide +kernel
theorem dX7_next_13 : decode cX7_next 13 = .ok (.aload_n 0, 1) := by decide +kernel
theorem dX7_next_14 : decode cX7_next 14 = .ok (.getfield 24, 3) := by decide +kernel
theorem dX7_next_17 : decode cX7_next 17 = .ok (.if_icmp .ge 32, 3) := by decide +kernel
theorem dX7_next_20 : decode cX7_next 20 = .ok (.aload_n 0, 1) := by decide +kernel
theorem dX7_next_21 : decode cX7_next 21 = .ok (.getfield 11, 3) := by decide +kernel
theorem dX7_next_24 : decode cX7_next 24 = .ok (.iload_n 2, 1) := by decide +kernel
theorem dX7_next_25 : decode cX7_next 25 = .ok (.aaload, 1) := by decide +kernel
theorem dX7_next_26 : decode cX7_next 26 = .ok (.getfield 40, 3) := by decide +kernel
theorem dX7_next_29 : decode cX7_next 29 = .ok (.aload_n 0, 1) := by decide +kernel
theorem dX7_next_30 : decode cX7_next 30 = .ok (.getfield 11, 3) := by decide +kernel
theorem dX7_next_33 : decode cX7_next 33 = .ok (.iload_n 1, 1) := by decide +kernel
theorem dX7_next_34 : decode cX7_next 34 = .ok (.aaload, 1) := by decide +kernel
theorem dX7_next_35 : decode cX7_next 35 = .ok (.getfield 40, 3) := by decide +kernel
theorem dX7_next_38 : decode cX7_next 38 = .ok (.if_icmp .le 5, 3) := by decide +kernel
theorem dX7_next_41 : decode cX7_next 41 = .ok (.iload_n 2, 1) := by decide +kernel
theorem dX7_next_42 : decode cX7_next 42 = .ok (.ireturn, 1) := by decide +kernel
theorem dX7_next_43 : decode cX7_next 43 = .ok (.iinc 2 1, 3) := by decide +kernel
theorem dX7_next_46 : decode cX7_next 46 = .ok (.goto (-42), 3) := by decide +kernel
theorem dX7_next_49 : decode cX7_next 49 = .ok (.bipush (-9), 2) := by decide +kernel
theorem dX7_next_51 : decode cX7_next 51 = .ok (.ireturn, 1) := by decide +kernel
theorem dX7_sharesFirst_0 : decode cX7_sharesFirst 0 = .ok (.aload_n 0, 1) := by decide +kernel
theorem dX7_sharesFirst_1 : decode cX7_sharesFirst 1 = .ok (.iload_n 1, 1) := by decide +kernel
theorem dX7_sharesFirst_2 : decode cX7_sharesFirst 2 = .ok (.invokevirtual 61, 3) := by decide +kernel
theorem dX7_sharesFirst_5 : decode cX7_sharesFirst 5 = .ok (.getfield 40, 3) := by decide +kernel
theorem dX7_sharesFirst_8 : decode cX7_sharesFirst 8 = .ok (.istore_n 2, 1) := by decide +kernel
theorem dX7_sharesFirst_9 : decode cX7_sharesFirst 9 = .ok (.aload_n 0, 1) := by decide +kernel
theorem dX7_sharesFirst_10 : decode cX7_sharesFirst 10 = .ok (.iload_n 1, 1) := by decide +kernel
theorem dX7_sharesFirst_11 : decode cX7_sharesFirst 11 = .ok (.iconst 1, 1) := by decide +kernel
theorem dX7_sharesFirst_12 : decode cX7_sharesFirst 12 = .ok (.isub, 1) := by decide +kernel
theorem dX7_sharesFirst_13 : decode cX7_sharesFirst 13 = .ok (.invokevirtual 32, 3) := by decide +kernel
theorem dX7_sharesFirst_16 : decode cX7_sharesFirst 16 = .ok (.ifCond .eq 17, 3) := by decide +kernel
theorem dX7_sharesFirst_19 : decode cX7_sharesFirst 19 = .ok (.aload_n 0, 1) := by decide +kernel
theorem dX7_sharesFirst_20 : decode cX7_sharesFirst 20 = .ok (.iload_n 1, 1) := by decide +kernel
theorem dX7_sharesFirst_21 : decode cX7_sharesFirst 21 = .ok (.iconst 1, 1) := by decide +kernel
theorem dX7_sharesFirst_22 : decode cX7_sharesFirst 22 = .ok (.isub, 1) := by decide +kernel
theorem dX7_sharesFirst_23 : decode cX7_sharesFirst 23 = .ok (.invokevirtual 61, 3) := by decide +kernel
theorem dX7_sharesFirst_26 : decode cX7_sharesFirst 26 = .ok (.getfield 40, 3) := by decide +kernel
theorem dX7_sharesFirst_29 : decode cX7_sharesFirst 29 = .ok (.iload_n 2, 1) := by decide +kernel
theorem dX7_sharesFirst_30 : decode cX7_sharesFirst 30 = .ok (.if_icmp .eq 27, 3) := by decide +kernel
theorem dX7_sharesFirst_33 : decode cX7_sharesFirst 33 = .ok (.aload_n 0, 1) := by decide +kernel
theorem dX7_sharesFirst_34 : decode cX7_sharesFirst 34 = .ok (.iload_n 1, 1) := by decide +kernel
theorem dX7_sharesFirst_35 : decode cX7_sharesFirst 35 = .ok (.iconst 1, 1) := by decide +kernel
theorem dX7_sharesFirst_36 : decode cX7_sharesFirst 36 = .ok (.iadd, 1) := by decide +kernel
theorem dX7_sharesFirst_37 : decode cX7_sharesFirst 37 = .ok (.invokevirtual 32, 3) := by decide +kernel
theorem dX7_sharesFirst_40 : decode cX7_sharesFirst 40 = .ok (.ifCond .eq 21, 3) := by decide +kernel
theorem dX7_sharesFirst_43 : decode cX7_sharesFirst 43 = .ok (.aload_n 0, 1) := by decide +kernel
theorem dX7_sharesFirst_44 : decode cX7_sharesFirst 44 = .ok (.iload_n 1, 1) := by decide +kernel
theorem dX7_sharesFirst_45 : decode cX7_sharesFirst 45 = .ok (.iconst 1, 1) := by decide +kernel
theorem dX7_sharesFirst_46 : decode cX7_sharesFirst 46 = .ok (.iadd, 1) := by decide +kernel
theorem dX7_sharesFirst_47 : decode cX7_sharesFirst 47 = .ok (.invokevirtual 61, 3) := by decide +kernel
theorem dX7_sharesFirst_50 : decode cX7_sharesFirst 50 = .ok (.getfield 40, 3) := by decide +kernel
theorem dX7_sharesFirst_53 : decode cX7_sharesFirst 53 = .ok (.iload_n 2, 1) := by decide +kernel
theorem dX7_sharesFirst_54 : decode cX7_sharesFirst 54 = .ok (.if_icmp .ne 7, 3) := by decide +kernel
theorem dX7_sharesFirst_57 : decode cX7_sharesFirst 57 = .ok (.iconst 1, 1) := by decide +kernel
theorem dX7_sharesFirst_58 : decode cX7_sharesFirst 58 = .ok (.goto 4, 3) := by decide +kernel
theorem dX7_sharesFirst_61 : decode cX7_sharesFirst 61 = .ok (.iconst 0, 1) := by decide +kernel
theorem dX7_sharesFirst_62 : decode cX7_sharesFirst 62 = .ok (.ireturn, 1) := by decide +kernel
theorem dX7_allLengths_0 : decode cX7_allLengths 0 = .ok (.iconst 0, 1) := by decide +kernel
theorem dX7_allLengths_1 : decode cX7_allLengths 1 = .ok (.istore_n 1, 1) := by decide +kernel
theorem dX7_allLengths_2 : decode cX7_allLengths 2 = .ok (.iconst 0, 1) := by decide +kernel
theorem dX7_allLengths_3 : decode cX7_allLengths 3 = .ok (.istore_n 2, 1) := by decide +kernel
theorem dX7_allLengths_4 : decode cX7_allLengths 4 = .ok (.iload_n 2, 1) := by decide +kernel
theorem dX7_allLengths_5 : decode cX7_allLengths 5 = .ok (.aload_n 0, 1) := by decide +kernel
theorem dX7_allLengths_6 : decode cX7_allLengths 6 = .ok (.getfield 24, 3) := by decide +kernel
theorem dX7_allLengths_9 : decode cX7_allLengths 9 = .ok (.if_icmp .ge 21, 3) := by decide +kernel
theorem dX7_allLengths_12 : decode cX7_allLengths 12 = .ok (.iload_n 1, 1) := by decide +kernel
theorem dX7_allLengths_13 : decode cX7_allLengths 13 = .ok (.aload_n 0, 1) := by decide +kernel
theorem dX7_allLengths_14 : decode cX7_allLengths 14 = .ok (.getfield 11, 3) := by decide +kernel
theorem dX7_allLengths_17 : decode cX7_allLengths 17 = .ok (.iload_n 2, 1) := by decide +kernel
theorem dX7_allLengths_18 : decode cX7_allLengths 18 = .ok (.aaload, 1) := by decide +kernel
theorem dX7_allLengths_19 : decode cX7_allLengths 19 = .ok (.invokevirtual 65, 3) := by decide +kernel
theorem dX7_allLengths_22 : decode cX7_allLengths 22 = .ok (.iadd, 1) := by decide +kernel
theorem dX7_allLengths_23 : decode cX7_allLengths 23 = .ok (.istore_n 1, 1) := by decide +kernel
theorem dX7_allLengths_24 : decode cX7_allLengths 24 = .ok (.iinc 2 1, 3) := by decide +kernel
theorem dX7_allLengths_27 : decode cX7_allLengths 27 = .ok (.goto (-23), 3) := by decide +kernel
theorem dX7_allLengths_30 : decode cX7_allLengths 30 = .ok (.iload_n 1, 1) := by decide +kernel
theorem dX7_allLengths_31 : decode cX7_allLengths 31 = .ok (.ireturn, 1) := by decide +kernel
theorem dX7_greatestEnd_0 : decode cX7_greatestEnd 0 = .ok (.iconst 0, 1) := by decide +kernel
theorem dX7_greatestEnd_1 : decode cX7_greatestEnd 1 = .ok (.istore_n 1, 1) := by decide +kernel
theorem dX7_greatestEnd_2 : decode cX7_greatestEnd 2 = .ok (.iconst 0, 1) := by decide +kernel
theorem dX7_greatestEnd_3 : decode cX7_greatestEnd 3 = .ok (.istore_n 2, 1) := by decide +kernel
theorem dX7_greatestEnd_4 : decode cX7_greatestEnd 4 = .ok (.iload_n 2, 1) := by decide +kernel
theorem dX7_greatestEnd_5 : decode cX7_greatestEnd 5 = .ok (.aload_n 0, 1) := by decide +kernel
theorem dX7_greatestEnd_6 : decode cX7_greatestEnd 6 = .ok (.getfield 24, 3) := by decide +kernel
theorem dX7_greatestEnd_9 : decode cX7_greatestEnd 9 = .ok (.if_icmp .ge 23, 3) := by decide +kernel
theorem dX7_greatestEnd_12 : decode cX7_greatestEnd 12 = .ok (.iload_n 1, 1) := by decide +kernel
theorem dX7_greatestEnd_13 : decode cX7_greatestEnd 13 = .ok (.aload_n 0, 1) := by decide +kernel
theorem dX7_greatestEnd_14 : decode cX7_greatestEnd 14 = .ok (.getfield 11, 3) := by decide +kernel
theorem dX7_greatestEnd_17 : decode cX7_greatestEnd 17 = .ok (.iload_n 2, 1) := by decide +kernel
theorem dX7_greatestEnd_18 : decode cX7_greatestEnd 18 = .ok (.aaload, 1) := by decide +kernel
theorem dX7_greatestEnd_19 : decode cX7_greatestEnd 19 = .ok (.getfield 43, 3) := by decide +kernel
theorem dX7_greatestEnd_22 : decode cX7_greatestEnd 22 = .ok (.invokestatic 69, 3) := by decide +kernel
theorem dX7_greatestEnd_25 : decode cX7_greatestEnd 25 = .ok (.istore_n 1, 1) := by decide +kernel
theorem dX7_greatestEnd_26 : decode cX7_greatestEnd 26 = .ok (.iinc 2 1, 3) := by decide +kernel
theorem dX7_greatestEnd_29 : decode cX7_greatestEnd 29 = .ok (.goto (-25), 3) := by decide +kernel
theorem dX7_greatestEnd_32 : decode cX7_greatestEnd 32 = .ok (.iload_n 1, 1) := by decide +kernel
theorem dX7_greatestEnd_33 : decode cX7_greatestEnd 33 = .ok (.ireturn, 1) := by decide +kernel
theorem dX7_countPairs_0 : decode cX7_countPairs 0 = .ok (.iconst 0, 1) := by decide +kernel
theorem dX7_countPairs_1 : decode cX7_countPairs 1 = .ok (.istore_n 1, 1) := by decide +kernel
theorem dX7_countPairs_2 : decode cX7_countPairs 2 = .ok (.iconst 0, 1) := by decide +kernel
theorem dX7_countPairs_3 : decode cX7_countPairs 3 = .ok (.istore_n 2, 1) := by decide +kernel
theorem dX7_countPairs_4 : decode cX7_countPairs 4 = .ok (.iload_n 2, 1) := by decide +kernel
theorem dX7_countPairs_5 : decode cX7_countPairs 5 = .ok (.aload_n 0, 1) := by decide +kernel
theorem dX7_countPairs_6 : decode cX7_countPairs 6 = .ok (.getfield 24, 3) := by decide +kernel
theorem dX7_countPairs_9 : decode cX7_countPairs 9 = .ok (.if_icmp .ge 25, 3) := by decide +kernel
theorem dX7_countPairs_12 : decode cX7_countPairs 12 = .ok (.aload_n 0, 1) := by decide +kernel
theorem dX7_countPairs_13 : decode cX7_countPairs 13 = .ok (.getfield 11, 3) := by decide +kernel
theorem dX7_countPairs_16 : decode cX7_countPairs 16 = .ok (.iload_n 2, 1) := by decide +kernel
theorem dX7_countPairs_17 : decode cX7_countPairs 17 = .ok (.aaload, 1) := by decide +kernel
theorem dX7_countPairs_18 : decode cX7_countPairs 18 = .ok (.getfield 46, 3) := by decide +kernel
theorem dX7_countPairs_21 : decode cX7_countPairs 21 = .ok (.iconst 2, 1) := by decide +kernel
theorem dX7_countPairs_22 : decode cX7_countPairs 22 = .ok (.if_icmp .ne 6, 3) := by decide +kernel
theorem dX7_countPairs_25 : decode cX7_countPairs 25 = .ok (.iinc 1 1, 3) := by decide +kernel
theorem dX7_countPairs_28 : decode cX7_countPairs 28 = .ok (.iinc 2 1, 3) := by decide +kernel
theorem dX7_countPairs_31 : decode cX7_countPairs 31 = .ok (.goto (-27), 3) := by decide +kernel
theorem dX7_countPairs_34 : decode cX7_countPairs 34 = .ok (.iload_n 1, 1) := by decide +kernel
theorem dX7_countPairs_35 : decode cX7_countPairs 35 = .ok (.ireturn, 1) := by decide +kernel
theorem dX7_shownAt_0 : decode cX7_shownAt 0 = .ok (.iconst 0, 1) := by decide +kernel
theorem dX7_shownAt_1 : decode cX7_shownAt 1 = .ok (.istore_n 2, 1) := by decide +kernel
theorem dX7_shownAt_2 : decode cX7_shownAt 2 = .ok (.iconst 0, 1) := by decide +kernel
theorem dX7_shownAt_3 : decode cX7_shownAt 3 = .ok (.istore_n 3, 1) := by decide +kernel
theorem dX7_shownAt_4 : decode cX7_shownAt 4 = .ok (.iload_n 3, 1) := by decide +kernel
theorem dX7_shownAt_5 : decode cX7_shownAt 5 = .ok (.aload_n 0, 1) := by decide +kernel
theorem dX7_shownAt_6 : decode cX7_shownAt 6 = .ok (.getfield 24, 3) := by decide +kernel
theorem dX7_shownAt_9 : decode cX7_shownAt 9 = .ok (.if_icmp .ge 41, 3) := by decide +kernel
theorem dX7_shownAt_12 : decode cX7_shownAt 12 = .ok (.aload_n 0, 1) := by decide +kernel
theorem dX7_shownAt_13 : decode cX7_shownAt 13 = .ok (.getfield 11, 3) := by decide +kernel
theorem dX7_shownAt_16 : decode cX7_shownAt 16 = .ok (.iload_n 3, 1) := by decide +kernel
theorem dX7_shownAt_17 : decode cX7_shownAt 17 = .ok (.aaload, 1) := by decide +kernel
theorem dX7_shownAt_18 : decode cX7_shownAt 18 = .ok (.getfield 40, 3) := by decide +kernel
theorem dX7_shownAt_21 : decode cX7_shownAt 21 = .ok (.iload_n 1, 1) := by decide +kernel
theorem dX7_shownAt_22 : decode cX7_shownAt 22 = .ok (.if_icmp .gt 22, 3) := by decide +kernel
theorem dX7_shownAt_25 : decode cX7_shownAt 25 = .ok (.iload_n 1, 1) := by decide +kernel
theorem dX7_shownAt_26 : decode cX7_shownAt 26 = .ok (.aload_n 0, 1) := by decide +kernel
theorem dX7_shownAt_27 : decode cX7_shownAt 27 = .ok (.getfield 11, 3) := by decide +kernel
theorem dX7_shownAt_30 : decode cX7_shownAt 30 = .ok (.iload_n 3, 1) := by decide +kernel
theorem dX7_shownAt_31 : decode cX7_shownAt 31 = .ok (.aaload, 1) := by decide +kernel
theorem dX7_shownAt_32 : decode cX7_shownAt 32 = .ok (.getfield 43, 3) := by decide +kernel
theorem dX7_shownAt_35 : decode cX7_shownAt 35 = .ok (.if_icmp .ge 9, 3) := by decide +kernel
theorem dX7_shownAt_38 : decode cX7_shownAt 38 = .ok (.iload_n 2, 1) := by decide +kernel
theorem dX7_shownAt_39 : decode cX7_shownAt 39 = .ok (.iconst 1, 1) := by decide +kernel
theorem dX7_shownAt_40 : decode cX7_shownAt 40 = .ok (.iload_n 3, 1) := by decide +kernel
theorem dX7_shownAt_41 : decode cX7_shownAt 41 = .ok (.ishl, 1) := by decide +kernel
theorem dX7_shownAt_42 : decode cX7_shownAt 42 = .ok (.ior, 1) := by decide +kernel
theorem dX7_shownAt_43 : decode cX7_shownAt 43 = .ok (.istore_n 2, 1) := by decide +kernel
theorem dX7_shownAt_44 : decode cX7_shownAt 44 = .ok (.iinc 3 1, 3) := by decide +kernel
theorem dX7_shownAt_47 : decode cX7_shownAt 47 = .ok (.goto (-43), 3) := by decide +kernel
theorem dX7_shownAt_50 : decode cX7_shownAt 50 = .ok (.iload_n 2, 1) := by decide +kernel
theorem dX7_shownAt_51 : decode cX7_shownAt 51 = .ok (.ireturn, 1) := by decide +kernel
theorem dX8_init_0 : decode cX8_init 0 = .ok (.aload_n 0, 1) := by decide +kernel
theorem dX8_init_1 : decode cX8_init 1 = .ok (.invokespecial 3, 3) := by decide +kernel
theorem dX8_init_4 : decode cX8_init 4 = .ok (.aload_n 0, 1) := by decide +kernel
theorem dX8_init_5 : decode cX8_init 5 = .ok (.bipush 10, 2) := by decide +kernel
theorem dX8_init_7 : decode cX8_init 7 = .ok (.newarray .int, 2) := by decide +kernel
theorem dX8_init_9 : decode cX8_init 9 = .ok (.putfield 9, 3) := by decide +kernel
theorem dX8_init_12 : decode cX8_init 12 = .ok (.aload_n 0, 1) := by decide +kernel
theorem dX8_init_13 : decode cX8_init 13 = .ok (.bipush 10, 2) := by decide +kernel
theorem dX8_init_15 : decode cX8_init 15 = .ok (.newarray .int, 2) := by decide +kernel
theorem dX8_init_17 : decode cX8_init 17 = .ok (.putfield 15, 3) := by decide +kernel
theorem dX8_init_20 : decode cX8_init 20 = .ok (.aload_n 0, 1) := by decide +kernel
theorem dX8_init_21 : decode cX8_init 21 = .ok (.new 18, 3) := by decide +kernel
theorem dX8_init_24 : decode cX8_init 24 = .ok (.dup, 1) := by decide +kernel
theorem dX8_init_25 : decode cX8_init 25 = .ok (.aload_n 1, 1) := by decide +kernel
theorem dX8_init_26 : decode cX8_init 26 = .ok (.invokespecial 20, 3) := by decide +kernel
theorem dX8_init_29 : decode cX8_init 29 = .ok (.putfield 23, 3) := by decide +kernel
theorem dX8_init_32 : decode cX8_init 32 = .ok (.return_, 1) := by decide +kernel
theorem dX8_carryOut_0 : decode cX8_carryOut 0 = .ok (.aload_n 0, 1) := by decide +kernel
theorem dX8_carryOut_1 : decode cX8_carryOut 1 = .ok (.getfield 23, 3) := by decide +kernel
theorem dX8_carryOut_4 : decode cX8_carryOut 4 = .ok (.aload_n 1, 1) := by decide +kernel
theorem dX8_carryOut_5 : decode cX8_carryOut 5 = .ok (.invokevirtual 27, 3) := by decide +kernel
theorem dX8_carryOut_8 : decode cX8_carryOut 8 = .ok (.aload_n 0, 1) := by decide +kernel
theorem dX8_carryOut_9 : decode cX8_carryOut 9 = .ok (.iconst 0, 1) := by decide +kernel
theorem dX8_carryOut_10 : decode cX8_carryOut 10 = .ok (.putfield 31, 3) := by decide +kernel
theorem dX8_carryOut_13 : decode cX8_carryOut 13 = .ok (.iload_n 2, 1) := by decide +kernel
theorem dX8_carryOut_14 : decode cX8_carryOut 14 = .ok (.iconst 1, 1) := by decide +kernel
theorem dX8_carryOut_15 : decode cX8_carryOut 15 = .ok (.iand, 1) := by decide +kernel
theorem dX8_carryOut_16 : decode cX8_carryOut 16 = .ok (.ifCond .eq 13, 3) := by decide +kernel
theorem dX8_carryOut_19 : decode cX8_carryOut 19 = .ok (.aload_n 0, 1) := by decide +kernel
theorem dX8_carryOut_20 : decode cX8_carryOut 20 = .ok (.aload_n 1, 1) := by decide +kernel
theorem dX8_carryOut_21 : decode cX8_carryOut 21 = .ok (.invokevirtual 35, 3) := by decide +kernel
theorem dX8_carryOut_24 : decode cX8_carryOut 24 = .ok (.ifCond .ne 5, 3) := by decide +kernel
theorem dX8_carryOut_27 : decode cX8_carryOut 27 = .ok (.iconst 0, 1) := by decide +kernel
theorem dX8_carryOut_28 : decode cX8_carryOut 28 = .ok (.ireturn, 1) := by decide +kernel
theorem dX8_carryOut_29 : decode cX8_carryOut 29 = .ok (.iload_n 2, 1) := by decide +kernel
theorem dX8_carryOut_30 : decode cX8_carryOut 30 = .ok (.iconst 2, 1) := by decide +kernel
theorem dX8_carryOut_31 : decode cX8_carryOut 31 = .ok (.iand, 1) := by decide +kernel
theorem dX8_carryOut_32 : decode cX8_carryOut 32 = .ok (.ifCond .eq 7, 3) := by decide +kernel
theorem dX8_carryOut_35 : decode cX8_carryOut 35 = .ok (.aload_n 0, 1) := by decide +kernel
theorem dX8_carryOut_36 : decode cX8_carryOut 36 = .ok (.invokevirtual 39, 3) := by decide +kernel
theorem dX8_carryOut_39 : decode cX8_carryOut 39 = .ok (.iload_n 2, 1) := by decide +kernel
theorem dX8_carryOut_40 : decode cX8_carryOut 40 = .ok (.iconst 4, 1) := by decide +kernel
theorem dX8_carryOut_41 : decode cX8_carryOut 41 = .ok (.iand, 1) := by decide +kernel
theorem dX8_carryOut_42 : decode cX8_carryOut 42 = .ok (.ifCond .eq 7, 3) := by decide +kernel
theorem dX8_carryOut_45 : decode cX8_carryOut 45 = .ok (.aload_n 0, 1) := by decide +kernel
theorem dX8_carryOut_46 : decode cX8_carryOut 46 = .ok (.invokevirtual 42, 3) := by decide +kernel
theorem dX8_carryOut_49 : decode cX8_carryOut 49 = .ok (.iload_n 2, 1) := by decide +kernel
theorem dX8_carryOut_50 : decode cX8_carryOut 50 = .ok (.bipush 8, 2) := by decide +kernel
theorem dX8_carryOut_52 : decode cX8_carryOut 52 = .ok (.iand, 1) := by decide +kernel
theorem dX8_carryOut_53 : decode cX8_carryOut 53 = .ok (.ifCond .eq 7, 3) := by decide +kernel
theorem dX8_carryOut_56 : decode cX8_carryOut 56 = .ok (.aload_n 0, 1) := by decide +kernel
theorem dX8_carryOut_57 : decode cX8_carryOut 57 = .ok (.invokevirtual 45, 3) := by decide +kernel
theorem dX8_carryOut_60 : decode cX8_carryOut 60 = .ok (.iload_n 2, 1) := by decide +kernel
theorem dX8_carryOut_61 : decode cX8_carryOut 61 = .ok (.bipush 16, 2) := by decide +kernel
theorem dX8_carryOut_63 : decode cX8_carryOut 63 = .ok (.iand, 1) := by decide +kernel
theorem dX8_carryOut_64 : decode cX8_carryOut 64 = .ok (.ifCond .eq 7, 3) := by decide +kernel
theorem dX8_carryOut_67 : decode cX8_carryOut 67 = .ok (.aload_n 0, 1) := by decide +kernel
theorem dX8_carryOut_68 : decode cX8_carryOut 68 = .ok (.invokevirtual 48, 3) := by decide +kernel
theorem dX8_carryOut_71 : decode cX8_carryOut 71 = .ok (.iconst 1, 1) := by decide +kernel
theorem dX8_carryOut_72 : decode cX8_carryOut 72 = .ok (.ireturn, 1) := by decide +kernel
theorem dX8_countStretches_0 : decode cX8_countStretches 0 = .ok (.aload_n 0, 1) := by decide +kernel
theorem dX8_countStretches_1 : decode cX8_countStretches 1 = .ok (.aload_n 1, 1) := by decide +kernel
theorem dX8_countStretches_2 : decode cX8_countStretches 2 = .ok (.aload_n 2, 1) := by decide +kernel
theorem dX8_countStretches_3 : decode cX8_countStretches 3 = .ok (.invokevirtual 51, 3) := by decide +kernel
theorem dX8_countStretches_6 : decode cX8_countStretches 6 = .ok (.aload_n 0, 1) := by decide +kernel
theorem dX8_countStretches_7 : decode cX8_countStretches 7 = .ok (.getfield 55, 3) := by decide +kernel
theorem dX8_countStretches_10 : decode cX8_countStretches 10 = .ok (.ireturn, 1) := by decide +kernel
theorem dX8_map_0 : decode cX8_map 0 = .ok (.aload_n 0, 1) := by decide +kernel
theorem dX8_map_1 : decode cX8_map 1 = .ok (.getfield 23, 3) := by decide +kernel
theorem dX8_map_4 : decode cX8_map 4 = .ok (.getfield 58, 3) := by decide +kernel
theorem dX8_map_7 : decode cX8_map 7 = .ok (.astore_n 2, 1) := by decide +kernel
theorem dX8_map_8 : decode cX8_map 8 = .ok (.aload_n 2, 1) := by decide +kernel
theorem dX8_map_9 : decode cX8_map 9 = .ok (.invokevirtual 62, 3) := by decide +kernel
theorem dX8_map_12 : decode cX8_map 12 = .ok (.iconst 0, 1) := by decide +kernel
theorem dX8_map_13 : decode cX8_map 13 = .ok (.istore_n 3, 1) := by decide +kernel
theorem dX8_map_14 : decode cX8_map 14 = .ok (.iload_n 3, 1) := by decide +kernel
theorem dX8_map_15 : decode cX8_map 15 = .ok (.aload_n 1, 1) := by decide +kernel
theorem dX8_map_16 : decode cX8_map 16 = .ok (.getfield 58, 3) := by decide +kernel
theorem dX8_map_19 : decode cX8_map 19 = .ok (.invokevirtual 67, 3) := by decide +kernel
theorem dX8_map_22 : decode cX8_map 22 = .ok (.if_icmp .ge 100, 3) := by decide +kernel
theorem dX8_map_25 : decode cX8_map 25 = .ok (.aload_n 1, 1) := by decide +kernel
theorem dX8_map_26 : decode cX8_map 26 = .ok (.getfield 58, 3) := by decide +kernel
theorem dX8_map_29 : decode cX8_map 29 = .ok (.iload_n 3, 1) := by decide +kernel
theorem dX8_map_30 : decode cX8_map 30 = .ok (.invokevirtual 71, 3) := by decide +kernel
theorem dX8_map_33 : decode cX8_map 33 = .ok (.astore 4, 2) := by decide +kernel
theorem dX8_map_35 : decode cX8_map 35 = .ok (.aload_n 0, 1) := by decide +kernel
theorem dX8_map_36 : decode cX8_map 36 = .ok (.aload 4, 2) := by decide +kernel
theorem dX8_map_38 : decode cX8_map 38 = .ok (.aload_n 1, 1) := by decide +kernel
theorem dX8_map_39 : decode cX8_map 39 = .ok (.getfield 75, 3) := by decide +kernel
theorem dX8_map_42 : decode cX8_map 42 = .ok (.invokevirtual 51, 3) := by decide +kernel
theorem dX8_map_45 : decode cX8_map 45 = .ok (.aload_n 0, 1) := by decide +kernel
theorem dX8_map_46 : decode cX8_map 46 = .ok (.getfield 55, 3) := by decide +kernel
theorem dX8_map_49 : decode cX8_map 49 = .ok (.ifCond .ne 13, 3) := by decide +kernel
theorem dX8_map_52 : decode cX8_map 52 = .ok (.aload_n 0, 1) := by decide +kernel
theorem dX8_map_53 : decode cX8_map 53 = .ok (.dup, 1) := by decide +kernel
theorem dX8_map_54 : decode cX8_map 54 = .ok (.getfield 31, 3) := by decide +kernel
theorem dX8_map_57 : decode cX8_map 57 = .ok (.iconst 1, 1) := by decide +kernel
theorem dX8_map_58 : decode cX8_map 58 = .ok (.iadd, 1) := by decide +kernel
theorem dX8_map_59 : decode cX8_map 59 = .ok (.putfield 31, 3) := by decide +kernel
theorem dX8_map_62 : decode cX8_map 62 = .ok (.aload_n 2, 1) := by decide +kernel
theorem dX8_map_63 : decode cX8_map 63 = .ok (.invokevirtual 67, 3) := by decide +kernel
theorem dX8_map_66 : decode cX8_map 66 = .ok (.aload_n 0, 1) := by decide +kernel
theorem dX8_map_67 : decode cX8_map 67 = .ok (.getfield 55, 3) := by decide +kernel
theorem dX8_map_70 : decode cX8_map 70 = .ok (.iadd, 1) := by decide +kernel
theorem dX8_map_71 : decode cX8_map 71 = .ok (.bipush 16, 2) := by decide +kernel
theorem dX8_map_73 : decode cX8_map 73 = .ok (.if_icmp .le 5, 3) := by decide +kernel
theorem dX8_map_76 : decode cX8_map 76 = .ok (.iconst 0, 1) := by decide +kernel
theorem dX8_map_77 : decode cX8_map 77 = .ok (.ireturn, 1) := by decide +kernel
theorem dX8_map_78 : decode cX8_map 78 = .ok (.iconst 0, 1) := by decide +kernel
theorem dX8_map_79 : decode cX8_map 79 = .ok (.istore 5, 2) := by decide +kernel
theorem dX8_map_81 : decode cX8_map 81 = .ok (.iload 5, 2) := by decide +kernel
theorem dX8_map_83 : decode cX8_map 83 = .ok (.aload_n 0, 1) := by decide +kernel
theorem dX8_map_84 : decode cX8_map 84 = .ok (.getfield 55, 3) := by decide +kernel
theorem dX8_map_87 : decode cX8_map 87 = .ok (.if_icmp .ge 29, 3) := by decide +kernel
theorem dX8_map_90 : decode cX8_map 90 = .ok (.aload_n 2, 1) := by decide +kernel
theorem dX8_map_91 : decode cX8_map 91 = .ok (.aload 4, 2) := by decide +kernel
theorem dX8_map_93 : decode cX8_map 93 = .ok (.aload_n 0, 1) := by decide +kernel
theorem dX8_map_94 : decode cX8_map 94 = .ok (.getfield 9, 3) := by decide +kernel
theorem dX8_map_97 : decode cX8_map 97 = .ok (.iload 5, 2) := by decide +kernel
theorem dX8_map_99 : decode cX8_map 99 = .ok (.iaload, 1) := by decide +kernel
theorem dX8_map_100 : decode cX8_map 100 = .ok (.aload_n 0, 1) := by decide +kernel
theorem dX8_map_101 : decode cX8_map 101 = .ok (.getfield 15, 3) := by decide +kernel
theorem dX8_map_104 : decode cX8_map 104 = .ok (.iload 5, 2) := by decide +kernel
theorem dX8_map_106 : decode cX8_map 106 = .ok (.iaload, 1) := by decide +kernel
theorem dX8_map_107 : decode cX8_map 107 = .ok (.invokevirtual 79, 3) := by decide +kernel
theorem dX8_map_110 : decode cX8_map 110 = .ok (.iinc 5 1, 3) := by decide +kernel
theorem dX8_map_113 : decode cX8_map 113 = .ok (.goto (-32), 3) := by decide +kernel
theorem dX8_map_116 : decode cX8_map 116 = .ok (.iinc 3 1, 3) := by decide +kernel
theorem dX8_map_119 : decode cX8_map 119 = .ok (.goto (-105), 3) := by decide +kernel
theorem dX8_map_122 : decode cX8_map 122 = .ok (.iconst 1, 1) := by decide +kernel
theorem dX8_map_123 : decode cX8_map 123 = .ok (.ireturn, 1) := by decide +kernel
theorem dX8_findStretches_0 : decode cX8_findStretches 0 = .ok (.aload_n 0, 1) := by decide +kernel
theorem dX8_findStretches_1 : decode cX8_findStretches 1 = .ok (.iconst 0, 1) := by decide +kernel
theorem dX8_findStretches_2 : decode cX8_findStretches 2 = .ok (.putfield 55, 3) := by decide +kernel
theorem dX8_findStretches_5 : decode cX8_findStretches 5 = .ok (.iconst 0, 1) := by decide +kernel
theorem dX8_findStretches_6 : decode cX8_findStretches 6 = .ok (.istore_n 3, 1) := by decide +kernel
theorem dX8_findStretches_7 : decode cX8_findStretches 7 = .ok (.iconst 0, 1) := by decide +kernel
theorem dX8_findStretches_8 : decode cX8_findStretches 8 = .ok (.istore 4, 2) := by decide +kernel
theorem dX8_findStretches_10 : decode cX8_findStretches 10 = .ok (.iload 4, 2) := by decide +kernel
theorem dX8_findStretches_12 : decode cX8_findStretches 12 = .ok (.aload_n 2, 1) := by decide +kernel
theorem dX8_findStretches_13 : decode cX8_findStretches 13 = .ok (.invokevirtual 83, 3) := by decide +kernel
theorem dX8_findStretches_16 : decode cX8_findStretches 16 = .ok (.if_icmp .ge 82, 3) := by decide +kernel
theorem dX8_findStretches_19 : decode cX8_findStretches 19 = .ok (.aload_n 2, 1) := by decide +kernel
theorem dX8_findStretches_20 : decode cX8_findStretches 20 = .ok (.iload 4, 2) := by decide +kernel
theorem dX8_findStretches_22 : decode cX8_findStretches 22 = .ok (.invokevirtual 86, 3) := by decide +kernel
theorem dX8_findStretches_25 : decode cX8_findStretches 25 = .ok (.istore 5, 2) := by decide +kernel
theorem dX8_findStretches_27 : decode cX8_findStretches 27 = .ok (.aload_n 1, 1) := by decide +kernel
theorem dX8_findStretches_28 : decode cX8_findStretches 28 = .ok (.getfield 90, 3) := by decide +kernel
theorem dX8_findStretches_31 : decode cX8_findStretches 31 = .ok (.iload 5, 2) := by decide +kernel
theorem dX8_findStretches_33 : decode cX8_findStretches 33 = .ok (.invokestatic 95, 3) := by decide +kernel
theorem dX8_findStretches_36 : decode cX8_findStretches 36 = .ok (.istore 6, 2) := by decide +kernel
theorem dX8_findStretches_38 : decode cX8_findStretches 38 = .ok (.aload_n 1, 1) := by decide +kernel
theorem dX8_findStretches_39 : decode cX8_findStretches 39 = .ok (.getfield 101, 3) := by decide +kernel
theorem dX8_findStretches_42 : decode cX8_findStretches 42 = .ok (.iload 5, 2) := by decide +kernel
theorem dX8_findStretches_44 : decode cX8_findStretches 44 = .ok (.aload_n 2, 1) := by decide +kernel
theorem dX8_findStretches_45 : decode cX8_findStretches 45 = .ok (.iload 4, 2) := by decide +kernel
theorem dX8_findStretches_47 : decode cX8_findStretches 47 = .ok (.invokevirtual 104, 3) := by decide +kernel
theorem dX8_findStretches_50 : decode cX8_findStretches 50 = .ok (.iadd, 1) := by decide +kernel
theorem dX8_findStretches_51 : decode cX8_findStretches 51 = .ok (.invokestatic 107, 3) := by decide +kernel
theorem dX8_findStretches_54 : decode cX8_findStretches 54 = .ok (.istore 7, 2) := by decide +kernel
theorem dX8_findStretches_56 : decode cX8_findStretches 56 = .ok (.iload 7, 2) := by decide +kernel
theorem dX8_findStretches_58 : decode cX8_findStretches 58 = .ok (.iload 6, 2) := by decide +kernel
theorem dX8_findStretches_60 : decode cX8_findStretches 60 = .ok (.isub, 1) := by decide +kernel
theorem dX8_findStretches_61 : decode cX8_findStretches 61 = .ok (.iconst 4, 1) := by decide +kernel
theorem dX8_findStretches_62 : decode cX8_findStretches 62 = .ok (.if_icmp .lt 21, 3) := by decide +kernel
theorem dX8_findStretches_65 : decode cX8_findStretches 65 = .ok (.aload_n 0, 1) := by decide +kernel
theorem dX8_findStretches_66 : decode cX8_findStretches 66 = .ok (.iload_n 3, 1) := by decide +kernel
theorem dX8_findStretches_67 : decode cX8_findStretches 67 = .ok (.iload 6, 2) := by decide +kernel
theorem dX8_findStretches_69 : decode cX8_findStretches 69 = .ok (.iadd, 1) := by decide +kernel
theorem dX8_findStretches_70 : decode cX8_findStretches 70 = .ok (.iload 5, 2) := by decide +kernel
theorem dX8_findStretches_72 : decode cX8_findStretches 72 = .ok (.isub, 1) := by decide +kernel
theorem dX8_findStretches_73 : decode cX8_findStretches 73 = .ok (.iload_n 3, 1) := by decide +kernel
theorem dX8_findStretches_74 : decode cX8_findStretches 74 = .ok (.iload 7, 2) := by decide +kernel
theorem dX8_findStretches_76 : decode cX8_findStretches 76 = .ok (.iadd, 1) := by decide +kernel
theorem dX8_findStretches_77 : decode cX8_findStretches 77 = .ok (.iload 5, 2) := by decide +kernel
theorem dX8_findStretches_79 : decode cX8_findStretches 79 = .ok (.isub, 1) := by decide +kernel
theorem dX8_findStretches_80 : decode cX8_findStretches 80 = .ok (.invokevirtual 110, 3) := by decide +kernel
theorem dX8_findStretches_83 : decode cX8_findStretches 83 = .ok (.iload_n 3, 1) := by decide +kernel
theorem dX8_findStretches_84 : decode cX8_findStretches 84 = .ok (.aload_n 2, 1) := by decide +kernel
theorem dX8_findStretches_85 : decode cX8_findStretches 85 = .ok (.iload 4, 2) := by decide +kernel
theorem dX8_findStretches_87 : decode cX8_findStretches 87 = .ok (.invokevirtual 104, 3) := by decide +kernel
theorem dX8_findStretches_90 : decode cX8_findStretches 90 = .ok (.iadd, 1) := by decide +kernel
theorem dX8_findStretches_91 : decode cX8_findStretches 91 = .ok (.istore_n 3, 1) := by decide +kernel
theorem dX8_findStretches_92 : decode cX8_findStretches 92 = .ok (.iinc 4 1, 3) := by decide +kernel
theorem dX8_findStretches_95 : decode cX8_findStretches 95 = .ok (.goto (-85), 3) := by decide +kernel
theorem dX8_findStretches_98 : decode cX8_findStretches 98 = .ok (.return_, 1) := by decide +kernel
theorem dX8_put_0 : decode cX8_put 0 = .ok (.aload_n 0, 1) := by decide +kernel
theorem dX8_put_1 : decode cX8_put 1 = .ok (.getfield 55, 3) := by decide +kernel
theorem dX8_put_4 : decode cX8_put 4 = .ok (.ifCond .le 33, 3) := by decide +kernel
theorem dX8_put_7 : decode cX8_put 7 = .ok (.aload_n 0, 1) := by decide +kernel
theorem dX8_put_8 : decode cX8_put 8 = .ok (.getfield 15, 3) := by decide +kernel
theorem dX8_put_11 : decode cX8_put 11 = .ok (.aload_n 0, 1) := by decide +kernel
theorem dX8_put_12 : decode cX8_put 12 = .ok (.getfield 55, 3) := by decide +kernel
theorem dX8_put_15 : decode cX8_put 15 = .ok (.iconst 1, 1) := by decide +kernel
theorem dX8_put_16 : decode cX8_put 16 = .ok (.isub, 1) := by decide +kernel
theorem dX8_put_17 : decode cX8_put 17 = .ok (.iaload, 1) := by decide +kernel
theorem dX8_put_18 : decode cX8_put 18 = .ok (.iload_n 1, 1) := by decide +kernel
theorem dX8_put_19 : decode cX8_put 19 = .ok (.if_icmp .ne 18, 3) := by decide +kernel
theorem dX8_put_22 : decode cX8_put 22 = .ok (.aload_n 0, 1) := by decide +kernel
theorem dX8_put_23 : decode cX8_put 23 = .ok (.getfield 15, 3) := by decide +kernel
theorem dX8_put_26 : decode cX8_put 26 = .ok (.aload_n 0, 1) := by decide +kernel
theorem dX8_put_27 : decode cX8_put 27 = .ok (.getfield 55, 3) := by decide +kernel
theorem dX8_put_30 : decode cX8_put 30 = .ok (.iconst 1, 1) := by decide +kernel
theorem dX8_put_31 : decode cX8_put 31 = .ok (.isub, 1) := by decide +kernel
theorem dX8_put_32 : decode cX8_put 32 = .ok (.iload_n 2, 1) := by decide +kernel
theorem dX8_put_33 : decode cX8_put 33 = .ok (.iastore, 1) := by decide +kernel
theorem dX8_put_34 : decode cX8_put 34 = .ok (.goto 42, 3) := by decide +kernel
theorem dX8_put_37 : decode cX8_put 37 = .ok (.aload_n 0, 1) := by decide +kernel
theorem dX8_put_38 : decode cX8_put 38 = .ok (.getfield 55, 3) := by decide +kernel
theorem dX8_put_41 : decode cX8_put 41 = .ok (.bipush 10, 2) := by decide +kernel
theorem dX8_put_43 : decode cX8_put 43 = .ok (.if_icmp .ge 33, 3) := by decide +kernel
theorem dX8_put_46 : decode cX8_put 46 = .ok (.aload_n 0, 1) := by decide +kernel
theorem dX8_put_47 : decode cX8_put 47 = .ok (.getfield 9, 3) := by decide +kernel
theorem dX8_put_50 : decode cX8_put 50 = .ok (.aload_n 0, 1) := by decide +kernel
theorem dX8_put_51 : decode cX8_put 51 = .ok (.getfield 55, 3) := by decide +kernel
theorem dX8_put_54 : decode cX8_put 54 = .ok (.iload_n 1, 1) := by decide +kernel
theorem dX8_put_55 : decode cX8_put 55 = .ok (.iastore, 1) := by decide +kernel
theorem dX8_put_56 : decode cX8_put 56 = .ok (.aload_n 0, 1) := by decide +kernel
theorem dX8_put_57 : decode cX8_put 57 = .ok (.getfield 15, 3) := by decide +kernel
theorem dX8_put_60 : decode cX8_put 60 = .ok (.aload_n 0, 1) := by decide +kernel
theorem dX8_put_61 : decode cX8_put 61 = .ok (.getfield 55, 3) := by decide +kernel
theorem dX8_put_64 : decode cX8_put 64 = .ok (.iload_n 2, 1) := by decide +kernel
theorem dX8_put_65 : decode cX8_put 65 = .ok (.iastore, 1) := by decide +kernel
theorem dX8_put_66 : decode cX8_put 66 = .ok (.aload_n 0, 1) := by decide +kernel
theorem dX8_put_67 : decode cX8_put 67 = .ok (.dup, 1) := by decide +kernel
theorem dX8_put_68 : decode cX8_put 68 = .ok (.getfield 55, 3) := by decide +kernel
theorem dX8_put_71 : decode cX8_put 71 = .ok (.iconst 1, 1) := by decide +kernel
theorem dX8_put_72 : decode cX8_put 72 = .ok (.iadd, 1) := by decide +kernel
theorem dX8_put_73 : decode cX8_put 73 = .ok (.putfield 55, 3) := by decide +kernel
theorem dX8_put_76 : decode cX8_put 76 = .ok (.return_, 1) := by decide +kernel
theorem dX8_merge_0 : decode cX8_merge 0 = .ok (.aload_n 0, 1) := by decide +kernel
theorem dX8_merge_1 : decode cX8_merge 1 = .ok (.getfield 23, 3) := by decide +kernel
theorem dX8_merge_4 : decode cX8_merge 4 = .ok (.getfield 58, 3) := by decide +kernel
theorem dX8_merge_7 : decode cX8_merge 7 = .ok (.astore_n 1, 1) := by decide +kernel
theorem dX8_merge_8 : decode cX8_merge 8 = .ok (.iconst 0, 1) := by decide +kernel
theorem dX8_merge_9 : decode cX8_merge 9 = .ok (.istore_n 2, 1) := by decide +kernel
theorem dX8_merge_10 : decode cX8_merge 10 = .ok (.iload_n 2, 1) := by decide +kernel
theorem dX8_merge_11 : decode cX8_merge 11 = .ok (.iconst 1, 1) := by decide +kernel
theorem dX8_merge_12 : decode cX8_merge 12 = .ok (.iadd, 1) := by decide +kernel
theorem dX8_merge_13 : decode cX8_merge 13 = .ok (.aload_n 1, 1) := by decide +kernel
theorem dX8_merge_14 : decode cX8_merge 14 = .ok (.invokevirtual 67, 3) := by decide +kernel
theorem dX8_merge_17 : decode cX8_merge 17 = .ok (.if_icmp .ge 49, 3) := by decide +kernel
theorem dX8_merge_20 : decode cX8_merge 20 = .ok (.aload_n 1, 1) := by decide +kernel
theorem dX8_merge_21 : decode cX8_merge 21 = .ok (.iload_n 2, 1) := by decide +kernel
theorem dX8_merge_22 : decode cX8_merge 22 = .ok (.invokevirtual 71, 3) := by decide +kernel
theorem dX8_merge_25 : decode cX8_merge 25 = .ok (.aload_n 1, 1) := by decide +kernel
theorem dX8_merge_26 : decode cX8_merge 26 = .ok (.iload_n 2, 1) := by decide +kernel
theorem dX8_merge_27 : decode cX8_merge 27 = .ok (.iconst 1, 1) := by decide +kernel
theorem dX8_merge_28 : decode cX8_merge 28 = .ok (.iadd, 1) := by decide +kernel
theorem dX8_merge_29 : decode cX8_merge 29 = .ok (.invokevirtual 71, 3) := by decide +kernel
theorem dX8_merge_32 : decode cX8_merge 32 = .ok (.invokevirtual 114, 3) := by decide +kernel
theorem dX8_merge_35 : decode cX8_merge 35 = .ok (.ifCond .eq 25, 3) := by decide +kernel
theorem dX8_merge_38 : decode cX8_merge 38 = .ok (.aload_n 1, 1) := by decide +kernel
theorem dX8_merge_39 : decode cX8_merge 39 = .ok (.iload_n 2, 1) := by decide +kernel
theorem dX8_merge_40 : decode cX8_merge 40 = .ok (.invokevirtual 71, 3) := by decide +kernel
theorem dX8_merge_43 : decode cX8_merge 43 = .ok (.aload_n 1, 1) := by decide +kernel
theorem dX8_merge_44 : decode cX8_merge 44 = .ok (.iload_n 2, 1) := by decide +kernel
theorem dX8_merge_45 : decode cX8_merge 45 = .ok (.iconst 1, 1) := by decide +kernel
theorem dX8_merge_46 : decode cX8_merge 46 = .ok (.iadd, 1) := by decide +kernel
theorem dX8_merge_47 : decode cX8_merge 47 = .ok (.invokevirtual 71, 3) := by decide +kernel
theorem dX8_merge_50 : decode cX8_merge 50 = .ok (.invokevirtual 118, 3) := by decide +kernel
theorem dX8_merge_53 : decode cX8_merge 53 = .ok (.aload_n 1, 1) := by decide +kernel
theorem dX8_merge_54 : decode cX8_merge 54 = .ok (.iload_n 2, 1) := by decide +kernel
theorem dX8_merge_55 : decode cX8_merge 55 = .ok (.iconst 1, 1) := by decide +kernel
theorem dX8_merge_56 : decode cX8_merge 56 = .ok (.iadd, 1) := by decide +kernel
theorem dX8_merge_57 : decode cX8_merge 57 = .ok (.invokevirtual 122, 3) := by decide +kernel
theorem dX8_merge_60 : decode cX8_merge 60 = .ok (.iinc 2 1, 3) := by decide +kernel
theorem dX8_merge_63 : decode cX8_merge 63 = .ok (.goto (-53), 3) := by decide +kernel
theorem dX8_merge_66 : decode cX8_merge 66 = .ok (.return_, 1) := by decide +kernel
theorem dX8_stretch_0 : decode cX8_stretch 0 = .ok (.aload_n 0, 1) := by decide +kernel
theorem dX8_stretch_1 : decode cX8_stretch 1 = .ok (.getfield 23, 3) := by decide +kernel
theorem dX8_stretch_4 : decode cX8_stretch 4 = .ok (.getfield 75, 3) := by decide +kernel
theorem dX8_stretch_7 : decode cX8_stretch 7 = .ok (.invokevirtual 126, 3) := by decide +kernel
theorem dX8_stretch_10 : decode cX8_stretch 10 = .ok (.istore_n 1, 1) := by decide +kernel
theorem dX8_stretch_11 : decode cX8_stretch 11 = .ok (.iconst 0, 1) := by decide +kernel
theorem dX8_stretch_12 : decode cX8_stretch 12 = .ok (.istore_n 2, 1) := by decide +kernel
theorem dX8_stretch_13 : decode cX8_stretch 13 = .ok (.iload_n 2, 1) := by decide +kernel
theorem dX8_stretch_14 : decode cX8_stretch 14 = .ok (.aload_n 0, 1) := by decide +kernel
theorem dX8_stretch_15 : decode cX8_stretch 15 = .ok (.getfield 23, 3) := by decide +kernel
theorem dX8_stretch_18 : decode cX8_stretch 18 = .ok (.getfield 58, 3) := by decide +kernel
theorem dX8_stretch_21 : decode cX8_stretch 21 = .ok (.invokevirtual 67, 3) := by decide +kernel
theorem dX8_stretch_24 : decode cX8_stretch 24 = .ok (.if_icmp .ge 68, 3) := by decide +kernel
theorem dX8_stretch_27 : decode cX8_stretch 27 = .ok (.aload_n 0, 1) := by decide +kernel
theorem dX8_stretch_28 : decode cX8_stretch 28 = .ok (.getfield 23, 3) := by decide +kernel
theorem dX8_stretch_31 : decode cX8_stretch 31 = .ok (.getfield 58, 3) := by decide +kernel
theorem dX8_stretch_34 : decode cX8_stretch 34 = .ok (.iload_n 2, 1) := by decide +kernel
theorem dX8_stretch_35 : decode cX8_stretch 35 = .ok (.invokevirtual 71, 3) := by decide +kernel
theorem dX8_stretch_38 : decode cX8_stretch 38 = .ok (.astore_n 3, 1) := by decide +kernel
theorem dX8_stretch_39 : decode cX8_stretch 39 = .ok (.iload_n 1, 1) := by decide +kernel
theorem dX8_stretch_40 : decode cX8_stretch 40 = .ok (.aload_n 0, 1) := by decide +kernel
theorem dX8_stretch_41 : decode cX8_stretch 41 = .ok (.getfield 23, 3) := by decide +kernel
theorem dX8_stretch_44 : decode cX8_stretch 44 = .ok (.iload_n 2, 1) := by decide +kernel
theorem dX8_stretch_45 : decode cX8_stretch 45 = .ok (.invokevirtual 129, 3) := by decide +kernel
theorem dX8_stretch_48 : decode cX8_stretch 48 = .ok (.invokestatic 107, 3) := by decide +kernel
theorem dX8_stretch_51 : decode cX8_stretch 51 = .ok (.istore 4, 2) := by decide +kernel
theorem dX8_stretch_53 : decode cX8_stretch 53 = .ok (.aload_n 3, 1) := by decide +kernel
theorem dX8_stretch_54 : decode cX8_stretch 54 = .ok (.getfield 90, 3) := by decide +kernel
theorem dX8_stretch_57 : decode cX8_stretch 57 = .ok (.aload_n 0, 1) := by decide +kernel
theorem dX8_stretch_58 : decode cX8_stretch 58 = .ok (.getfield 23, 3) := by decide +kernel
theorem dX8_stretch_61 : decode cX8_stretch 61 = .ok (.aload_n 3, 1) := by decide +kernel
theorem dX8_stretch_62 : decode cX8_stretch 62 = .ok (.invokevirtual 132, 3) := by decide +kernel
theorem dX8_stretch_65 : decode cX8_stretch 65 = .ok (.iadd, 1) := by decide +kernel
theorem dX8_stretch_66 : decode cX8_stretch 66 = .ok (.istore 5, 2) := by decide +kernel
theorem dX8_stretch_68 : decode cX8_stretch 68 = .ok (.aload_n 3, 1) := by decide +kernel
theorem dX8_stretch_69 : decode cX8_stretch 69 = .ok (.aload_n 3, 1) := by decide +kernel
theorem dX8_stretch_70 : decode cX8_stretch 70 = .ok (.getfield 101, 3) := by decide +kernel
theorem dX8_stretch_73 : decode cX8_stretch 73 = .ok (.iload 5, 2) := by decide +kernel
theorem dX8_stretch_75 : decode cX8_stretch 75 = .ok (.iload 4, 2) := by decide +kernel
theorem dX8_stretch_77 : decode cX8_stretch 77 = .ok (.invokestatic 107, 3) := by decide +kernel
theorem dX8_stretch_80 : decode cX8_stretch 80 = .ok (.invokestatic 95, 3) := by decide +kernel
theorem dX8_stretch_83 : decode cX8_stretch 83 = .ok (.putfield 101, 3) := by decide +kernel
theorem dX8_stretch_86 : decode cX8_stretch 86 = .ok (.iinc 2 1, 3) := by decide +kernel
theorem dX8_stretch_89 : decode cX8_stretch 89 = .ok (.goto (-76), 3) := by decide +kernel
theorem dX8_stretch_92 : decode cX8_stretch 92 = .ok (.return_, 1) := by decide +kernel
theorem dX8_snap_0 : decode cX8_snap 0 = .ok (.aload_n 0, 1) := by decide +kernel
theorem dX8_snap_1 : decode cX8_snap 1 = .ok (.getfield 23, 3) := by decide +kernel
theorem dX8_snap_4 : decode cX8_snap 4 = .ok (.getfield 136, 3) := by decide +kernel
theorem dX8_snap_7 : decode cX8_snap 7 = .ok (.iconst 3, 1) := by decide +kernel
theorem dX8_snap_8 : decode cX8_snap 8 = .ok (.invokevirtual 140, 3) := by decide +kernel
theorem dX8_snap_11 : decode cX8_snap 11 = .ok (.istore_n 1, 1) := by decide +kernel
theorem dX8_snap_12 : decode cX8_snap 12 = .ok (.iconst 0, 1) := by decide +kernel
theorem dX8_snap_13 : decode cX8_snap 13 = .ok (.istore_n 2, 1) := by decide +kernel
theorem dX8_snap_14 : decode cX8_snap 14 = .ok (.iload_n 2, 1) := by decide +kernel
theorem dX8_snap_15 : decode cX8_snap 15 = .ok (.aload_n 0, 1) := by decide +kernel
theorem dX8_snap_16 : decode cX8_snap 16 = .ok (.getfield 23, 3) := by decide +kernel
theorem dX8_snap_19 : decode cX8_snap 19 = .ok (.getfield 58, 3) := by decide +kernel
theorem dX8_snap_22 : decode cX8_snap 22 = .ok (.invokevirtual 67, 3) := by decide +kernel
theorem dX8_snap_25 : decode cX8_snap 25 = .ok (.if_icmp .ge 99, 3) := by decide +kernel
theorem dX8_snap_28 : decode cX8_snap 28 = .ok (.aload_n 0, 1) := by decide +kernel
theorem dX8_snap_29 : decode cX8_snap 29 = .ok (.getfield 23, 3) := by decide +kernel
theorem dX8_snap_32 : decode cX8_snap 32 = .ok (.getfield 58, 3) := by decide +kernel
theorem dX8_snap_35 : decode cX8_snap 35 = .ok (.iload_n 2, 1) := by decide +kernel
theorem dX8_snap_36 : decode cX8_snap 36 = .ok (.invokevirtual 71, 3) := by decide +kernel
theorem dX8_snap_39 : decode cX8_snap 39 = .ok (.astore_n 3, 1) := by decide +kernel
theorem dX8_snap_40 : decode cX8_snap 40 = .ok (.aload_n 0, 1) := by decide +kernel
theorem dX8_snap_41 : decode cX8_snap 41 = .ok (.getfield 23, 3) := by decide +kernel
theorem dX8_snap_44 : decode cX8_snap 44 = .ok (.getfield 144, 3) := by decide +kernel
theorem dX8_snap_47 : decode cX8_snap 47 = .ok (.aload_n 3, 1) := by decide +kernel
theorem dX8_snap_48 : decode cX8_snap 48 = .ok (.getfield 90, 3) := by decide +kernel
theorem dX8_snap_51 : decode cX8_snap 51 = .ok (.iload_n 1, 1) := by decide +kernel
theorem dX8_snap_52 : decode cX8_snap 52 = .ok (.invokevirtual 148, 3) := by decide +kernel
theorem dX8_snap_55 : decode cX8_snap 55 = .ok (.istore 4, 2) := by decide +kernel
theorem dX8_snap_57 : decode cX8_snap 57 = .ok (.iload 4, 2) := by decide +kernel
theorem dX8_snap_59 : decode cX8_snap 59 = .ok (.bipush (-9), 2) := by decide +kernel
theorem dX8_snap_61 : decode cX8_snap 61 = .ok (.if_icmp .eq 18, 3) := by decide +kernel
theorem dX8_snap_64 : decode cX8_snap 64 = .ok (.iload 4, 2) := by decide +kernel
theorem dX8_snap_66 : decode cX8_snap 66 = .ok (.aload_n 3, 1) := by decide +kernel
theorem dX8_snap_67 : decode cX8_snap 67 = .ok (.getfield 101, 3) := by decide +kernel
theorem dX8_snap_70 : decode cX8_snap 70 = .ok (.if_icmp .ge 9, 3) := by decide +kernel
theorem dX8_snap_73 : decode cX8_snap 73 = .ok (.aload_n 3, 1) := by decide +kernel
theorem dX8_snap_74 : decode cX8_snap 74 = .ok (.iload 4, 2) := by decide +kernel
theorem dX8_snap_76 : decode cX8_snap 76 = .ok (.putfield 90, 3) := by decide +kernel
theorem dX8_snap_79 : decode cX8_snap 79 = .ok (.aload_n 0, 1) := by decide +kernel
theorem dX8_snap_80 : decode cX8_snap 80 = .ok (.getfield 23, 3) := by decide +kernel
theorem dX8_snap_83 : decode cX8_snap 83 = .ok (.getfield 144, 3) := by decide +kernel
theorem dX8_snap_86 : decode cX8_snap 86 = .ok (.aload_n 3, 1) := by decide +kernel
theorem dX8_snap_87 : decode cX8_snap 87 = .ok (.getfield 101, 3) := by decide +kernel
theorem dX8_snap_90 : decode cX8_snap 90 = .ok (.iload_n 1, 1) := by decide +kernel
theorem dX8_snap_91 : decode cX8_snap 91 = .ok (.invokevirtual 148, 3) := by decide +kernel
theorem dX8_snap_94 : decode cX8_snap 94 = .ok (.istore 4, 2) := by decide +kernel
theorem dX8_snap_96 : decode cX8_snap 96 = .ok (.iload 4, 2) := by decide +kernel
theorem dX8_snap_98 : decode cX8_snap 98 = .ok (.bipush (-9), 2) := by decide +kernel
theorem dX8_snap_100 : decode cX8_snap 100 = .ok (.if_icmp .eq 18, 3) := by decide +kernel
theorem dX8_snap_103 : decode cX8_snap 103 = .ok (.iload 4, 2) := by decide +kernel
theorem dX8_snap_105 : decode cX8_snap 105 = .ok (.aload_n 3, 1) := by decide +kernel
theorem dX8_snap_106 : decode cX8_snap 106 = .ok (.getfield 90, 3) := by decide +kernel
theorem dX8_snap_109 : decode cX8_snap 109 = .ok (.if_icmp .le 9, 3) := by decide +kernel
theorem dX8_snap_112 : decode cX8_snap 112 = .ok (.aload_n 3, 1) := by decide +kernel
theorem dX8_snap_113 : decode cX8_snap 113 = .ok (.iload 4, 2) := by decide +kernel
theorem dX8_snap_115 : decode cX8_snap 115 = .ok (.putfield 101, 3) := by decide +kernel
theorem dX8_snap_118 : decode cX8_snap 118 = .ok (.iinc 2 1, 3) := by decide +kernel
theorem dX8_snap_121 : decode cX8_snap 121 = .ok (.goto (-107), 3) := by decide +kernel
theorem dX8_snap_124 : decode cX8_snap 124 = .ok (.aload_n 0, 1) := by decide +kernel
theorem dX8_snap_125 : decode cX8_snap 125 = .ok (.getfield 23, 3) := by decide +kernel
theorem dX8_snap_128 : decode cX8_snap 128 = .ok (.getfield 58, 3) := by decide +kernel
theorem dX8_snap_131 : decode cX8_snap 131 = .ok (.invokevirtual 153, 3) := by decide +kernel
theorem dX8_snap_134 : decode cX8_snap 134 = .ok (.return_, 1) := by decide +kernel
theorem dX8_keepGaps_0 : decode cX8_keepGaps 0 = .ok (.iconst 0, 1) := by decide +kernel
theorem dX8_keepGaps_1 : decode cX8_keepGaps 1 = .ok (.istore_n 1, 1) := by decide +kernel
theorem dX8_keepGaps_2 : decode cX8_keepGaps 2 = .ok (.iload_n 1, 1) := by decide +kernel
theorem dX8_keepGaps_3 : decode cX8_keepGaps 3 = .ok (.aload_n 0, 1) := by decide +kernel
theorem dX8_keepGaps_4 : decode cX8_keepGaps 4 = .ok (.getfield 23, 3) := by decide +kernel
theorem dX8_keepGaps_7 : decode cX8_keepGaps 7 = .ok (.getfield 58, 3) := by decide +kernel
theorem dX8_keepGaps_10 : decode cX8_keepGaps 10 = .ok (.invokevirtual 67, 3) := by decide +kernel
theorem dX8_keepGaps_13 : decode cX8_keepGaps 13 = .ok (.if_icmp .ge 51, 3) := by decide +kernel
theorem dX8_keepGaps_16 : decode cX8_keepGaps 16 = .ok (.aload_n 0, 1) := by decide +kernel
theorem dX8_keepGaps_17 : decode cX8_keepGaps 17 = .ok (.getfield 23, 3) := by decide +kernel
theorem dX8_keepGaps_20 : decode cX8_keepGaps 20 = .ok (.getfield 58, 3) := by decide +kernel
theorem dX8_keepGaps_23 : decode cX8_keepGaps 23 = .ok (.iload_n 1, 1) := by decide +kernel
theorem dX8_keepGaps_24 : decode cX8_keepGaps 24 = .ok (.invokevirtual 71, 3) := by decide +kernel
theorem dX8_keepGaps_27 : decode cX8_keepGaps 27 = .ok (.astore_n 2, 1) := by decide +kernel
theorem dX8_keepGaps_28 : decode cX8_keepGaps 28 = .ok (.aload_n 0, 1) := by decide +kernel
theorem dX8_keepGaps_29 : decode cX8_keepGaps 29 = .ok (.getfield 23, 3) := by decide +kernel
theorem dX8_keepGaps_32 : decode cX8_keepGaps 32 = .ok (.iload_n 1, 1) := by decide +kernel
theorem dX8_keepGaps_33 : decode cX8_keepGaps 33 = .ok (.invokevirtual 129, 3) := by decide +kernel
theorem dX8_keepGaps_36 : decode cX8_keepGaps 36 = .ok (.aload_n 2, 1) := by decide +kernel
theorem dX8_keepGaps_37 : decode cX8_keepGaps 37 = .ok (.getfield 90, 3) := by decide +kernel
theorem dX8_keepGaps_40 : decode cX8_keepGaps 40 = .ok (.iconst 1, 1) := by decide +kernel
theorem dX8_keepGaps_41 : decode cX8_keepGaps 41 = .ok (.iadd, 1) := by decide +kernel
theorem dX8_keepGaps_42 : decode cX8_keepGaps 42 = .ok (.invokestatic 95, 3) := by decide +kernel
theorem dX8_keepGaps_45 : decode cX8_keepGaps 45 = .ok (.istore_n 3, 1) := by decide +kernel
theorem dX8_keepGaps_46 : decode cX8_keepGaps 46 = .ok (.aload_n 2, 1) := by decide +kernel
theorem dX8_keepGaps_47 : decode cX8_keepGaps 47 = .ok (.aload_n 2, 1) := by decide +kernel
theorem dX8_keepGaps_48 : decode cX8_keepGaps 48 = .ok (.getfield 101, 3) := by decide +kernel
theorem dX8_keepGaps_51 : decode cX8_keepGaps 51 = .ok (.iload_n 3, 1) := by decide +kernel
theorem dX8_keepGaps_52 : decode cX8_keepGaps 52 = .ok (.invokestatic 107, 3) := by decide +kernel
theorem dX8_keepGaps_55 : decode cX8_keepGaps 55 = .ok (.putfield 101, 3) := by decide +kernel
theorem dX8_keepGaps_58 : decode cX8_keepGaps 58 = .ok (.iinc 1 1, 3) := by decide +kernel
theorem dX8_keepGaps_61 : decode cX8_keepGaps 61 = .ok (.goto (-59), 3) := by decide +kernel
theorem dX8_keepGaps_64 : decode cX8_keepGaps 64 = .ok (.return_, 1) := by decide +kernel
theorem dX9_init_0 : decode cX9_init 0 = .ok (.aload_n 0, 1) := by decide +kernel
theorem dX9_init_1 : decode cX9_init 1 = .ok (.invokespecial 1, 3) := by decide +kernel
theorem dX9_init_4 : decode cX9_init 4 = .ok (.aload_n 0, 1) := by decide +kernel
theorem dX9_init_5 : decode cX9_init 5 = .ok (.bipush 40, 2) := by decide +kernel
theorem dX9_init_7 : decode cX9_init 7 = .ok (.newarray .byte, 2) := by decide +kernel
theorem dX9_init_9 : decode cX9_init 9 = .ok (.putfield 9, 3) := by decide +kernel
theorem dX9_init_12 : decode cX9_init 12 = .ok (.new 13, 3) := by decide +kernel
theorem dX9_init_15 : decode cX9_init 15 = .ok (.dup, 1) := by decide +kernel
theorem dX9_init_16 : decode cX9_init 16 = .ok (.iconst 0, 1) := by decide +kernel
theorem dX9_init_17 : decode cX9_init 17 = .ok (.iconst 0, 1) := by decide +kernel
theorem dX9_init_18 : decode cX9_init 18 = .ok (.newarray .byte, 2) := by decide +kernel
theorem dX9_init_20 : decode cX9_init 20 = .ok (.iconst 0, 1) := by decide +kernel
theorem dX9_init_21 : decode cX9_init 21 = .ok (.invokespecial 15, 3) := by decide +kernel
theorem dX9_init_24 : decode cX9_init 24 = .ok (.astore_n 1, 1) := by decide +kernel
theorem dX9_init_25 : decode cX9_init 25 = .ok (.aload_n 0, 1) := by decide +kernel
theorem dX9_init_26 : decode cX9_init 26 = .ok (.new 18, 3) := by decide +kernel
theorem dX9_init_29 : decode cX9_init 29 = .ok (.dup, 1) := by decide +kernel
theorem dX9_init_30 : decode cX9_init 30 = .ok (.aload_n 1, 1) := by decide +kernel
theorem dX9_init_31 : decode cX9_init 31 = .ok (.invokespecial 20, 3) := by decide +kernel
theorem dX9_init_34 : decode cX9_init 34 = .ok (.putfield 23, 3) := by decide +kernel
theorem dX9_init_37 : decode cX9_init 37 = .ok (.aload_n 0, 1) := by decide +kernel
theorem dX9_init_38 : decode cX9_init 38 = .ok (.new 27, 3) := by decide +kernel
theorem dX9_init_41 : decode cX9_init 41 = .ok (.dup, 1) := by decide +kernel
theorem dX9_init_42 : decode cX9_init 42 = .ok (.aload_n 1, 1) := by decide +kernel
theorem dX9_init_43 : decode cX9_init 43 = .ok (.invokespecial 29, 3) := by decide +kernel
theorem dX9_init_46 : decode cX9_init 46 = .ok (.putfield 30, 3) := by decide +kernel
theorem dX9_init_49 : decode cX9_init 49 = .ok (.aload_n 0, 1) := by decide +kernel
theorem dX9_init_50 : decode cX9_init 50 = .ok (.new 34, 3) := by decide +kernel
theorem dX9_init_53 : decode cX9_init 53 = .ok (.dup, 1) := by decide +kernel
theorem dX9_init_54 : decode cX9_init 54 = .ok (.aload_n 1, 1) := by decide +kernel
theorem dX9_init_55 : decode cX9_init 55 = .ok (.invokespecial 36, 3) := by decide +kernel
theorem dX9_init_58 : decode cX9_init 58 = .ok (.putfield 37, 3) := by decide +kernel
theorem dX9_init_61 : decode cX9_init 61 = .ok (.return_, 1) := by decide +kernel
theorem dX9_piece_0 : decode cX9_piece 0 = .ok (.iload_n 1, 1) := by decide +kernel
theorem dX9_piece_1 : decode cX9_piece 1 = .ok (.iconst 0, 1) := by decide +kernel
theorem dX9_piece_2 : decode cX9_piece 2 = .ok (.sipush 9999, 3) := by decide +kernel
theorem dX9_piece_5 : decode cX9_piece 5 = .ok (.invokestatic 41, 3) := by decide +kernel
theorem dX9_piece_8 : decode cX9_piece 8 = .ok (.ifCond .eq 14, 3) := by decide +kernel
theorem dX9_piece_11 : decode cX9_piece 11 = .ok (.iload_n 2, 1) := by decide +kernel
theorem dX9_piece_12 : decode cX9_piece 12 = .ok (.iconst 1, 1) := by decide +kernel
theorem dX9_piece_13 : decode cX9_piece 13 = .ok (.sipush 5000, 3) := by decide +kernel
theorem dX9_piece_16 : decode cX9_piece 16 = .ok (.invokestatic 41, 3) := by decide +kernel
theorem dX9_piece_19 : decode cX9_piece 19 = .ok (.ifCond .ne 5, 3) := by decide +kernel
theorem dX9_piece_22 : decode cX9_piece 22 = .ok (.iconst (-1), 1) := by decide +kernel
theorem dX9_piece_23 : decode cX9_piece 23 = .ok (.ireturn, 1) := by decide +kernel
theorem dX9_piece_24 : decode cX9_piece 24 = .ok (.iload_n 1, 1) := by decide +kernel
theorem dX9_piece_25 : decode cX9_piece 25 = .ok (.iload_n 2, 1) := by decide +kernel
theorem dX9_piece_26 : decode cX9_piece 26 = .ok (.iadd, 1) := by decide +kernel
theorem dX9_piece_27 : decode cX9_piece 27 = .ok (.sipush 10000, 3) := by decide +kernel
theorem dX9_piece_30 : decode cX9_piece 30 = .ok (.if_icmp .le 5, 3) := by decide +kernel
theorem dX9_piece_33 : decode cX9_piece 33 = .ok (.iconst (-1), 1) := by decide +kernel
theorem dX9_piece_34 : decode cX9_piece 34 = .ok (.ireturn, 1) := by decide +kernel
theorem dX9_piece_35 : decode cX9_piece 35 = .ok (.aload_n 0, 1) := by decide +kernel
theorem dX9_piece_36 : decode cX9_piece 36 = .ok (.getfield 23, 3) := by decide +kernel
theorem dX9_piece_39 : decode cX9_piece 39 = .ok (.getfield 45, 3) := by decide +kernel
theorem dX9_piece_42 : decode cX9_piece 42 = .ok (.invokevirtual 49, 3) := by decide +kernel
theorem dX9_piece_45 : decode cX9_piece 45 = .ok (.bipush 10, 2) := by decide +kernel
theorem dX9_piece_47 : decode cX9_piece 47 = .ok (.if_icmp .ge 21, 3) := by decide +kernel
theorem dX9_piece_50 : decode cX9_piece 50 = .ok (.aload_n 0, 1) := by decide +kernel
theorem dX9_piece_51 : decode cX9_piece 51 = .ok (.getfield 23, 3) := by decide +kernel
theorem dX9_piece_54 : decode cX9_piece 54 = .ok (.getfield 45, 3) := by decide +kernel
theorem dX9_piece_57 : decode cX9_piece 57 = .ok (.invokevirtual 55, 3) := by decide +kernel
theorem dX9_piece_60 : decode cX9_piece 60 = .ok (.iload_n 2, 1) := by decide +kernel
theorem dX9_piece_61 : decode cX9_piece 61 = .ok (.iadd, 1) := by decide +kernel
theorem dX9_piece_62 : decode cX9_piece 62 = .ok (.sipush 9999, 3) := by decide +kernel
theorem dX9_piece_65 : decode cX9_piece 65 = .ok (.if_icmp .le 6, 3) := by decide +kernel
theorem dX9_piece_68 : decode cX9_piece 68 = .ok (.bipush (-3), 2) := by decide +kernel
theorem dX9_piece_70 : decode cX9_piece 70 = .ok (.ireturn, 1) := by decide +kernel
theorem dX9_piece_71 : decode cX9_piece 71 = .ok (.aload_n 0, 1) := by decide +kernel
theorem dX9_piece_72 : decode cX9_piece 72 = .ok (.getfield 37, 3) := by decide +kernel
theorem dX9_piece_75 : decode cX9_piece 75 = .ok (.aload_n 0, 1) := by decide +kernel
theorem dX9_piece_76 : decode cX9_piece 76 = .ok (.getfield 23, 3) := by decide +kernel
theorem dX9_piece_79 : decode cX9_piece 79 = .ok (.invokevirtual 58, 3) := by decide +kernel
theorem dX9_piece_82 : decode cX9_piece 82 = .ok (.aload_n 0, 1) := by decide +kernel
theorem dX9_piece_83 : decode cX9_piece 83 = .ok (.getfield 23, 3) := by decide +kernel
theorem dX9_piece_86 : decode cX9_piece 86 = .ok (.getfield 45, 3) := by decide +kernel
theorem dX9_piece_89 : decode cX9_piece 89 = .ok (.iload_n 1, 1) := by decide +kernel
theorem dX9_piece_90 : decode cX9_piece 90 = .ok (.iload_n 2, 1) := by decide +kernel
theorem dX9_piece_91 : decode cX9_piece 91 = .ok (.invokevirtual 62, 3) := by decide +kernel
theorem dX9_piece_94 : decode cX9_piece 94 = .ok (.aload_n 0, 1) := by decide +kernel
theorem dX9_piece_95 : decode cX9_piece 95 = .ok (.getfield 23, 3) := by decide +kernel
theorem dX9_piece_98 : decode cX9_piece 98 = .ok (.getfield 45, 3) := by decide +kernel
theorem dX9_piece_101 : decode cX9_piece 101 = .ok (.invokevirtual 49, 3) := by decide +kernel
theorem dX9_piece_104 : decode cX9_piece 104 = .ok (.iconst 1, 1) := by decide +kernel
theorem dX9_piece_105 : decode cX9_piece 105 = .ok (.isub, 1) := by decide +kernel
theorem dX9_piece_106 : decode cX9_piece 106 = .ok (.ireturn, 1) := by decide +kernel
theorem dX9_pieceAt_0 : decode cX9_pieceAt 0 = .ok (.aload_n 0, 1) := by decide +kernel
theorem dX9_pieceAt_1 : decode cX9_pieceAt 1 = .ok (.getfield 23, 3) := by decide +kernel
theorem dX9_pieceAt_4 : decode cX9_pieceAt 4 = .ok (.getfield 45, 3) := by decide +kernel
theorem dX9_pieceAt_7 : decode cX9_pieceAt 7 = .ok (.iload_n 1, 1) := by decide +kernel
theorem dX9_pieceAt_8 : decode cX9_pieceAt 8 = .ok (.invokevirtual 66, 3) := by decide +kernel
theorem dX9_pieceAt_11 : decode cX9_pieceAt 11 = .ok (.ifCond .ne 5, 3) := by decide +kernel
theorem dX9_pieceAt_14 : decode cX9_pieceAt 14 = .ok (.iconst (-1), 1) := by decide +kernel
theorem dX9_pieceAt_15 : decode cX9_pieceAt 15 = .ok (.ireturn, 1) := by decide +kernel
theorem dX9_pieceAt_16 : decode cX9_pieceAt 16 = .ok (.iload_n 2, 1) := by decide +kernel
theorem dX9_pieceAt_17 : decode cX9_pieceAt 17 = .ok (.tableswitch 63 0 2 #[27, 39, 51], 27) := by decide +kernel
theorem dX9_pieceAt_44 : decode cX9_pieceAt 44 = .ok (.aload_n 0, 1) := by decide +kernel
theorem dX9_pieceAt_45 : decode cX9_pieceAt 45 = .ok (.getfield 23, 3) := by decide +kernel
theorem dX9_pieceAt_48 : decode cX9_pieceAt 48 = .ok (.getfield 45, 3) := by decide +kernel
theorem dX9_pieceAt_51 : decode cX9_pieceAt 51 = .ok (.iload_n 1, 1) := by decide +kernel
theorem dX9_pieceAt_52 : decode cX9_pieceAt 52 = .ok (.invokevirtual 74, 3) := by decide +kernel
theorem dX9_pieceAt_55 : decode cX9_pieceAt 55 = .ok (.ireturn, 1) := by decide +kernel
theorem dX9_pieceAt_56 : decode cX9_pieceAt 56 = .ok (.aload_n 0, 1) := by decide +kernel
theorem dX9_pieceAt_57 : decode cX9_pieceAt 57 = .ok (.getfield 23, 3) := by decide +kernel
theorem dX9_pieceAt_60 : decode cX9_pieceAt 60 = .ok (.getfield 45, 3) := by decide +kernel
theorem dX9_pieceAt_63 : decode cX9_pieceAt 63 = .ok (.iload_n 1, 1) := by decide +kernel
theorem dX9_pieceAt_64 : decode cX9_pieceAt 64 = .ok (.invokevirtual 78, 3) := by decide +kernel
theorem dX9_pieceAt_67 : decode cX9_pieceAt 67 = .ok (.ireturn, 1) := by decide +kernel
theorem dX9_pieceAt_68 : decode cX9_pieceAt 68 = .ok (.aload_n 0, 1) := by decide +kernel
theorem dX9_pieceAt_69 : decode cX9_pieceAt 69 = .ok (.getfield 23, 3) := by decide +kernel
theorem dX9_pieceAt_72 : decode cX9_pieceAt 72 = .ok (.getfield 45, 3) := by decide +kernel
theorem dX9_pieceAt_75 : decode cX9_pieceAt 75 = .ok (.iload_n 1, 1) := by decide +kernel
theorem dX9_pieceAt_76 : decode cX9_pieceAt 76 = .ok (.invokevirtual 81, 3) := by decide +kernel
theorem dX9_pieceAt_79 : decode cX9_pieceAt 79 = .ok (.ireturn, 1) := by decide +kernel
theorem dX9_pieceAt_80 : decode cX9_pieceAt 80 = .ok (.iconst (-1), 1) := by decide +kernel
theorem dX9_pieceAt_81 : decode cX9_pieceAt 81 = .ok (.ireturn, 1) := by decide +kernel
theorem dX9_shot_0 : decode cX9_shot 0 = .ok (.iload_n 1, 1) := by decide +kernel
theorem dX9_shot_1 : decode cX9_shot 1 = .ok (.iconst 1, 1) := by decide +kernel
theorem dX9_shot_2 : decode cX9_shot 2 = .ok (.sipush 9998, 3) := by decide +kernel
theorem dX9_shot_5 : decode cX9_shot 5 = .ok (.invokestatic 41, 3) := by decide +kernel
theorem dX9_shot_8 : decode cX9_shot 8 = .ok (.ifCond .ne 5, 3) := by decide +kernel
theorem dX9_shot_11 : decode cX9_shot 11 = .ok (.iconst (-1), 1) := by decide +kernel
theorem dX9_shot_12 : decode cX9_shot 12 = .ok (.ireturn, 1) := by decide +kernel
theorem dX9_shot_13 : decode cX9_shot 13 = .ok (.iload_n 2, 1) := by decide +kernel
theorem dX9_shot_14 : decode cX9_shot 14 = .ok (.ifCond .eq 35, 3) := by decide +kernel
theorem dX9_shot_17 : decode cX9_shot 17 = .ok (.aload_n 0, 1) := by decide +kernel
theorem dX9_shot_18 : decode cX9_shot 18 = .ok (.getfield 23, 3) := by decide +kernel
theorem dX9_shot_21 : decode cX9_shot 21 = .ok (.getfield 84, 3) := by decide +kernel
theorem dX9_shot_24 : decode cX9_shot 24 = .ok (.iload_n 1, 1) := by decide +kernel
theorem dX9_shot_25 : decode cX9_shot 25 = .ok (.invokevirtual 88, 3) := by decide +kernel
theorem dX9_shot_28 : decode cX9_shot 28 = .ok (.ifCond .ne 21, 3) := by decide +kernel
theorem dX9_shot_31 : decode cX9_shot 31 = .ok (.aload_n 0, 1) := by decide +kernel
theorem dX9_shot_32 : decode cX9_shot 32 = .ok (.getfield 23, 3) := by decide +kernel
theorem dX9_shot_35 : decode cX9_shot 35 = .ok (.getfield 84, 3) := by decide +kernel
theorem dX9_shot_38 : decode cX9_shot 38 = .ok (.invokevirtual 91, 3) := by decide +kernel
theorem dX9_shot_41 : decode cX9_shot 41 = .ok (.bipush 20, 2) := by decide +kernel
theorem dX9_shot_43 : decode cX9_shot 43 = .ok (.if_icmp .lt 6, 3) := by decide +kernel
theorem dX9_shot_46 : decode cX9_shot 46 = .ok (.bipush (-3), 2) := by decide +kernel
theorem dX9_shot_48 : decode cX9_shot 48 = .ok (.ireturn, 1) := by decide +kernel
theorem dX9_shot_49 : decode cX9_shot 49 = .ok (.aload_n 0, 1) := by decide +kernel
theorem dX9_shot_50 : decode cX9_shot 50 = .ok (.getfield 37, 3) := by decide +kernel
theorem dX9_shot_53 : decode cX9_shot 53 = .ok (.aload_n 0, 1) := by decide +kernel
theorem dX9_shot_54 : decode cX9_shot 54 = .ok (.getfield 23, 3) := by decide +kernel
theorem dX9_shot_57 : decode cX9_shot 57 = .ok (.invokevirtual 58, 3) := by decide +kernel
theorem dX9_shot_60 : decode cX9_shot 60 = .ok (.iload_n 2, 1) := by decide +kernel
theorem dX9_shot_61 : decode cX9_shot 61 = .ok (.ifCond .eq 17, 3) := by decide +kernel
theorem dX9_shot_64 : decode cX9_shot 64 = .ok (.aload_n 0, 1) := by decide +kernel
theorem dX9_shot_65 : decode cX9_shot 65 = .ok (.getfield 23, 3) := by decide +kernel
theorem dX9_shot_68 : decode cX9_shot 68 = .ok (.getfield 84, 3) := by decide +kernel
theorem dX9_shot_71 : decode cX9_shot 71 = .ok (.iload_n 1, 1) := by decide +kernel
theorem dX9_shot_72 : decode cX9_shot 72 = .ok (.invokevirtual 92, 3) := by decide +kernel
theorem dX9_shot_75 : decode cX9_shot 75 = .ok (.goto 14, 3) := by decide +kernel
theorem dX9_shot_78 : decode cX9_shot 78 = .ok (.aload_n 0, 1) := by decide +kernel
theorem dX9_shot_79 : decode cX9_shot 79 = .ok (.getfield 23, 3) := by decide +kernel
theorem dX9_shot_82 : decode cX9_shot 82 = .ok (.getfield 84, 3) := by decide +kernel
theorem dX9_shot_85 : decode cX9_shot 85 = .ok (.iload_n 1, 1) := by decide +kernel
theorem dX9_shot_86 : decode cX9_shot 86 = .ok (.invokevirtual 95, 3) := by decide +kernel
theorem dX9_shot_89 : decode cX9_shot 89 = .ok (.aload_n 0, 1) := by decide +kernel
theorem dX9_shot_90 : decode cX9_shot 90 = .ok (.getfield 23, 3) := by decide +kernel
theorem dX9_shot_93 : decode cX9_shot 93 = .ok (.getfield 84, 3) := by decide +kernel
theorem dX9_shot_96 : decode cX9_shot 96 = .ok (.invokevirtual 91, 3) := by decide +kernel
theorem dX9_shot_99 : decode cX9_shot 99 = .ok (.ireturn, 1) := by decide +kernel
theorem dX9_shotAt_0 : decode cX9_shotAt 0 = .ok (.iload_n 1, 1) := by decide +kernel
theorem dX9_shotAt_1 : decode cX9_shotAt 1 = .ok (.ifCond .ge 7, 3) := by decide +kernel
theorem dX9_shotAt_4 : decode cX9_shotAt 4 = .ok (.iconst (-1), 1) := by decide +kernel
theorem dX9_shotAt_5 : decode cX9_shotAt 5 = .ok (.goto 14, 3) := by decide +kernel
theorem dX9_shotAt_8 : decode cX9_shotAt 8 = .ok (.aload_n 0, 1) := by decide +kernel
theorem dX9_shotAt_9 : decode cX9_shotAt 9 = .ok (.getfield 23, 3) := by decide +kernel
theorem dX9_shotAt_12 : decode cX9_shotAt 12 = .ok (.getfield 84, 3) := by decide +kernel
theorem dX9_shotAt_15 : decode cX9_shotAt 15 = .ok (.iload_n 1, 1) := by decide +kernel
theorem dX9_shotAt_16 : decode cX9_shotAt 16 = .ok (.invokevirtual 96, 3) := by decide +kernel
theorem dX9_shotAt_19 : decode cX9_shotAt 19 = .ok (.ireturn, 1) := by decide +kernel
theorem dX9_toNew_0 : decode cX9_toNew 0 = .ok (.iload_n 1, 1) := by decide +kernel
theorem dX9_toNew_1 : decode cX9_toNew 1 = .ok (.iconst 0, 1) := by decide +kernel
theorem dX9_toNew_2 : decode cX9_toNew 2 = .ok (.sipush 9999, 3) := by decide +kernel
theorem dX9_toNew_5 : decode cX9_toNew 5 = .ok (.invokestatic 41, 3) := by decide +kernel
theorem dX9_toNew_8 : decode cX9_toNew 8 = .ok (.ifCond .eq 7, 3) := by decide +kernel
theorem dX9_toNew_11 : decode cX9_toNew 11 = .ok (.iload_n 2, 1) := by decide +kernel
theorem dX9_toNew_12 : decode cX9_toNew 12 = .ok (.ifCond .ge 5, 3) := by decide +kernel
theorem dX9_toNew_15 : decode cX9_toNew 15 = .ok (.iconst (-1), 1) := by decide +kernel
theorem dX9_toNew_16 : decode cX9_toNew 16 = .ok (.ireturn, 1) := by decide +kernel
theorem dX9_toNew_17 : decode cX9_toNew 17 = .ok (.aload_n 0, 1) := by decide +kernel
theorem dX9_toNew_18 : decode cX9_toNew 18 = .ok (.getfield 23, 3) := by decide +kernel
theorem dX9_toNew_21 : decode cX9_toNew 21 = .ok (.getfield 45, 3) := by decide +kernel
theorem dX9_toNew_24 : decode cX9_toNew 24 = .ok (.iload_n 1, 1) := by decide +kernel
theorem dX9_toNew_25 : decode cX9_toNew 25 = .ok (.iload_n 2, 1) := by decide +kernel
theorem dX9_toNew_26 : decode cX9_toNew 26 = .ok (.invokevirtual 99, 3) := by decide +kernel
theorem dX9_toNew_29 : decode cX9_toNew 29 = .ok (.ireturn, 1) := by decide +kernel
theorem dX9_toOld_0 : decode cX9_toOld 0 = .ok (.iload_n 1, 1) := by decide +kernel
theorem dX9_toOld_1 : decode cX9_toOld 1 = .ok (.iconst 0, 1) := by decide +kernel
theorem dX9_toOld_2 : decode cX9_toOld 2 = .ok (.sipush 9999, 3) := by decide +kernel
theorem dX9_toOld_5 : decode cX9_toOld 5 = .ok (.invokestatic 41, 3) := by decide +kernel
theorem dX9_toOld_8 : decode cX9_toOld 8 = .ok (.ifCond .eq 17, 3) := by decide +kernel
theorem dX9_toOld_11 : decode cX9_toOld 11 = .ok (.aload_n 0, 1) := by decide +kernel
theorem dX9_toOld_12 : decode cX9_toOld 12 = .ok (.getfield 23, 3) := by decide +kernel
theorem dX9_toOld_15 : decode cX9_toOld 15 = .ok (.getfield 45, 3) := by decide +kernel
theorem dX9_toOld_18 : decode cX9_toOld 18 = .ok (.iload_n 1, 1) := by decide +kernel
theorem dX9_toOld_19 : decode cX9_toOld 19 = .ok (.invokevirtual 103, 3) := by decide +kernel
theorem dX9_toOld_22 : decode cX9_toOld 22 = .ok (.goto 4, 3) := by decide +kernel
theorem dX9_toOld_25 : decode cX9_toOld 25 = .ok (.iconst (-1), 1) := by decide +kernel
theorem dX9_toOld_26 : decode cX9_toOld 26 = .ok (.ireturn, 1) := by decide +kernel
theorem dX9_type_0 : decode cX9_type 0 = .ok (.iload_n 1, 1) := by decide +kernel
theorem dX9_type_1 : decode cX9_type 1 = .ok (.bipush 32, 2) := by decide +kernel
theorem dX9_type_3 : decode cX9_type 3 = .ok (.bipush 126, 2) := by decide +kernel
theorem dX9_type_5 : decode cX9_type 5 = .ok (.invokestatic 41, 3) := by decide +kernel
theorem dX9_type_8 : decode cX9_type 8 = .ok (.ifCond .ne 5, 3) := by decide +kernel
theorem dX9_type_11 : decode cX9_type 11 = .ok (.iconst (-1), 1) := by decide +kernel
theorem dX9_type_12 : decode cX9_type 12 = .ok (.ireturn, 1) := by decide +kernel
theorem dX9_type_13 : decode cX9_type 13 = .ok (.aload_n 0, 1) := by decide +kernel
theorem dX9_type_14 : decode cX9_type 14 = .ok (.getfield 106, 3) := by decide +kernel
theorem dX9_type_17 : decode cX9_type 17 = .ok (.ifCond .lt 15, 3) := by decide +kernel
theorem dX9_type_20 : decode cX9_type 20 = .ok (.aload_n 0, 1) := by decide +kernel
theorem dX9_type_21 : decode cX9_type 21 = .ok (.getfield 106, 3) := by decide +kernel
theorem dX9_type_24 : decode cX9_type 24 = .ok (.aload_n 0, 1) := by decide +kernel
theorem dX9_type_25 : decode cX9_type 25 = .ok (.getfield 9, 3) := by decide +kernel
theorem dX9_type_28 : decode cX9_type 28 = .ok (.arraylength, 1) := by decide +kernel
theorem dX9_type_29 : decode cX9_type 29 = .ok (.if_icmp .lt 6, 3) := by decide +kernel
theorem dX9_type_32 : decode cX9_type 32 = .ok (.bipush (-3), 2) := by decide +kernel
theorem dX9_type_34 : decode cX9_type 34 = .ok (.ireturn, 1) := by decide +kernel
theorem dX9_type_35 : decode cX9_type 35 = .ok (.aload_n 0, 1) := by decide +kernel
theorem dX9_type_36 : decode cX9_type 36 = .ok (.getfield 9, 3) := by decide +kernel
theorem dX9_type_39 : decode cX9_type 39 = .ok (.aload_n 0, 1) := by decide +kernel
theorem dX9_type_40 : decode cX9_type 40 = .ok (.getfield 106, 3) := by decide +kernel
theorem dX9_type_43 : decode cX9_type 43 = .ok (.iload_n 1, 1) := by decide +kernel
theorem dX9_type_44 : decode cX9_type 44 = .ok (.i2b, 1) := by decide +kernel
theorem dX9_type_45 : decode cX9_type 45 = .ok (.bastore, 1) := by decide +kernel
theorem dX9_type_46 : decode cX9_type 46 = .ok (.aload_n 0, 1) := by decide +kernel
theorem dX9_type_47 : decode cX9_type 47 = .ok (.dup, 1) := by decide +kernel
theorem dX9_type_48 : decode cX9_type 48 = .ok (.getfield 106, 3) := by decide +kernel
theorem dX9_type_51 : decode cX9_type 51 = .ok (.iconst 1, 1) := by decide +kernel
theorem dX9_type_52 : decode cX9_type 52 = .ok (.iadd, 1) := by decide +kernel
theorem dX9_type_53 : decode cX9_type 53 = .ok (.putfield 106, 3) := by decide +kernel
theorem dX9_type_56 : decode cX9_type 56 = .ok (.aload_n 0, 1) := by decide +kernel
theorem dX9_type_57 : decode cX9_type 57 = .ok (.getfield 106, 3) := by decide +kernel
theorem dX9_type_60 : decode cX9_type 60 = .ok (.ireturn, 1) := by decide +kernel
theorem dX9_clear_0 : decode cX9_clear 0 = .ok (.aload_n 0, 1) := by decide +kernel
theorem dX9_clear_1 : decode cX9_clear 1 = .ok (.getfield 106, 3) := by decide +kernel
theorem dX9_clear_4 : decode cX9_clear 4 = .ok (.istore_n 1, 1) := by decide +kernel
theorem dX9_clear_5 : decode cX9_clear 5 = .ok (.aload_n 0, 1) := by decide +kernel
theorem dX9_clear_6 : decode cX9_clear 6 = .ok (.iconst 0, 1) := by decide +kernel
theorem dX9_clear_7 : decode cX9_clear 7 = .ok (.putfield 106, 3) := by decide +kernel
theorem dX9_clear_10 : decode cX9_clear 10 = .ok (.iload_n 1, 1) := by decide +kernel
theorem dX9_clear_11 : decode cX9_clear 11 = .ok (.ireturn, 1) := by decide +kernel
theorem dX9_add_0 : decode cX9_add 0 = .ok (.iload_n 1, 1) := by decide +kernel
theorem dX9_add_1 : decode cX9_add 1 = .ok (.iload_n 2, 1) := by decide +kernel
theorem dX9_add_2 : decode cX9_add 2 = .ok (.invokestatic 110, 3) := by decide +kernel
theorem dX9_add_5 : decode cX9_add 5 = .ok (.ifCond .eq 12, 3) := by decide +kernel
theorem dX9_add_8 : decode cX9_add 8 = .ok (.iload_n 3, 1) := by decide +kernel
theorem dX9_add_9 : decode cX9_add 9 = .ok (.iconst 0, 1) := by decide +kernel
theorem dX9_add_10 : decode cX9_add 10 = .ok (.iconst 3, 1) := by decide +kernel
theorem dX9_add_11 : decode cX9_add 11 = .ok (.invokestatic 41, 3) := by decide +kernel
theorem dX9_add_14 : decode cX9_add 14 = .ok (.ifCond .ne 5, 3) := by decide +kernel
theorem dX9_add_17 : decode cX9_add 17 = .ok (.iconst (-1), 1) := by decide +kernel
theorem dX9_add_18 : decode cX9_add 18 = .ok (.ireturn, 1) := by decide +kernel
theorem dX9_add_19 : decode cX9_add 19 = .ok (.aload_n 0, 1) := by decide +kernel
theorem dX9_add_20 : decode cX9_add 20 = .ok (.getfield 23, 3) := by decide +kernel
theorem dX9_add_23 : decode cX9_add 23 = .ok (.getfield 114, 3) := by decide +kernel
theorem dX9_add_26 : decode cX9_add 26 = .ok (.invokevirtual 118, 3) := by decide +kernel
theorem dX9_add_29 : decode cX9_add 29 = .ok (.ifCond .eq 6, 3) := by decide +kernel
theorem dX9_add_32 : decode cX9_add 32 = .ok (.bipush (-3), 2) := by decide +kernel
theorem dX9_add_34 : decode cX9_add 34 = .ok (.ireturn, 1) := by decide +kernel
theorem dX9_add_35 : decode cX9_add 35 = .ok (.aload_n 0, 1) := by decide +kernel
theorem dX9_add_36 : decode cX9_add 36 = .ok (.getfield 106, 3) := by decide +kernel
theorem dX9_add_39 : decode cX9_add 39 = .ok (.ifCond .ne 6, 3) := by decide +kernel
theorem dX9_add_42 : decode cX9_add 42 = .ok (.bipush (-10), 2) := by decide +kernel
theorem dX9_add_44 : decode cX9_add 44 = .ok (.ireturn, 1) := by decide +kernel
theorem dX9_add_45 : decode cX9_add 45 = .ok (.aload_n 0, 1) := by decide +kernel
theorem dX9_add_46 : decode cX9_add 46 = .ok (.invokevirtual 124, 3) := by decide +kernel
theorem dX9_add_49 : decode cX9_add 49 = .ok (.istore 4, 2) := by decide +kernel
theorem dX9_add_51 : decode cX9_add 51 = .ok (.iload 4, 2) := by decide +kernel
theorem dX9_add_53 : decode cX9_add 53 = .ok (.bipush (-9), 2) := by decide +kernel
theorem dX9_add_55 : decode cX9_add 55 = .ok (.if_icmp .eq 9, 3) := by decide +kernel
theorem dX9_add_58 : decode cX9_add 58 = .ok (.bipush (-10), 2) := by decide +kernel
theorem dX9_add_60 : decode cX9_add 60 = .ok (.iload 4, 2) := by decide +kernel
theorem dX9_add_62 : decode cX9_add 62 = .ok (.isub, 1) := by decide +kernel
theorem dX9_add_63 : decode cX9_add 63 = .ok (.ireturn, 1) := by decide +kernel
theorem dX9_add_64 : decode cX9_add 64 = .ok (.aload_n 0, 1) := by decide +kernel
theorem dX9_add_65 : decode cX9_add 65 = .ok (.getfield 37, 3) := by decide +kernel
theorem dX9_add_68 : decode cX9_add 68 = .ok (.aload_n 0, 1) := by decide +kernel
theorem dX9_add_69 : decode cX9_add 69 = .ok (.getfield 23, 3) := by decide +kernel
theorem dX9_add_72 : decode cX9_add 72 = .ok (.invokevirtual 58, 3) := by decide +kernel
theorem dX9_add_75 : decode cX9_add 75 = .ok (.aload_n 0, 1) := by decide +kernel
theorem dX9_add_76 : decode cX9_add 76 = .ok (.getfield 23, 3) := by decide +kernel
theorem dX9_add_79 : decode cX9_add 79 = .ok (.getfield 114, 3) := by decide +kernel
theorem dX9_add_82 : decode cX9_add 82 = .ok (.iload_n 1, 1) := by decide +kernel
theorem dX9_add_83 : decode cX9_add 83 = .ok (.iload_n 2, 1) := by decide +kernel
theorem dX9_add_84 : decode cX9_add 84 = .ok (.new 13, 3) := by decide +kernel
theorem dX9_add_87 : decode cX9_add 87 = .ok (.dup, 1) := by decide +kernel
theorem dX9_add_88 : decode cX9_add 88 = .ok (.iload_n 3, 1) := by decide +kernel
theorem dX9_add_89 : decode cX9_add 89 = .ok (.aload_n 0, 1) := by decide +kernel
theorem dX9_add_90 : decode cX9_add 90 = .ok (.getfield 9, 3) := by decide +kernel
theorem dX9_add_93 : decode cX9_add 93 = .ok (.aload_n 0, 1) := by decide +kernel
theorem dX9_add_94 : decode cX9_add 94 = .ok (.getfield 106, 3) := by decide +kernel
theorem dX9_add_97 : decode cX9_add 97 = .ok (.invokespecial 15, 3) := by decide +kernel
theorem dX9_add_100 : decode cX9_add 100 = .ok (.invokevirtual 127, 3) := by decide +kernel
theorem dX9_add_103 : decode cX9_add 103 = .ok (.ireturn, 1) := by decide +kernel
theorem dX9_subtitle_0 : decode cX9_subtitle 0 = .ok (.aload_n 0, 1) := by decide +kernel
theorem dX9_subtitle_1 : decode cX9_subtitle 1 = .ok (.getfield 23, 3) := by decide +kernel
theorem dX9_subtitle_4 : decode cX9_subtitle 4 = .ok (.getfield 114, 3) := by decide +kernel
theorem dX9_subtitle_7 : decode cX9_subtitle 7 = .ok (.iload_n 1, 1) := by decide +kernel
theorem dX9_subtitle_8 : decode cX9_subtitle 8 = .ok (.invokevirtual 130, 3) := by decide +kernel
theorem dX9_subtitle_11 : decode cX9_subtitle 11 = .ok (.ifCond .ne 5, 3) := by decide +kernel
theorem dX9_subtitle_14 : decode cX9_subtitle 14 = .ok (.iconst (-1), 1) := by decide +kernel
theorem dX9_subtitle_15 : decode cX9_subtitle 15 = .ok (.ireturn, 1) := by decide +kernel
theorem dX9_subtitle_16 : decode cX9_subtitle 16 = .ok (.aload_n 0, 1) := by decide +kernel
theorem dX9_subtitle_17 : decode cX9_subtitle 17 = .ok (.getfield 23, 3) := by decide +kernel
theorem dX9_subtitle_20 : decode cX9_subtitle 20 = .ok (.getfield 114, 3) := by decide +kernel
theorem dX9_subtitle_23 : decode cX9_subtitle 23 = .ok (.iload_n 1, 1) := by decide +kernel
theorem dX9_subtitle_24 : decode cX9_subtitle 24 = .ok (.invokevirtual 137, 3) := by decide +kernel
theorem dX9_subtitle_27 : decode cX9_subtitle 27 = .ok (.astore_n 3, 1) := by decide +kernel
theorem dX9_subtitle_28 : decode cX9_subtitle 28 = .ok (.iload_n 2, 1) := by decide +kernel
theorem dX9_subtitle_29 : decode cX9_subtitle 29 = .ok (.tableswitch 93 0 6 #[43, 48, 53, 58, 63, 72, 81], 43) := by decide +kernel
theorem dX9_subtitle_72 : decode cX9_subtitle 72 = .ok (.aload_n 3, 1) := by decide +kernel
theorem dX9_subtitle_73 : decode cX9_subtitle 73 = .ok (.getfield 140, 3) := by decide +kernel
theorem dX9_subtitle_76 : decode cX9_subtitle 76 = .ok (.ireturn, 1) := by decide +kernel
theorem dX9_subtitle_77 : decode cX9_subtitle 77 = .ok (.aload_n 3, 1) := by decide +kernel
theorem dX9_subtitle_78 : decode cX9_subtitle 78 = .ok (.getfield 145, 3) := by decide +kernel
theorem dX9_subtitle_81 : decode cX9_subtitle 81 = .ok (.ireturn, 1) := by decide +kernel
theorem dX9_subtitle_82 : decode cX9_subtitle 82 = .ok (.aload_n 3, 1) := by decide +kernel
theorem dX9_subtitle_83 : decode cX9_subtitle 83 = .ok (.getfield 148, 3) := by decide +kernel
theorem dX9_subtitle_86 : decode cX9_subtitle 86 = .ok (.ireturn, 1) := by decide +kernel
theorem dX9_subtitle_87 : decode cX9_subtitle 87 = .ok (.aload_n 3, 1) := by decide +kernel
theorem dX9_subtitle_88 : decode cX9_subtitle 88 = .ok (.invokevirtual 151, 3) := by decide +kernel
theorem dX9_subtitle_91 : decode cX9_subtitle 91 = .ok (.ireturn, 1) := by decide +kernel
theorem dX9_subtitle_92 : decode cX9_subtitle 92 = .ok (.aload_n 0, 1) := by decide +kernel
theorem dX9_subtitle_93 : decode cX9_subtitle 93 = .ok (.getfield 23, 3) := by decide +kernel
theorem dX9_subtitle_96 : decode cX9_subtitle 96 = .ok (.aload_n 3, 1) := by decide +kernel
theorem dX9_subtitle_97 : decode cX9_subtitle 97 = .ok (.invokevirtual 154, 3) := by decide +kernel
theorem dX9_subtitle_100 : decode cX9_subtitle 100 = .ok (.ireturn, 1) := by decide +kernel
theorem dX9_subtitle_101 : decode cX9_subtitle 101 = .ok (.aload_n 0, 1) := by decide +kernel
theorem dX9_subtitle_102 : decode cX9_subtitle 102 = .ok (.getfield 23, 3) := by decide +kernel
theorem dX9_subtitle_105 : decode cX9_subtitle 105 = .ok (.iload_n 1, 1) := by decide +kernel
theorem dX9_subtitle_106 : decode cX9_subtitle 106 = .ok (.invokevirtual 158, 3) := by decide +kernel
theorem dX9_subtitle_109 : decode cX9_subtitle 109 = .ok (.ireturn, 1) := by decide +kernel
theorem dX9_subtitle_110 : decode cX9_subtitle 110 = .ok (.aload_n 0, 1) := by decide +kernel
theorem dX9_subtitle_111 : decode cX9_subtitle 111 = .ok (.getfield 23, 3) := by decide +kernel
theorem dX9_subtitle_114 : decode cX9_subtitle 114 = .ok (.getfield 114, 3) := by decide +kernel
theorem dX9_subtitle_117 : decode cX9_subtitle 117 = .ok (.iload_n 1, 1) := by decide +kernel
theorem dX9_subtitle_118 : decode cX9_subtitle 118 = .ok (.invokevirtual 161, 3) := by decide +kernel
theorem dX9_subtitle_121 : decode cX9_subtitle 121 = .ok (.ireturn, 1) := by decide +kernel
theorem dX9_subtitle_122 : decode cX9_subtitle 122 = .ok (.iconst (-1), 1) := by decide +kernel
theorem dX9_subtitle_123 : decode cX9_subtitle 123 = .ok (.ireturn, 1) := by decide +kernel
theorem dX9_part_0 : decode cX9_part 0 = .ok (.aload_n 0, 1) := by decide +kernel
theorem dX9_part_1 : decode cX9_part 1 = .ok (.getfield 23, 3) := by decide +kernel
theorem dX9_part_4 : decode cX9_part 4 = .ok (.getfield 114, 3) := by decide +kernel
theorem dX9_part_7 : decode cX9_part 7 = .ok (.iload_n 1, 1) := by decide +kernel
theorem dX9_part_8 : decode cX9_part 8 = .ok (.invokevirtual 130, 3) := by decide +kernel
theorem dX9_part_11 : decode cX9_part 11 = .ok (.ifCond .eq 12, 3) := by decide +kernel
theorem dX9_part_14 : decode cX9_part 14 = .ok (.iload_n 2, 1) := by decide +kernel
theorem dX9_part_15 : decode cX9_part 15 = .ok (.iconst 0, 1) := by decide +kernel
theorem dX9_part_16 : decode cX9_part 16 = .ok (.iconst 1, 1) := by decide +kernel
theorem dX9_part_17 : decode cX9_part 17 = .ok (.invokestatic 41, 3) := by decide +kernel
theorem dX9_part_20 : decode cX9_part 20 = .ok (.ifCond .ne 5, 3) := by decide +kernel
theorem dX9_part_23 : decode cX9_part 23 = .ok (.iconst (-1), 1) := by decide +kernel
theorem dX9_part_24 : decode cX9_part 24 = .ok (.ireturn, 1) := by decide +kernel
theorem dX9_part_25 : decode cX9_part 25 = .ok (.iload_n 3, 1) := by decide +kernel
theorem dX9_part_26 : decode cX9_part 26 = .ok (.ifCond .lt 14, 3) := by decide +kernel
theorem dX9_part_29 : decode cX9_part 29 = .ok (.iload_n 3, 1) := by decide +kernel
theorem dX9_part_30 : decode cX9_part 30 = .ok (.iconst 3, 1) := by decide +kernel
theorem dX9_part_31 : decode cX9_part 31 = .ok (.if_icmp .le 11, 3) := by decide +kernel
theorem dX9_part_34 : decode cX9_part 34 = .ok (.iload_n 3, 1) := by decide +kernel
theorem dX9_part_35 : decode cX9_part 35 = .ok (.bipush 10, 2) := by decide +kernel
theorem dX9_part_37 : decode cX9_part 37 = .ok (.if_icmp .ge 5, 3) := by decide +kernel
theorem dX9_part_40 : decode cX9_part 40 = .ok (.iconst (-1), 1) := by decide +kernel
theorem dX9_part_41 : decode cX9_part 41 = .ok (.ireturn, 1) := by decide +kernel
theorem dX9_part_42 : decode cX9_part 42 = .ok (.aload_n 0, 1) := by decide +kernel
theorem dX9_part_43 : decode cX9_part 43 = .ok (.getfield 23, 3) := by decide +kernel
theorem dX9_part_46 : decode cX9_part 46 = .ok (.getfield 114, 3) := by decide +kernel
theorem dX9_part_49 : decode cX9_part 49 = .ok (.iload_n 1, 1) := by decide +kernel
theorem dX9_part_50 : decode cX9_part 50 = .ok (.invokevirtual 137, 3) := by decide +kernel
theorem dX9_part_53 : decode cX9_part 53 = .ok (.astore 4, 2) := by decide +kernel
theorem dX9_part_55 : decode cX9_part 55 = .ok (.iload_n 2, 1) := by decide +kernel
theorem dX9_part_56 : decode cX9_part 56 = .ok (.aload 4, 2) := by decide +kernel
theorem dX9_part_58 : decode cX9_part 58 = .ok (.getfield 148, 3) := by decide +kernel
theorem dX9_part_61 : decode cX9_part 61 = .ok (.if_icmp .lt 6, 3) := by decide +kernel
theorem dX9_part_64 : decode cX9_part 64 = .ok (.bipush (-9), 2) := by decide +kernel
theorem dX9_part_66 : decode cX9_part 66 = .ok (.ireturn, 1) := by decide +kernel
theorem dX9_part_67 : decode cX9_part 67 = .ok (.iload_n 2, 1) := by decide +kernel
theorem dX9_part_68 : decode cX9_part 68 = .ok (.ifCond .ne 11, 3) := by decide +kernel
theorem dX9_part_71 : decode cX9_part 71 = .ok (.aload 4, 2) := by decide +kernel
theorem dX9_part_73 : decode cX9_part 73 = .ok (.getfield 164, 3) := by decide +kernel
theorem dX9_part_76 : decode cX9_part 76 = .ok (.goto 8, 3) := by decide +kernel
theorem dX9_part_79 : decode cX9_part 79 = .ok (.aload 4, 2) := by decide +kernel
theorem dX9_part_81 : decode cX9_part 81 = .ok (.getfield 168, 3) := by decide +kernel
theorem dX9_part_84 : decode cX9_part 84 = .ok (.astore 5, 2) := by decide +kernel
theorem dX9_part_86 : decode cX9_part 86 = .ok (.iload_n 3, 1) := by decide +kernel
theorem dX9_part_87 : decode cX9_part 87 = .ok (.bipush 10, 2) := by decide +kernel
theorem dX9_part_89 : decode cX9_part 89 = .ok (.if_icmp .lt 13, 3) := by decide +kernel
theorem dX9_part_92 : decode cX9_part 92 = .ok (.aload 5, 2) := by decide +kernel
theorem dX9_part_94 : decode cX9_part 94 = .ok (.iload_n 3, 1) := by decide +kernel
theorem dX9_part_95 : decode cX9_part 95 = .ok (.bipush 10, 2) := by decide +kernel
theorem dX9_part_97 : decode cX9_part 97 = .ok (.isub, 1) := by decide +kernel
theorem dX9_part_98 : decode cX9_part 98 = .ok (.invokevirtual 171, 3) := by decide +kernel
theorem dX9_part_101 : decode cX9_part 101 = .ok (.ireturn, 1) := by decide +kernel
theorem dX9_part_102 : decode cX9_part 102 = .ok (.iload_n 3, 1) := by decide +kernel
theorem dX9_part_103 : decode cX9_part 103 = .ok (.ifCond .ne 9, 3) := by decide +kernel
theorem dX9_part_106 : decode cX9_part 106 = .ok (.aload 5, 2) := by decide +kernel
theorem dX9_part_108 : decode cX9_part 108 = .ok (.getfield 174, 3) := by decide +kernel
theorem dX9_part_111 : decode cX9_part 111 = .ok (.ireturn, 1) := by decide +kernel
theorem dX9_part_112 : decode cX9_part 112 = .ok (.iload_n 3, 1) := by decide +kernel
theorem dX9_part_113 : decode cX9_part 113 = .ok (.iconst 1, 1) := by decide +kernel
theorem dX9_part_114 : decode cX9_part 114 = .ok (.if_icmp .ne 9, 3) := by decide +kernel
theorem dX9_part_117 : decode cX9_part 117 = .ok (.aload 5, 2) := by decide +kernel
theorem dX9_part_119 : decode cX9_part 119 = .ok (.invokevirtual 177, 3) := by decide +kernel
theorem dX9_part_122 : decode cX9_part 122 = .ok (.ireturn, 1) := by decide +kernel
theorem dX9_part_123 : decode cX9_part 123 = .ok (.aload 5, 2) := by decide +kernel
theorem dX9_part_125 : decode cX9_part 125 = .ok (.aload_n 0, 1) := by decide +kernel
theorem dX9_part_126 : decode cX9_part 126 = .ok (.getfield 23, 3) := by decide +kernel
theorem dX9_part_129 : decode cX9_part 129 = .ok (.getfield 180, 3) := by decide +kernel
theorem dX9_part_132 : decode cX9_part 132 = .ok (.iconst 4, 1) := by decide +kernel
theorem dX9_part_133 : decode cX9_part 133 = .ok (.invokevirtual 184, 3) := by decide +kernel
theorem dX9_part_136 : decode cX9_part 136 = .ok (.invokevirtual 187, 3) := by decide +kernel
theorem dX9_part_139 : decode cX9_part 139 = .ok (.istore 6, 2) := by decide +kernel
theorem dX9_part_141 : decode cX9_part 141 = .ok (.iload_n 3, 1) := by decide +kernel
theorem dX9_part_142 : decode cX9_part 142 = .ok (.iconst 2, 1) := by decide +kernel
theorem dX9_part_143 : decode cX9_part 143 = .ok (.if_icmp .ne 21, 3) := by decide +kernel
theorem dX9_part_146 : decode cX9_part 146 = .ok (.iload 6, 2) := by decide +kernel
theorem dX9_part_148 : decode cX9_part 148 = .ok (.bipush (-9), 2) := by decide +kernel
theorem dX9_part_150 : decode cX9_part 150 = .ok (.if_icmp .ne 11, 3) := by decide +kernel
theorem dX9_part_153 : decode cX9_part 153 = .ok (.aload 5, 2) := by decide +kernel
theorem dX9_part_155 : decode cX9_part 155 = .ok (.invokevirtual 177, 3) := by decide +kernel
theorem dX9_part_158 : decode cX9_part 158 = .ok (.goto 5, 3) := by decide +kernel
theorem dX9_part_161 : decode cX9_part 161 = .ok (.iload 6, 2) := by decide +kernel
theorem dX9_part_163 : decode cX9_part 163 = .ok (.ireturn, 1) := by decide +kernel
theorem dX9_part_164 : decode cX9_part 164 = .ok (.iload 6, 2) := by decide +kernel
theorem dX9_part_166 : decode cX9_part 166 = .ok (.bipush (-9), 2) := by decide +kernel
theorem dX9_part_168 : decode cX9_part 168 = .ok (.if_icmp .ne 8, 3) := by decide +kernel
theorem dX9_part_171 : decode cX9_part 171 = .ok (.bipush (-9), 2) := by decide +kernel
theorem dX9_part_173 : decode cX9_part 173 = .ok (.goto 10, 3) := by decide +kernel
theorem dX9_part_176 : decode cX9_part 176 = .ok (.aload 5, 2) := by decide +kernel
theorem dX9_part_178 : decode cX9_part 178 = .ok (.iload 6, 2) := by decide +kernel
theorem dX9_part_180 : decode cX9_part 180 = .ok (.invokevirtual 190, 3) := by decide +kernel
theorem dX9_part_183 : decode cX9_part 183 = .ok (.ireturn, 1) := by decide +kernel
theorem dX9_set_0 : decode cX9_set 0 = .ok (.aload_n 0, 1) := by decide +kernel
theorem dX9_set_1 : decode cX9_set 1 = .ok (.getfield 23, 3) := by decide +kernel
theorem dX9_set_4 : decode cX9_set 4 = .ok (.getfield 180, 3) := by decide +kernel
theorem dX9_set_7 : decode cX9_set 7 = .ok (.iload_n 1, 1) := by decide +kernel
theorem dX9_set_8 : decode cX9_set 8 = .ok (.iload_n 2, 1) := by decide +kernel
theorem dX9_set_9 : decode cX9_set 9 = .ok (.invokevirtual 193, 3) := by decide +kernel
theorem dX9_set_12 : decode cX9_set 12 = .ok (.ifCond .ne 5, 3) := by decide +kernel
theorem dX9_set_15 : decode cX9_set 15 = .ok (.iconst (-1), 1) := by decide +kernel
theorem dX9_set_16 : decode cX9_set 16 = .ok (.ireturn, 1) := by decide +kernel
theorem dX9_set_17 : decode cX9_set 17 = .ok (.aload_n 0, 1) := by decide +kernel
theorem dX9_set_18 : decode cX9_set 18 = .ok (.getfield 37, 3) := by decide +kernel
theorem dX9_set_21 : decode cX9_set 21 = .ok (.aload_n 0, 1) := by decide +kernel
theorem dX9_set_22 : decode cX9_set 22 = .ok (.getfield 23, 3) := by decide +kernel
theorem dX9_set_25 : decode cX9_set 25 = .ok (.invokevirtual 58, 3) := by decide +kernel
theorem dX9_set_28 : decode cX9_set 28 = .ok (.aload_n 0, 1) := by decide +kernel
theorem dX9_set_29 : decode cX9_set 29 = .ok (.getfield 23, 3) := by decide +kernel
theorem dX9_set_32 : decode cX9_set 32 = .ok (.getfield 180, 3) := by decide +kernel
theorem dX9_set_35 : decode cX9_set 35 = .ok (.iload_n 1, 1) := by decide +kernel
theorem dX9_set_36 : decode cX9_set 36 = .ok (.invokevirtual 184, 3) := by decide +kernel
theorem dX9_set_39 : decode cX9_set 39 = .ok (.istore_n 3, 1) := by decide +kernel
theorem dX9_set_40 : decode cX9_set 40 = .ok (.aload_n 0, 1) := by decide +kernel
theorem dX9_set_41 : decode cX9_set 41 = .ok (.getfield 23, 3) := by decide +kernel
theorem dX9_set_44 : decode cX9_set 44 = .ok (.getfield 180, 3) := by decide +kernel
theorem dX9_set_47 : decode cX9_set 47 = .ok (.iload_n 1, 1) := by decide +kernel
theorem dX9_set_48 : decode cX9_set 48 = .ok (.iload_n 2, 1) := by decide +kernel
theorem dX9_set_49 : decode cX9_set 49 = .ok (.invokevirtual 196, 3) := by decide +kernel
theorem dX9_set_52 : decode cX9_set 52 = .ok (.iload_n 3, 1) := by decide +kernel
theorem dX9_set_53 : decode cX9_set 53 = .ok (.ireturn, 1) := by decide +kernel
theorem dX9_conform_0 : decode cX9_conform 0 = .ok (.iload_n 1, 1) := by decide +kernel
theorem dX9_conform_1 : decode cX9_conform 1 = .ok (.iconst 1, 1) := by decide +kernel
theorem dX9_conform_2 : decode cX9_conform 2 = .ok (.bipush 31, 2) := by decide +kernel
theorem dX9_conform_4 : decode cX9_conform 4 = .ok (.invokestatic 41, 3) := by decide +kernel
theorem dX9_conform_7 : decode cX9_conform 7 = .ok (.ifCond .ne 5, 3) := by decide +kernel
theorem dX9_conform_10 : decode cX9_conform 10 = .ok (.iconst (-1), 1) := by decide +kernel
theorem dX9_conform_11 : decode cX9_conform 11 = .ok (.ireturn, 1) := by decide +kernel
theorem dX9_conform_12 : decode cX9_conform 12 = .ok (.aload_n 0, 1) := by decide +kernel
theorem dX9_conform_13 : decode cX9_conform 13 = .ok (.getfield 30, 3) := by decide +kernel
theorem dX9_conform_16 : decode cX9_conform 16 = .ok (.aload_n 0, 1) := by decide +kernel
theorem dX9_conform_17 : decode cX9_conform 17 = .ok (.getfield 23, 3) := by decide +kernel
theorem dX9_conform_20 : decode cX9_conform 20 = .ok (.iload_n 1, 1) := by decide +kernel
theorem dX9_conform_21 : decode cX9_conform 21 = .ok (.invokevirtual 199, 3) := by decide +kernel
theorem dX9_conform_24 : decode cX9_conform 24 = .ok (.ifCond .ne 6, 3) := by decide +kernel
theorem dX9_conform_27 : decode cX9_conform 27 = .ok (.bipush (-3), 2) := by decide +kernel
theorem dX9_conform_29 : decode cX9_conform 29 = .ok (.ireturn, 1) := by decide +kernel
theorem dX9_conform_30 : decode cX9_conform 30 = .ok (.aload_n 0, 1) := by decide +kernel
theorem dX9_conform_31 : decode cX9_conform 31 = .ok (.getfield 37, 3) := by decide +kernel
theorem dX9_conform_34 : decode cX9_conform 34 = .ok (.aload_n 0, 1) := by decide +kernel
theorem dX9_conform_35 : decode cX9_conform 35 = .ok (.getfield 23, 3) := by decide +kernel
theorem dX9_conform_38 : decode cX9_conform 38 = .ok (.invokevirtual 58, 3) := by decide +kernel
theorem dX9_conform_41 : decode cX9_conform 41 = .ok (.aload_n 0, 1) := by decide +kernel
theorem dX9_conform_42 : decode cX9_conform 42 = .ok (.getfield 23, 3) := by decide +kernel
theorem dX9_conform_45 : decode cX9_conform 45 = .ok (.aload_n 0, 1) := by decide +kernel
theorem dX9_conform_46 : decode cX9_conform 46 = .ok (.getfield 30, 3) := by decide +kernel
theorem dX9_conform_49 : decode cX9_conform 49 = .ok (.getfield 203, 3) := by decide +kernel
theorem dX9_conform_52 : decode cX9_conform 52 = .ok (.invokevirtual 206, 3) := by decide +kernel
theorem dX9_conform_55 : decode cX9_conform 55 = .ok (.aload_n 0, 1) := by decide +kernel
theorem dX9_conform_56 : decode cX9_conform 56 = .ok (.getfield 23, 3) := by decide +kernel
theorem dX9_conform_59 : decode cX9_conform 59 = .ok (.getfield 114, 3) := by decide +kernel
theorem dX9_conform_62 : decode cX9_conform 62 = .ok (.invokevirtual 132, 3) := by decide +kernel
theorem dX9_conform_65 : decode cX9_conform 65 = .ok (.ireturn, 1) := by decide +kernel
theorem dX9_ifConform_0 : decode cX9_ifConform 0 = .ok (.iload_n 1, 1) := by decide +kernel
theorem dX9_ifConform_1 : decode cX9_ifConform 1 = .ok (.iconst 1, 1) := by decide +kernel
theorem dX9_ifConform_2 : decode cX9_ifConform 2 = .ok (.bipush 31, 2) := by decide +kernel
theorem dX9_ifConform_4 : decode cX9_ifConform 4 = .ok (.invokestatic 41, 3) := by decide +kernel
theorem dX9_ifConform_7 : decode cX9_ifConform 7 = .ok (.ifCond .eq 12, 3) := by decide +kernel
theorem dX9_ifConform_10 : decode cX9_ifConform 10 = .ok (.iload_n 2, 1) := by decide +kernel
theorem dX9_ifConform_11 : decode cX9_ifConform 11 = .ok (.iconst 0, 1) := by decide +kernel
theorem dX9_ifConform_12 : decode cX9_ifConform 12 = .ok (.iconst 4, 1) := by decide +kernel
theorem dX9_ifConform_13 : decode cX9_ifConform 13 = .ok (.invokestatic 41, 3) := by decide +kernel
theorem dX9_ifConform_16 : decode cX9_ifConform 16 = .ok (.ifCond .ne 5, 3) := by decide +kernel
theorem dX9_ifConform_19 : decode cX9_ifConform 19 = .ok (.iconst (-1), 1) := by decide +kernel
theorem dX9_ifConform_20 : decode cX9_ifConform 20 = .ok (.ireturn, 1) := by decide +kernel
theorem dX9_ifConform_21 : decode cX9_ifConform 21 = .ok (.aload_n 0, 1) := by decide +kernel
theorem dX9_ifConform_22 : decode cX9_ifConform 22 = .ok (.getfield 30, 3) := by decide +kernel
theorem dX9_ifConform_25 : decode cX9_ifConform 25 = .ok (.aload_n 0, 1) := by decide +kernel
theorem dX9_ifConform_26 : decode cX9_ifConform 26 = .ok (.getfield 23, 3) := by decide +kernel
theorem dX9_ifConform_29 : decode cX9_ifConform 29 = .ok (.iload_n 1, 1) := by decide +kernel
theorem dX9_ifConform_30 : decode cX9_ifConform 30 = .ok (.invokevirtual 199, 3) := by decide +kernel
theorem dX9_ifConform_33 : decode cX9_ifConform 33 = .ok (.ifCond .ne 6, 3) := by decide +kernel
theorem dX9_ifConform_36 : decode cX9_ifConform 36 = .ok (.bipush (-3), 2) := by decide +kernel
theorem dX9_ifConform_38 : decode cX9_ifConform 38 = .ok (.ireturn, 1) := by decide +kernel
theorem dX9_ifConform_39 : decode cX9_ifConform 39 = .ok (.iload_n 2, 1) := by decide +kernel
theorem dX9_ifConform_40 : decode cX9_ifConform 40 = .ok (.tableswitch 86 0 3 #[32, 46, 60, 72], 32) := by decide +kernel
theorem dX9_ifConform_72 : decode cX9_ifConform 72 = .ok (.aload_n 0, 1) := by decide +kernel
theorem dX9_ifConform_73 : decode cX9_ifConform 73 = .ok (.getfield 30, 3) := by decide +kernel
theorem dX9_ifConform_76 : decode cX9_ifConform 76 = .ok (.getfield 203, 3) := by decide +kernel
theorem dX9_ifConform_79 : decode cX9_ifConform 79 = .ok (.getfield 114, 3) := by decide +kernel
theorem dX9_ifConform_82 : decode cX9_ifConform 82 = .ok (.invokevirtual 132, 3) := by decide +kernel
theorem dX9_ifConform_85 : decode cX9_ifConform 85 = .ok (.ireturn, 1) := by decide +kernel
theorem dX9_ifConform_86 : decode cX9_ifConform 86 = .ok (.aload_n 0, 1) := by decide +kernel
theorem dX9_ifConform_87 : decode cX9_ifConform 87 = .ok (.getfield 30, 3) := by decide +kernel
theorem dX9_ifConform_90 : decode cX9_ifConform 90 = .ok (.getfield 203, 3) := by decide +kernel
theorem dX9_ifConform_93 : decode cX9_ifConform 93 = .ok (.getfield 114, 3) := by decide +kernel
theorem dX9_ifConform_96 : decode cX9_ifConform 96 = .ok (.invokevirtual 209, 3) := by decide +kernel
theorem dX9_ifConform_99 : decode cX9_ifConform 99 = .ok (.ireturn, 1) := by decide +kernel
theorem dX9_ifConform_100 : decode cX9_ifConform 100 = .ok (.aload_n 0, 1) := by decide +kernel
theorem dX9_ifConform_101 : decode cX9_ifConform 101 = .ok (.getfield 30, 3) := by decide +kernel
theorem dX9_ifConform_104 : decode cX9_ifConform 104 = .ok (.getfield 203, 3) := by decide +kernel
theorem dX9_ifConform_107 : decode cX9_ifConform 107 = .ok (.iconst 0, 1) := by decide +kernel
theorem dX9_ifConform_108 : decode cX9_ifConform 108 = .ok (.invokevirtual 212, 3) := by decide +kernel
theorem dX9_ifConform_111 : decode cX9_ifConform 111 = .ok (.ireturn, 1) := by decide +kernel
theorem dX9_ifConform_112 : decode cX9_ifConform 112 = .ok (.aload_n 0, 1) := by decide +kernel
theorem dX9_ifConform_113 : decode cX9_ifConform 113 = .ok (.getfield 30, 3) := by decide +kernel
theorem dX9_ifConform_116 : decode cX9_ifConform 116 = .ok (.getfield 203, 3) := by decide +kernel
theorem dX9_ifConform_119 : decode cX9_ifConform 119 = .ok (.getfield 114, 3) := by decide +kernel
theorem dX9_ifConform_122 : decode cX9_ifConform 122 = .ok (.invokevirtual 215, 3) := by decide +kernel
theorem dX9_ifConform_125 : decode cX9_ifConform 125 = .ok (.ireturn, 1) := by decide +kernel
theorem dX9_ifConform_126 : decode cX9_ifConform 126 = .ok (.aload_n 0, 1) := by decide +kernel
theorem dX9_ifConform_127 : decode cX9_ifConform 127 = .ok (.getfield 30, 3) := by decide +kernel
theorem dX9_ifConform_130 : decode cX9_ifConform 130 = .ok (.getfield 218, 3) := by decide +kernel
theorem dX9_ifConform_133 : decode cX9_ifConform 133 = .ok (.ireturn, 1) := by decide +kernel
theorem dX9_stretches_0 : decode cX9_stretches 0 = .ok (.aload_n 0, 1) := by decide +kernel
theorem dX9_stretches_1 : decode cX9_stretches 1 = .ok (.getfield 23, 3) := by decide +kernel
theorem dX9_stretches_4 : decode cX9_stretches 4 = .ok (.getfield 114, 3) := by decide +kernel
theorem dX9_stretches_7 : decode cX9_stretches 7 = .ok (.iload_n 1, 1) := by decide +kernel
theorem dX9_stretches_8 : decode cX9_stretches 8 = .ok (.invokevirtual 130, 3) := by decide +kernel
theorem dX9_stretches_11 : decode cX9_stretches 11 = .ok (.ifCond .ne 5, 3) := by decide +kernel
theorem dX9_stretches_14 : decode cX9_stretches 14 = .ok (.iconst (-1), 1) := by decide +kernel
theorem dX9_stretches_15 : decode cX9_stretches 15 = .ok (.ireturn, 1) := by decide +kernel
theorem dX9_stretches_16 : decode cX9_stretches 16 = .ok (.aload_n 0, 1) := by decide +kernel
theorem dX9_stretches_17 : decode cX9_stretches 17 = .ok (.getfield 30, 3) := by decide +kernel
theorem dX9_stretches_20 : decode cX9_stretches 20 = .ok (.aload_n 0, 1) := by decide +kernel
theorem dX9_stretches_21 : decode cX9_stretches 21 = .ok (.getfield 23, 3) := by decide +kernel
theorem dX9_stretches_24 : decode cX9_stretches 24 = .ok (.getfield 114, 3) := by decide +kernel
theorem dX9_stretches_27 : decode cX9_stretches 27 = .ok (.iload_n 1, 1) := by decide +kernel
theorem dX9_stretches_28 : decode cX9_stretches 28 = .ok (.invokevirtual 137, 3) := by decide +kernel
theorem dX9_stretches_31 : decode cX9_stretches 31 = .ok (.aload_n 0, 1) := by decide +kernel
theorem dX9_stretches_32 : decode cX9_stretches 32 = .ok (.getfield 23, 3) := by decide +kernel
theorem dX9_stretches_35 : decode cX9_stretches 35 = .ok (.getfield 45, 3) := by decide +kernel
theorem dX9_stretches_38 : decode cX9_stretches 38 = .ok (.invokevirtual 221, 3) := by decide +kernel
theorem dX9_stretches_41 : decode cX9_stretches 41 = .ok (.ireturn, 1) := by decide +kernel
theorem dX9_shown_0 : decode cX9_shown 0 = .ok (.iload_n 1, 1) := by decide +kernel
theorem dX9_shown_1 : decode cX9_shown 1 = .ok (.iconst 0, 1) := by decide +kernel
theorem dX9_shown_2 : decode cX9_shown 2 = .ok (.sipush 9999, 3) := by decide +kernel
theorem dX9_shown_5 : decode cX9_shown 5 = .ok (.invokestatic 41, 3) := by decide +kernel
theorem dX9_shown_8 : decode cX9_shown 8 = .ok (.ifCond .eq 17, 3) := by decide +kernel
theorem dX9_shown_11 : decode cX9_shown 11 = .ok (.aload_n 0, 1) := by decide +kernel
theorem dX9_shown_12 : decode cX9_shown 12 = .ok (.getfield 23, 3) := by decide +kernel
theorem dX9_shown_15 : decode cX9_shown 15 = .ok (.getfield 114, 3) := by decide +kernel
theorem dX9_shown_18 : decode cX9_shown 18 = .ok (.iload_n 1, 1) := by decide +kernel
theorem dX9_shown_19 : decode cX9_shown 19 = .ok (.invokevirtual 225, 3) := by decide +kernel
theorem dX9_shown_22 : decode cX9_shown 22 = .ok (.goto 4, 3) := by decide +kernel
theorem dX9_shown_25 : decode cX9_shown 25 = .ok (.iconst (-1), 1) := by decide +kernel
theorem dX9_shown_26 : decode cX9_shown 26 = .ok (.ireturn, 1) := by decide +kernel
theorem dX9_faults_0 : decode cX9_faults 0 = .ok (.iload_n 1, 1) := by decide +kernel
theorem dX9_faults_1 : decode cX9_faults 1 = .ok (.iconst 0, 1) := by decide +kernel
theorem dX9_faults_2 : decode cX9_faults 2 = .ok (.bipush 32, 2) := by decide +kernel
theorem dX9_faults_4 : decode cX9_faults 4 = .ok (.invokestatic 41, 3) := by decide +kernel
theorem dX9_faults_7 : decode cX9_faults 7 = .ok (.ifCond .eq 11, 3) := by decide +kernel
theorem dX9_faults_10 : decode cX9_faults 10 = .ok (.iload_n 1, 1) := by decide +kernel
theorem dX9_faults_11 : decode cX9_faults 11 = .ok (.invokestatic 228, 3) := by decide +kernel
theorem dX9_faults_14 : decode cX9_faults 14 = .ok (.iconst 1, 1) := by decide +kernel
theorem dX9_faults_15 : decode cX9_faults 15 = .ok (.if_icmp .le 5, 3) := by decide +kernel
theorem dX9_faults_18 : decode cX9_faults 18 = .ok (.iconst (-1), 1) := by decide +kernel
theorem dX9_faults_19 : decode cX9_faults 19 = .ok (.ireturn, 1) := by decide +kernel
theorem dX9_faults_20 : decode cX9_faults 20 = .ok (.aload_n 0, 1) := by decide +kernel
theorem dX9_faults_21 : decode cX9_faults 21 = .ok (.getfield 23, 3) := by decide +kernel
theorem dX9_faults_24 : decode cX9_faults 24 = .ok (.iload_n 1, 1) := by decide +kernel
theorem dX9_faults_25 : decode cX9_faults 25 = .ok (.invokevirtual 212, 3) := by decide +kernel
theorem dX9_faults_28 : decode cX9_faults 28 = .ok (.ireturn, 1) := by decide +kernel
theorem dX9_told_0 : decode cX9_told 0 = .ok (.iload_n 1, 1) := by decide +kernel
theorem dX9_told_1 : decode cX9_told 1 = .ok (.ifCond .lt 20, 3) := by decide +kernel
theorem dX9_told_4 : decode cX9_told 4 = .ok (.iload_n 1, 1) := by decide +kernel
theorem dX9_told_5 : decode cX9_told 5 = .ok (.iconst 4, 1) := by decide +kernel
theorem dX9_told_6 : decode cX9_told 6 = .ok (.if_icmp .gt 15, 3) := by decide +kernel
theorem dX9_told_9 : decode cX9_told 9 = .ok (.aload_n 0, 1) := by decide +kernel
theorem dX9_told_10 : decode cX9_told 10 = .ok (.getfield 23, 3) := by decide +kernel
theorem dX9_told_13 : decode cX9_told 13 = .ok (.getfield 180, 3) := by decide +kernel
theorem dX9_told_16 : decode cX9_told 16 = .ok (.iload_n 1, 1) := by decide +kernel
theorem dX9_told_17 : decode cX9_told 17 = .ok (.invokevirtual 184, 3) := by decide +kernel
theorem dX9_told_20 : decode cX9_told 20 = .ok (.ireturn, 1) := by decide +kernel
theorem dX9_told_21 : decode cX9_told 21 = .ok (.iload_n 1, 1) := by decide +kernel
theorem dX9_told_22 : decode cX9_told 22 = .ok (.tableswitch 110 5 11 #[42, 53, 64, 75, 86, 97, 102], 42) := by decide +kernel
theorem dX9_told_64 : decode cX9_told 64 = .ok (.aload_n 0, 1) := by decide +kernel
theorem dX9_told_65 : decode cX9_told 65 = .ok (.getfield 23, 3) := by decide +kernel
theorem dX9_told_68 : decode cX9_told 68 = .ok (.getfield 45, 3) := by decide +kernel
theorem dX9_told_71 : decode cX9_told 71 = .ok (.invokevirtual 49, 3) := by decide +kernel
theorem dX9_told_74 : decode cX9_told 74 = .ok (.ireturn, 1) := by decide +kernel
theorem dX9_told_75 : decode cX9_told 75 = .ok (.aload_n 0, 1) := by decide +kernel
theorem dX9_told_76 : decode cX9_told 76 = .ok (.getfield 23, 3) := by decide +kernel
theorem dX9_told_79 : decode cX9_told 79 = .ok (.getfield 45, 3) := by decide +kernel
theorem dX9_told_82 : decode cX9_told 82 = .ok (.invokevirtual 55, 3) := by decide +kernel
theorem dX9_told_85 : decode cX9_told 85 = .ok (.ireturn, 1) := by decide +kernel
theorem dX9_told_86 : decode cX9_told 86 = .ok (.aload_n 0, 1) := by decide +kernel
theorem dX9_told_87 : decode cX9_told 87 = .ok (.getfield 23, 3) := by decide +kernel
theorem dX9_told_90 : decode cX9_told 90 = .ok (.getfield 84, 3) := by decide +kernel
theorem dX9_told_93 : decode cX9_told 93 = .ok (.invokevirtual 91, 3) := by decide +kernel
theorem dX9_told_96 : decode cX9_told 96 = .ok (.ireturn, 1) := by decide +kernel
theorem dX9_told_97 : decode cX9_told 97 = .ok (.aload_n 0, 1) := by decide +kernel
theorem dX9_told_98 : decode cX9_told 98 = .ok (.getfield 23, 3) := by decide +kernel
theorem dX9_told_101 : decode cX9_told 101 = .ok (.getfield 114, 3) := by decide +kernel
theorem dX9_told_104 : decode cX9_told 104 = .ok (.invokevirtual 132, 3) := by decide +kernel
theorem dX9_told_107 : decode cX9_told 107 = .ok (.ireturn, 1) := by decide +kernel
theorem dX9_told_108 : decode cX9_told 108 = .ok (.aload_n 0, 1) := by decide +kernel
theorem dX9_told_109 : decode cX9_told 109 = .ok (.getfield 23, 3) := by decide +kernel
theorem dX9_told_112 : decode cX9_told 112 = .ok (.getfield 114, 3) := by decide +kernel
theorem dX9_told_115 : decode cX9_told 115 = .ok (.invokevirtual 233, 3) := by decide +kernel
theorem dX9_told_118 : decode cX9_told 118 = .ok (.ireturn, 1) := by decide +kernel
theorem dX9_told_119 : decode cX9_told 119 = .ok (.aload_n 0, 1) := by decide +kernel
theorem dX9_told_120 : decode cX9_told 120 = .ok (.getfield 106, 3) := by decide +kernel
theorem dX9_told_123 : decode cX9_told 123 = .ok (.ireturn, 1) := by decide +kernel
theorem dX9_told_124 : decode cX9_told 124 = .ok (.aload_n 0, 1) := by decide +kernel
theorem dX9_told_125 : decode cX9_told 125 = .ok (.getfield 37, 3) := by decide +kernel
theorem dX9_told_128 : decode cX9_told 128 = .ok (.invokevirtual 236, 3) := by decide +kernel
theorem dX9_told_131 : decode cX9_told 131 = .ok (.ireturn, 1) := by decide +kernel
theorem dX9_told_132 : decode cX9_told 132 = .ok (.iconst (-1), 1) := by decide +kernel
theorem dX9_told_133 : decode cX9_told 133 = .ok (.ireturn, 1) := by decide +kernel
theorem dX9_undo_0 : decode cX9_undo 0 = .ok (.aload_n 0, 1) := by decide +kernel
theorem dX9_undo_1 : decode cX9_undo 1 = .ok (.getfield 37, 3) := by decide +kernel
theorem dX9_undo_4 : decode cX9_undo 4 = .ok (.invokevirtual 236, 3) := by decide +kernel
theorem dX9_undo_7 : decode cX9_undo 7 = .ok (.ifCond .ne 6, 3) := by decide +kernel
theorem dX9_undo_10 : decode cX9_undo 10 = .ok (.bipush (-2), 2) := by decide +kernel
theorem dX9_undo_12 : decode cX9_undo 12 = .ok (.ireturn, 1) := by decide +kernel
theorem dX9_undo_13 : decode cX9_undo 13 = .ok (.aload_n 0, 1) := by decide +kernel
theorem dX9_undo_14 : decode cX9_undo 14 = .ok (.getfield 37, 3) := by decide +kernel
theorem dX9_undo_17 : decode cX9_undo 17 = .ok (.aload_n 0, 1) := by decide +kernel
theorem dX9_undo_18 : decode cX9_undo 18 = .ok (.getfield 23, 3) := by decide +kernel
theorem dX9_undo_21 : decode cX9_undo 21 = .ok (.invokevirtual 237, 3) := by decide +kernel
theorem dX9_undo_24 : decode cX9_undo 24 = .ok (.aload_n 0, 1) := by decide +kernel
theorem dX9_undo_25 : decode cX9_undo 25 = .ok (.getfield 37, 3) := by decide +kernel
theorem dX9_undo_28 : decode cX9_undo 28 = .ok (.invokevirtual 236, 3) := by decide +kernel
theorem dX9_undo_31 : decode cX9_undo 31 = .ok (.ireturn, 1) := by decide +kernel
theorem dX9_firstWrongBlank_0 : decode cX9_firstWrongBlank 0 = .ok (.iconst 0, 1) := by decide +kernel
theorem dX9_firstWrongBlank_1 : decode cX9_firstWrongBlank 1 = .ok (.istore_n 1, 1) := by decide +kernel
theorem dX9_firstWrongBlank_2 : decode cX9_firstWrongBlank 2 = .ok (.iconst 0, 1) := by decide +kernel
theorem dX9_firstWrongBlank_3 : decode cX9_firstWrongBlank 3 = .ok (.istore_n 2, 1) := by decide +kernel
theorem dX9_firstWrongBlank_4 : decode cX9_firstWrongBlank 4 = .ok (.iload_n 2, 1) := by decide +kernel
theorem dX9_firstWrongBlank_5 : decode cX9_firstWrongBlank 5 = .ok (.aload_n 0, 1) := by decide +kernel
theorem dX9_firstWrongBlank_6 : decode cX9_firstWrongBlank 6 = .ok (.getfield 106, 3) := by decide +kernel
theorem dX9_firstWrongBlank_9 : decode cX9_firstWrongBlank 9 = .ok (.if_icmp .ge 65, 3) := by decide +kernel
theorem dX9_firstWrongBlank_12 : decode cX9_firstWrongBlank 12 = .ok (.iload_n 2, 1) := by decide +kernel
theorem dX9_firstWrongBlank_13 : decode cX9_firstWrongBlank 13 = .ok (.aload_n 0, 1) := by decide +kernel
theorem dX9_firstWrongBlank_14 : decode cX9_firstWrongBlank 14 = .ok (.getfield 9, 3) := by decide +kernel
theorem dX9_firstWrongBlank_17 : decode cX9_firstWrongBlank 17 = .ok (.arraylength, 1) := by decide +kernel
theorem dX9_firstWrongBlank_18 : decode cX9_firstWrongBlank 18 = .ok (.if_icmp .ge 56, 3) := by decide +kernel
theorem dX9_firstWrongBlank_21 : decode cX9_firstWrongBlank 21 = .ok (.aload_n 0, 1) := by decide +kernel
theorem dX9_firstWrongBlank_22 : decode cX9_firstWrongBlank 22 = .ok (.getfield 9, 3) := by decide +kernel
theorem dX9_firstWrongBlank_25 : decode cX9_firstWrongBlank 25 = .ok (.iload_n 2, 1) := by decide +kernel
theorem dX9_firstWrongBlank_26 : decode cX9_firstWrongBlank 26 = .ok (.baload, 1) := by decide +kernel
theorem dX9_firstWrongBlank_27 : decode cX9_firstWrongBlank 27 = .ok (.bipush 32, 2) := by decide +kernel
theorem dX9_firstWrongBlank_29 : decode cX9_firstWrongBlank 29 = .ok (.if_icmp .ne 7, 3) := by decide +kernel
theorem dX9_firstWrongBlank_32 : decode cX9_firstWrongBlank 32 = .ok (.iconst 1, 1) := by decide +kernel
theorem dX9_firstWrongBlank_33 : decode cX9_firstWrongBlank 33 = .ok (.goto 4, 3) := by decide +kernel
theorem dX9_firstWrongBlank_36 : decode cX9_firstWrongBlank 36 = .ok (.iconst 0, 1) := by decide +kernel
theorem dX9_firstWrongBlank_37 : decode cX9_firstWrongBlank 37 = .ok (.istore_n 3, 1) := by decide +kernel
theorem dX9_firstWrongBlank_38 : decode cX9_firstWrongBlank 38 = .ok (.iload_n 3, 1) := by decide +kernel
theorem dX9_firstWrongBlank_39 : decode cX9_firstWrongBlank 39 = .ok (.ifCond .eq 19, 3) := by decide +kernel
theorem dX9_firstWrongBlank_42 : decode cX9_firstWrongBlank 42 = .ok (.iload_n 1, 1) := by decide +kernel
theorem dX9_firstWrongBlank_43 : decode cX9_firstWrongBlank 43 = .ok (.ifCond .eq 13, 3) := by decide +kernel
theorem dX9_firstWrongBlank_46 : decode cX9_firstWrongBlank 46 = .ok (.iload_n 2, 1) := by decide +kernel
theorem dX9_firstWrongBlank_47 : decode cX9_firstWrongBlank 47 = .ok (.aload_n 0, 1) := by decide +kernel
theorem dX9_firstWrongBlank_48 : decode cX9_firstWrongBlank 48 = .ok (.getfield 106, 3) := by decide +kernel
theorem dX9_firstWrongBlank_51 : decode cX9_firstWrongBlank 51 = .ok (.iconst 1, 1) := by decide +kernel
theorem dX9_firstWrongBlank_52 : decode cX9_firstWrongBlank 52 = .ok (.isub, 1) := by decide +kernel
theorem dX9_firstWrongBlank_53 : decode cX9_firstWrongBlank 53 = .ok (.if_icmp .ne 5, 3) := by decide +kernel
theorem dX9_firstWrongBlank_56 : decode cX9_firstWrongBlank 56 = .ok (.iload_n 2, 1) := by decide +kernel
theorem dX9_firstWrongBlank_57 : decode cX9_firstWrongBlank 57 = .ok (.ireturn, 1) := by decide +kernel
theorem dX9_firstWrongBlank_58 : decode cX9_firstWrongBlank 58 = .ok (.iload_n 3, 1) := by decide +kernel
theorem dX9_firstWrongBlank_59 : decode cX9_firstWrongBlank 59 = .ok (.ifCond .ne 7, 3) := by decide +kernel
theorem dX9_firstWrongBlank_62 : decode cX9_firstWrongBlank 62 = .ok (.iconst 1, 1) := by decide +kernel
theorem dX9_firstWrongBlank_63 : decode cX9_firstWrongBlank 63 = .ok (.goto 4, 3) := by decide +kernel
theorem dX9_firstWrongBlank_66 : decode cX9_firstWrongBlank 66 = .ok (.iconst 0, 1) := by decide +kernel
theorem dX9_firstWrongBlank_67 : decode cX9_firstWrongBlank 67 = .ok (.istore_n 1, 1) := by decide +kernel
theorem dX9_firstWrongBlank_68 : decode cX9_firstWrongBlank 68 = .ok (.iinc 2 1, 3) := by decide +kernel
theorem dX9_firstWrongBlank_71 : decode cX9_firstWrongBlank 71 = .ok (.goto (-67), 3) := by decide +kernel
theorem dX9_firstWrongBlank_74 : decode cX9_firstWrongBlank 74 = .ok (.bipush (-9), 2) := by decide +kernel
theorem dX9_firstWrongBlank_76 : decode cX9_firstWrongBlank 76 = .ok (.ireturn, 1) := by decide +kernel
theorem dX9_isWithin_0 : decode cX9_isWithin 0 = .ok (.iload_n 0, 1) := by decide +kernel
theorem dX9_isWithin_1 : decode cX9_isWithin 1 = .ok (.iload_n 1, 1) := by decide +kernel
theorem dX9_isWithin_2 : decode cX9_isWithin 2 = .ok (.if_icmp .lt 12, 3) := by decide +kernel
theorem dX9_isWithin_5 : decode cX9_isWithin 5 = .ok (.iload_n 0, 1) := by decide +kernel
theorem dX9_isWithin_6 : decode cX9_isWithin 6 = .ok (.iload_n 2, 1) := by decide +kernel
theorem dX9_isWithin_7 : decode cX9_isWithin 7 = .ok (.if_icmp .gt 7, 3) := by decide +kernel
theorem dX9_isWithin_10 : decode cX9_isWithin 10 = .ok (.iconst 1, 1) := by decide +kernel
theorem dX9_isWithin_11 : decode cX9_isWithin 11 = .ok (.goto 4, 3) := by decide +kernel
theorem dX9_isWithin_14 : decode cX9_isWithin 14 = .ok (.iconst 0, 1) := by decide +kernel
theorem dX9_isWithin_15 : decode cX9_isWithin 15 = .ok (.ireturn, 1) := by decide +kernel
theorem dX9_isTime_0 : decode cX9_isTime 0 = .ok (.iload_n 0, 1) := by decide +kernel
theorem dX9_isTime_1 : decode cX9_isTime 1 = .ok (.ifCond .lt 19, 3) := by decide +kernel
theorem dX9_isTime_4 : decode cX9_isTime 4 = .ok (.iload_n 0, 1) := by decide +kernel
theorem dX9_isTime_5 : decode cX9_isTime 5 = .ok (.iload_n 1, 1) := by decide +kernel
theorem dX9_isTime_6 : decode cX9_isTime 6 = .ok (.if_icmp .ge 14, 3) := by decide +kernel
theorem dX9_isTime_9 : decode cX9_isTime 9 = .ok (.iload_n 1, 1) := by decide +kernel
theorem dX9_isTime_10 : decode cX9_isTime 10 = .ok (.sipush 9999, 3) := by decide +kernel
theorem dX9_isTime_13 : decode cX9_isTime 13 = .ok (.if_icmp .gt 7, 3) := by decide +kernel
theorem dX9_isTime_16 : decode cX9_isTime 16 = .ok (.iconst 1, 1) := by decide +kernel
theorem dX9_isTime_17 : decode cX9_isTime 17 = .ok (.goto 4, 3) := by decide +kernel
theorem dX9_isTime_20 : decode cX9_isTime 20 = .ok (.iconst 0, 1) := by decide +kernel
theorem dX9_isTime_21 : decode cX9_isTime 21 = .ok (.ireturn, 1) := by decide +kernel
theorem dJ6_bitCount_0f7a4_0 : decode cJ6_bitCount_0f7a4 0 = .ok (.iload_n 0, 1) := by decide +kernel
theorem dJ6_bitCount_0f7a4_1 : decode cJ6_bitCount_0f7a4 1 = .ok (.iload_n 0, 1) := by decide +kernel
theorem dJ6_bitCount_0f7a4_2 : decode cJ6_bitCount_0f7a4 2 = .ok (.iconst 1, 1) := by decide +kernel
theorem dJ6_bitCount_0f7a4_3 : decode cJ6_bitCount_0f7a4 3 = .ok (.iushr, 1) := by decide +kernel
theorem dJ6_bitCount_0f7a4_4 : decode cJ6_bitCount_0f7a4 4 = .ok (.ldc_w 265, 3) := by decide +kernel
theorem dJ6_bitCount_0f7a4_7 : decode cJ6_bitCount_0f7a4 7 = .ok (.iand, 1) := by decide +kernel
theorem dJ6_bitCount_0f7a4_8 : decode cJ6_bitCount_0f7a4 8 = .ok (.isub, 1) := by decide +kernel
theorem dJ6_bitCount_0f7a4_9 : decode cJ6_bitCount_0f7a4 9 = .ok (.istore_n 0, 1) := by decide +kernel
theorem dJ6_bitCount_0f7a4_10 : decode cJ6_bitCount_0f7a4 10 = .ok (.iload_n 0, 1) := by decide +kernel
theorem dJ6_bitCount_0f7a4_11 : decode cJ6_bitCount_0f7a4 11 = .ok (.ldc_w 266, 3) := by decide +kernel
theorem dJ6_bitCount_0f7a4_14 : decode cJ6_bitCount_0f7a4 14 = .ok (.iand, 1) := by decide +kernel
theorem dJ6_bitCount_0f7a4_15 : decode cJ6_bitCount_0f7a4 15 = .ok (.iload_n 0, 1) := by decide +kernel
theorem dJ6_bitCount_0f7a4_16 : decode cJ6_bitCount_0f7a4 16 = .ok (.iconst 2, 1) := by decide +kernel
theorem dJ6_bitCount_0f7a4_17 : decode cJ6_bitCount_0f7a4 17 = .ok (.iushr, 1) := by decide +kernel
theorem dJ6_bitCount_0f7a4_18 : decode cJ6_bitCount_0f7a4 18 = .ok (.ldc_w 266, 3) := by decide +kernel
theorem dJ6_bitCount_0f7a4_21 : decode cJ6_bitCount_0f7a4 21 = .ok (.iand, 1) := by decide +kernel
theorem dJ6_bitCount_0f7a4_22 : decode cJ6_bitCount_0f7a4 22 = .ok (.iadd, 1) := by decide +kernel
theorem dJ6_bitCount_0f7a4_23 : decode cJ6_bitCount_0f7a4 23 = .ok (.istore_n 0, 1) := by decide +kernel
theorem dJ6_bitCount_0f7a4_24 : decode cJ6_bitCount_0f7a4 24 = .ok (.iload_n 0, 1) := by decide +kernel
theorem dJ6_bitCount_0f7a4_25 : decode cJ6_bitCount_0f7a4 25 = .ok (.iload_n 0, 1) := by decide +kernel
theorem dJ6_bitCount_0f7a4_26 : decode cJ6_bitCount_0f7a4 26 = .ok (.iconst 4, 1) := by decide +kernel
theorem dJ6_bitCount_0f7a4_27 : decode cJ6_bitCount_0f7a4 27 = .ok (.iushr, 1) := by decide +kernel
theorem dJ6_bitCount_0f7a4_28 : decode cJ6_bitCount_0f7a4 28 = .ok (.iadd, 1) := by decide +kernel
theorem dJ6_bitCount_0f7a4_29 : decode cJ6_bitCount_0f7a4 29 = .ok (.ldc_w 267, 3) := by decide +kernel
theorem dJ6_bitCount_0f7a4_32 : decode cJ6_bitCount_0f7a4 32 = .ok (.iand, 1) := by decide +kernel
theorem dJ6_bitCount_0f7a4_33 : decode cJ6_bitCount_0f7a4 33 = .ok (.istore_n 0, 1) := by decide +kernel
theorem dJ6_bitCount_0f7a4_34 : decode cJ6_bitCount_0f7a4 34 = .ok (.iload_n 0, 1) := by decide +kernel
theorem dJ6_bitCount_0f7a4_35 : decode cJ6_bitCount_0f7a4 35 = .ok (.iload_n 0, 1) := by decide +kernel
theorem dJ6_bitCount_0f7a4_36 : decode cJ6_bitCount_0f7a4 36 = .ok (.bipush 8, 2) := by decide +kernel
theorem dJ6_bitCount_0f7a4_38 : decode cJ6_bitCount_0f7a4 38 = .ok (.iushr, 1) := by decide +kernel
theorem dJ6_bitCount_0f7a4_39 : decode cJ6_bitCount_0f7a4 39 = .ok (.iadd, 1) := by decide +kernel
theorem dJ6_bitCount_0f7a4_40 : decode cJ6_bitCount_0f7a4 40 = .ok (.istore_n 0, 1) := by decide +kernel
theorem dJ6_bitCount_0f7a4_41 : decode cJ6_bitCount_0f7a4 41 = .ok (.iload_n 0, 1) := by decide +kernel
theorem dJ6_bitCount_0f7a4_42 : decode cJ6_bitCount_0f7a4 42 = .ok (.iload_n 0, 1) := by decide +kernel
theorem dJ6_bitCount_0f7a4_43 : decode cJ6_bitCount_0f7a4 43 = .ok (.bipush 16, 2) := by decide +kernel
theorem dJ6_bitCount_0f7a4_45 : decode cJ6_bitCount_0f7a4 45 = .ok (.iushr, 1) := by decide +kernel
theorem dJ6_bitCount_0f7a4_46 : decode cJ6_bitCount_0f7a4 46 = .ok (.iadd, 1) := by decide +kernel
theorem dJ6_bitCount_0f7a4_47 : decode cJ6_bitCount_0f7a4 47 = .ok (.istore_n 0, 1) := by decide +kernel
theorem dJ6_bitCount_0f7a4_48 : decode cJ6_bitCount_0f7a4 48 = .ok (.iload_n 0, 1) := by decide +kernel
theorem dJ6_bitCount_0f7a4_49 : decode cJ6_bitCount_0f7a4 49 = .ok (.bipush 63, 2) := by decide +kernel
theorem dJ6_bitCount_0f7a4_51 : decode cJ6_bitCount_0f7a4 51 = .ok (.iand, 1) := by decide +kernel
theorem dJ6_bitCount_0f7a4_52 : decode cJ6_bitCount_0f7a4 52 = .ok (.ireturn, 1) := by decide +kernel
theorem dJ9_abs_0f7a4_0 : decode cJ9_abs_0f7a4 0 = .ok (.iload_n 0, 1) := by decide +kernel
theorem dJ9_abs_0f7a4_1 : decode cJ9_abs_0f7a4 1 = .ok (.ifCond .ge 8, 3) := by decide +kernel
theorem dJ9_abs_0f7a4_4 : decode cJ9_abs_0f7a4 4 = .ok (.iload_n 0, 1) := by decide +kernel
theorem dJ9_abs_0f7a4_5 : decode cJ9_abs_0f7a4 5 = .ok (.ineg, 1) := by decide +kernel
theorem dJ9_abs_0f7a4_6 : decode cJ9_abs_0f7a4 6 = .ok (.goto 4, 3) := by decide +kernel
theorem dJ9_abs_0f7a4_9 : decode cJ9_abs_0f7a4 9 = .ok (.iload_n 0, 1) := by decide +kernel
theorem dJ9_abs_0f7a4_10 : decode cJ9_abs_0f7a4 10 = .ok (.ireturn, 1) := by decide +kernel
theorem dJ9_max_7cf53_0 : decode cJ9_max_7cf53 0 = .ok (.iload_n 0, 1) := by decide +kernel
theorem dJ9_max_7cf53_1 : decode cJ9_max_7cf53 1 = .ok (.iload_n 1, 1) := by decide +kernel
theorem dJ9_max_7cf53_2 : decode cJ9_max_7cf53 2 = .ok (.if_icmp .lt 7, 3) := by decide +kernel
theorem dJ9_max_7cf53_5 : decode cJ9_max_7cf53 5 = .ok (.iload_n 0, 1) := by decide +kernel
theorem dJ9_max_7cf53_6 : decode cJ9_max_7cf53 6 = .ok (.goto 4, 3) := by decide +kernel
theorem dJ9_max_7cf53_9 : decode cJ9_max_7cf53 9 = .ok (.iload_n 1, 1) := by decide +kernel
theorem dJ9_max_7cf53_10 : decode cJ9_max_7cf53 10 = .ok (.ireturn, 1) := by decide +kernel
theorem dJ9_min_7cf53_0 : decode cJ9_min_7cf53 0 = .ok (.iload_n 0, 1) := by decide +kernel
theorem dJ9_min_7cf53_1 : decode cJ9_min_7cf53 1 = .ok (.iload_n 1, 1) := by decide +kernel
theorem dJ9_min_7cf53_2 : decode cJ9_min_7cf53 2 = .ok (.if_icmp .gt 7, 3) := by decide +kernel
theorem dJ9_min_7cf53_5 : decode cJ9_min_7cf53 5 = .ok (.iload_n 0, 1) := by decide +kernel
theorem dJ9_min_7cf53_6 : decode cJ9_min_7cf53 6 = .ok (.goto 4, 3) := by decide +kernel
theorem dJ9_min_7cf53_9 : decode cJ9_min_7cf53 9 = .ok (.iload_n 1, 1) := by decide +kernel
theorem dJ9_min_7cf53_10 : decode cJ9_min_7cf53 10 = .ok (.ireturn, 1) := by decide +kernel
theorem dJ0_length_8abf5_0 : decode cJ0_length_8abf5 0 = .ok (.aload_n 0, 1) := by decide +kernel
theorem dJ0_length_8abf5_1 : decode cJ0_length_8abf5 1 = .ok (.getfield 9, 3) := by decide +kernel
theorem dJ0_length_8abf5_4 : decode cJ0_length_8abf5 4 = .ok (.arraylength, 1) := by decide +kernel
theorem dJ0_length_8abf5_5 : decode cJ0_length_8abf5 5 = .ok (.aload_n 0, 1) := by decide +kernel
theorem dJ0_length_8abf5_6 : decode cJ0_length_8abf5 6 = .ok (.invokevirtual 335, 3) := by decide +kernel
theorem dJ0_length_8abf5_9 : decode cJ0_length_8abf5 9 = .ok (.ishr, 1) := by decide +kernel
theorem dJ0_length_8abf5_10 : decode cJ0_length_8abf5 10 = .ok (.ireturn, 1) := by decide +kernel
theorem dJ0_charAt_5068e_0 : decode cJ0_charAt_5068e 0 = .ok (.aload_n 0, 1) := by decide +kernel
theorem dJ0_charAt_5068e_1 : decode cJ0_charAt_5068e 1 = .ok (.invokevirtual 492, 3) := by decide +kernel
theorem dJ0_charAt_5068e_4 : decode cJ0_charAt_5068e 4 = .ok (.ifCond .eq 12, 3) := by decide +kernel
theorem dJ0_charAt_5068e_7 : decode cJ0_charAt_5068e 7 = .ok (.aload_n 0, 1) := by decide +kernel
theorem dJ0_charAt_5068e_8 : decode cJ0_charAt_5068e 8 = .ok (.getfield 9, 3) := by decide +kernel
theorem dJ0_charAt_5068e_11 : decode cJ0_charAt_5068e 11 = .ok (.iload_n 1, 1) := by decide +kernel
theorem dJ0_charAt_5068e_12 : decode cJ0_charAt_5068e 12 = .ok (.invokestatic 495, 3) := by decide +kernel
theorem dJ0_charAt_5068e_15 : decode cJ0_charAt_5068e 15 = .ok (.ireturn, 1) := by decide +kernel
theorem dJ0_charAt_5068e_16 : decode cJ0_charAt_5068e 16 = .ok (.aload_n 0, 1) := by decide +kernel
theorem dJ0_charAt_5068e_17 : decode cJ0_charAt_5068e 17 = .ok (.getfield 9, 3) := by decide +kernel
theorem dJ0_charAt_5068e_20 : decode cJ0_charAt_5068e 20 = .ok (.iload_n 1, 1) := by decide +kernel
theorem dJ0_charAt_5068e_21 : decode cJ0_charAt_5068e 21 = .ok (.invokestatic 498, 3) := by decide +kernel
theorem dJ0_charAt_5068e_24 : decode cJ0_charAt_5068e 24 = .ok (.ireturn, 1) := by decide +kernel
theorem dJ0_coder_7d493_0 : decode cJ0_coder_7d493 0 = .ok (.getstatic 38, 3) := by decide +kernel
theorem dJ0_coder_7d493_3 : decode cJ0_coder_7d493 3 = .ok (.ifCond .eq 10, 3) := by decide +kernel
theorem dJ0_coder_7d493_6 : decode cJ0_coder_7d493 6 = .ok (.aload_n 0, 1) := by decide +kernel
theorem dJ0_coder_7d493_7 : decode cJ0_coder_7d493 7 = .ok (.getfield 15, 3) := by decide +kernel
theorem dJ0_coder_7d493_10 : decode cJ0_coder_7d493 10 = .ok (.goto 4, 3) := by decide +kernel
theorem dJ0_coder_7d493_13 : decode cJ0_coder_7d493 13 = .ok (.iconst 1, 1) := by decide +kernel
theorem dJ0_coder_7d493_14 : decode cJ0_coder_7d493 14 = .ok (.ireturn, 1) := by decide +kernel
theorem dJ0_isLatin1_aae02_0 : decode cJ0_isLatin1_aae02 0 = .ok (.getstatic 38, 3) := by decide +kernel
theorem dJ0_isLatin1_aae02_3 : decode cJ0_isLatin1_aae02 3 = .ok (.ifCond .eq 14, 3) := by decide +kernel
theorem dJ0_isLatin1_aae02_6 : decode cJ0_isLatin1_aae02 6 = .ok (.aload_n 0, 1) := by decide +kernel
theorem dJ0_isLatin1_aae02_7 : decode cJ0_isLatin1_aae02 7 = .ok (.getfield 15, 3) := by decide +kernel
theorem dJ0_isLatin1_aae02_10 : decode cJ0_isLatin1_aae02 10 = .ok (.ifCond .ne 7, 3) := by decide +kernel
theorem dJ0_isLatin1_aae02_13 : decode cJ0_isLatin1_aae02 13 = .ok (.iconst 1, 1) := by decide +kernel
theorem dJ0_isLatin1_aae02_14 : decode cJ0_isLatin1_aae02 14 = .ok (.goto 4, 3) := by decide +kernel
theorem dJ0_isLatin1_aae02_17 : decode cJ0_isLatin1_aae02 17 = .ok (.iconst 0, 1) := by decide +kernel
theorem dJ0_isLatin1_aae02_18 : decode cJ0_isLatin1_aae02 18 = .ok (.ireturn, 1) := by decide +kernel
theorem dJ0_checkIndex_df160_0 : decode cJ0_checkIndex_df160 0 = .ok (.iload_n 0, 1) := by decide +kernel
theorem dJ0_checkIndex_df160_1 : decode cJ0_checkIndex_df160 1 = .ok (.iload_n 1, 1) := by decide +kernel
theorem dJ0_checkIndex_df160_2 : decode cJ0_checkIndex_df160 2 = .ok (.getstatic 1053, 3) := by decide +kernel
theorem dJ0_checkIndex_df160_5 : decode cJ0_checkIndex_df160 5 = .ok (.invokestatic 1059, 3) := by decide +kernel
theorem dJ0_checkIndex_df160_8 : decode cJ0_checkIndex_df160 8 = .ok (.pop, 1) := by decide +kernel
theorem dJ0_checkIndex_df160_9 : decode cJ0_checkIndex_df160 9 = .ok (.return_, 1) := by decide +kernel
theorem dJ1_charAt_3b067_0 : decode cJ1_charAt_3b067 0 = .ok (.iload_n 1, 1) := by decide +kernel
theorem dJ1_charAt_3b067_1 : decode cJ1_charAt_3b067 1 = .ok (.aload_n 0, 1) := by decide +kernel
theorem dJ1_charAt_3b067_2 : decode cJ1_charAt_3b067 2 = .ok (.arraylength, 1) := by decide +kernel
theorem dJ1_charAt_3b067_3 : decode cJ1_charAt_3b067 3 = .ok (.invokestatic 9, 3) := by decide +kernel
theorem dJ1_charAt_3b067_6 : decode cJ1_charAt_3b067 6 = .ok (.aload_n 0, 1) := by decide +kernel
theorem dJ1_charAt_3b067_7 : decode cJ1_charAt_3b067 7 = .ok (.iload_n 1, 1) := by decide +kernel
theorem dJ1_charAt_3b067_8 : decode cJ1_charAt_3b067 8 = .ok (.baload, 1) := by decide +kernel
theorem dJ1_charAt_3b067_9 : decode cJ1_charAt_3b067 9 = .ok (.sipush 255, 3) := by decide +kernel
theorem dJ1_charAt_3b067_12 : decode cJ1_charAt_3b067 12 = .ok (.iand, 1) := by decide +kernel
theorem dJ1_charAt_3b067_13 : decode cJ1_charAt_3b067 13 = .ok (.i2c, 1) := by decide +kernel
theorem dJ1_charAt_3b067_14 : decode cJ1_charAt_3b067 14 = .ok (.ireturn, 1) := by decide +kernel
theorem dJ2_getChar_3b067_0 : decode cJ2_getChar_3b067 0 = .ok (.getstatic 44, 3) := by decide +kernel
theorem dJ2_getChar_3b067_3 : decode cJ2_getChar_3b067 3 = .ok (.ifCond .ne 25, 3) := by decide +kernel
theorem dJ2_getChar_3b067_6 : decode cJ2_getChar_3b067 6 = .ok (.iload_n 1, 1) := by decide +kernel
theorem dJ2_getChar_3b067_7 : decode cJ2_getChar_3b067 7 = .ok (.ifCond .lt 11, 3) := by decide +kernel
theorem dJ2_getChar_3b067_10 : decode cJ2_getChar_3b067 10 = .ok (.iload_n 1, 1) := by decide +kernel
theorem dJ2_getChar_3b067_11 : decode cJ2_getChar_3b067 11 = .ok (.aload_n 0, 1) := by decide +kernel
theorem dJ2_getChar_3b067_12 : decode cJ2_getChar_3b067 12 = .ok (.invokestatic 48, 3) := by decide +kernel
theorem dJ2_getChar_3b067_15 : decode cJ2_getChar_3b067 15 = .ok (.if_icmp .lt 13, 3) := by decide +kernel
theorem dJ2_getChar_3b067_18 : decode cJ2_getChar_3b067 18 = .ok (.new 52, 3) := by decide +kernel
theorem dJ2_getChar_3b067_21 : decode cJ2_getChar_3b067 21 = .ok (.dup, 1) := by decide +kernel
theorem dJ2_getChar_3b067_22 : decode cJ2_getChar_3b067 22 = .ok (.ldc 54, 2) := by decide +kernel
theorem dJ2_getChar_3b067_24 : decode cJ2_getChar_3b067 24 = .ok (.invokespecial 56, 3) := by decide +kernel
theorem dJ2_getChar_3b067_27 : decode cJ2_getChar_3b067 27 = .ok (.athrow, 1) := by decide +kernel
theorem dJ2_getChar_3b067_28 : decode cJ2_getChar_3b067 28 = .ok (.iload_n 1, 1) := by decide +kernel
theorem dJ2_getChar_3b067_29 : decode cJ2_getChar_3b067 29 = .ok (.iconst 1, 1) := by decide +kernel
theorem dJ2_getChar_3b067_30 : decode cJ2_getChar_3b067 30 = .ok (.ishl, 1) := by decide +kernel
theorem dJ2_getChar_3b067_31 : decode cJ2_getChar_3b067 31 = .ok (.istore_n 1, 1) := by decide +kernel
theorem dJ2_getChar_3b067_32 : decode cJ2_getChar_3b067 32 = .ok (.aload_n 0, 1) := by decide +kernel
theorem dJ2_getChar_3b067_33 : decode cJ2_getChar_3b067 33 = .ok (.iload_n 1, 1) := by decide +kernel
theorem dJ2_getChar_3b067_34 : decode cJ2_getChar_3b067 34 = .ok (.iinc 1 1, 3) := by decide +kernel
theorem dJ2_getChar_3b067_37 : decode cJ2_getChar_3b067 37 = .ok (.baload, 1) := by decide +kernel
theorem dJ2_getChar_3b067_38 : decode cJ2_getChar_3b067 38 = .ok (.sipush 255, 3) := by decide +kernel
theorem dJ2_getChar_3b067_41 : decode cJ2_getChar_3b067 41 = .ok (.iand, 1) := by decide +kernel
theorem dJ2_getChar_3b067_42 : decode cJ2_getChar_3b067 42 = .ok (.getstatic 59, 3) := by decide +kernel
theorem dJ2_getChar_3b067_45 : decode cJ2_getChar_3b067 45 = .ok (.ishl, 1) := by decide +kernel
theorem dJ2_getChar_3b067_46 : decode cJ2_getChar_3b067 46 = .ok (.aload_n 0, 1) := by decide +kernel
theorem dJ2_getChar_3b067_47 : decode cJ2_getChar_3b067 47 = .ok (.iload_n 1, 1) := by decide +kernel
theorem dJ2_getChar_3b067_48 : decode cJ2_getChar_3b067 48 = .ok (.baload, 1) := by decide +kernel
theorem dJ2_getChar_3b067_49 : decode cJ2_getChar_3b067 49 = .ok (.sipush 255, 3) := by decide +kernel
theorem dJ2_getChar_3b067_52 : decode cJ2_getChar_3b067 52 = .ok (.iand, 1) := by decide +kernel
theorem dJ2_getChar_3b067_53 : decode cJ2_getChar_3b067 53 = .ok (.getstatic 63, 3) := by decide +kernel
theorem dJ2_getChar_3b067_56 : decode cJ2_getChar_3b067 56 = .ok (.ishl, 1) := by decide +kernel
theorem dJ2_getChar_3b067_57 : decode cJ2_getChar_3b067 57 = .ok (.ior, 1) := by decide +kernel
theorem dJ2_getChar_3b067_58 : decode cJ2_getChar_3b067 58 = .ok (.i2c, 1) := by decide +kernel
theorem dJ2_getChar_3b067_59 : decode cJ2_getChar_3b067 59 = .ok (.ireturn, 1) := by decide +kernel
theorem dJ2_length_9d52b_0 : decode cJ2_length_9d52b 0 = .ok (.aload_n 0, 1) := by decide +kernel
theorem dJ2_length_9d52b_1 : decode cJ2_length_9d52b 1 = .ok (.arraylength, 1) := by decide +kernel
theorem dJ2_length_9d52b_2 : decode cJ2_length_9d52b 2 = .ok (.iconst 1, 1) := by decide +kernel
theorem dJ2_length_9d52b_3 : decode cJ2_length_9d52b 3 = .ok (.ishr, 1) := by decide +kernel
theorem dJ2_length_9d52b_4 : decode cJ2_length_9d52b 4 = .ok (.ireturn, 1) := by decide +kernel
theorem dJ2_charAt_3b067_0 : decode cJ2_charAt_3b067 0 = .ok (.iload_n 1, 1) := by decide +kernel
theorem dJ2_charAt_3b067_1 : decode cJ2_charAt_3b067 1 = .ok (.aload_n 0, 1) := by decide +kernel
theorem dJ2_charAt_3b067_2 : decode cJ2_charAt_3b067 2 = .ok (.invokestatic 67, 3) := by decide +kernel
theorem dJ2_charAt_3b067_5 : decode cJ2_charAt_3b067 5 = .ok (.aload_n 0, 1) := by decide +kernel
theorem dJ2_charAt_3b067_6 : decode cJ2_charAt_3b067 6 = .ok (.iload_n 1, 1) := by decide +kernel
theorem dJ2_charAt_3b067_7 : decode cJ2_charAt_3b067 7 = .ok (.invokestatic 71, 3) := by decide +kernel
theorem dJ2_charAt_3b067_10 : decode cJ2_charAt_3b067 10 = .ok (.ireturn, 1) := by decide +kernel
theorem dJ2_checkIndex_2214a_0 : decode cJ2_checkIndex_2214a 0 = .ok (.iload_n 0, 1) := by decide +kernel
theorem dJ2_checkIndex_2214a_1 : decode cJ2_checkIndex_2214a 1 = .ok (.aload_n 1, 1) := by decide +kernel
theorem dJ2_checkIndex_2214a_2 : decode cJ2_checkIndex_2214a 2 = .ok (.invokestatic 48, 3) := by decide +kernel
theorem dJ2_checkIndex_2214a_5 : decode cJ2_checkIndex_2214a 5 = .ok (.invokestatic 414, 3) := by decide +kernel
theorem dJ2_checkIndex_2214a_8 : decode cJ2_checkIndex_2214a 8 = .ok (.return_, 1) := by decide +kernel
theorem dJ3_checkIndex_8e157_0 : decode cJ3_checkIndex_8e157 0 = .ok (.iload_n 0, 1) := by decide +kernel
theorem dJ3_checkIndex_8e157_1 : decode cJ3_checkIndex_8e157 1 = .ok (.ifCond .lt 8, 3) := by decide +kernel
theorem dJ3_checkIndex_8e157_4 : decode cJ3_checkIndex_8e157 4 = .ok (.iload_n 0, 1) := by decide +kernel
theorem dJ3_checkIndex_8e157_5 : decode cJ3_checkIndex_8e157 5 = .ok (.iload_n 1, 1) := by decide +kernel
theorem dJ3_checkIndex_8e157_6 : decode cJ3_checkIndex_8e157 6 = .ok (.if_icmp .lt 10, 3) := by decide +kernel
theorem dJ3_checkIndex_8e157_9 : decode cJ3_checkIndex_8e157 9 = .ok (.aload_n 2, 1) := by decide +kernel
theorem dJ3_checkIndex_8e157_10 : decode cJ3_checkIndex_8e157 10 = .ok (.iload_n 0, 1) := by decide +kernel
theorem dJ3_checkIndex_8e157_11 : decode cJ3_checkIndex_8e157 11 = .ok (.iload_n 1, 1) := by decide +kernel
theorem dJ3_checkIndex_8e157_12 : decode cJ3_checkIndex_8e157 12 = .ok (.invokestatic 95, 3) := by decide +kernel
theorem dJ3_checkIndex_8e157_15 : decode cJ3_checkIndex_8e157 15 = .ok (.athrow, 1) := by decide +kernel
theorem dJ3_checkIndex_8e157_16 : decode cJ3_checkIndex_8e157 16 = .ok (.iload_n 0, 1) := by decide +kernel
theorem dJ3_checkIndex_8e157_17 : decode cJ3_checkIndex_8e157 17 = .ok (.ireturn, 1) := by decide +kernel
theorem dL_cell_0 : decode cL_cell 0 = .ok (.iload_n 1, 1) := by decide +kernel
theorem dL_cell_1 : decode cL_cell 1 = .ok (.aload_n 0, 1) := by decide +kernel
theorem dL_cell_2 : decode cL_cell 2 = .ok (.arraylength, 1) := by decide +kernel
theorem dL_cell_3 : decode cL_cell 3 = .ok (.if_icmp .ge 9, 3) := by decide +kernel
theorem dL_cell_6 : decode cL_cell 6 = .ok (.aload_n 0, 1) := by decide +kernel
theorem dL_cell_7 : decode cL_cell 7 = .ok (.iload_n 1, 1) := by decide +kernel
theorem dL_cell_8 : decode cL_cell 8 = .ok (.iaload, 1) := by decide +kernel
theorem dL_cell_9 : decode cL_cell 9 = .ok (.goto 11, 3) := by decide +kernel
theorem dL_cell_12 : decode cL_cell 12 = .ok (.ldc 7, 2) := by decide +kernel
theorem dL_cell_14 : decode cL_cell 14 = .ok (.iload_n 1, 1) := by decide +kernel
theorem dL_cell_15 : decode cL_cell 15 = .ok (.imul, 1) := by decide +kernel
theorem dL_cell_16 : decode cL_cell 16 = .ok (.sipush 1709, 3) := by decide +kernel
theorem dL_cell_19 : decode cL_cell 19 = .ok (.iadd, 1) := by decide +kernel
theorem dL_cell_20 : decode cL_cell 20 = .ok (.ldc 8, 2) := by decide +kernel
theorem dL_cell_22 : decode cL_cell 22 = .ok (.iand, 1) := by decide +kernel
theorem dL_cell_23 : decode cL_cell 23 = .ok (.ireturn, 1) := by decide +kernel
theorem dL_sets_0 : decode cL_sets 0 = .ok (.iconst 1, 1) := by decide +kernel
theorem dL_sets_1 : decode cL_sets 1 = .ok (.istore_n 2, 1) := by decide +kernel
theorem dL_sets_2 : decode cL_sets 2 = .ok (.aload_n 1, 1) := by decide +kernel
theorem dL_sets_3 : decode cL_sets 3 = .ok (.iconst 0, 1) := by decide +kernel
theorem dL_sets_4 : decode cL_sets 4 = .ok (.invokestatic 9, 3) := by decide +kernel
theorem dL_sets_7 : decode cL_sets 7 = .ok (.bipush 6, 2) := by decide +kernel
theorem dL_sets_9 : decode cL_sets 9 = .ok (.irem, 1) := by decide +kernel
theorem dL_sets_10 : decode cL_sets 10 = .ok (.istore_n 3, 1) := by decide +kernel
theorem dL_sets_11 : decode cL_sets 11 = .ok (.iconst 0, 1) := by decide +kernel
theorem dL_sets_12 : decode cL_sets 12 = .ok (.istore 4, 2) := by decide +kernel
theorem dL_sets_14 : decode cL_sets 14 = .ok (.iload 4, 2) := by decide +kernel
theorem dL_sets_16 : decode cL_sets 16 = .ok (.iload_n 3, 1) := by decide +kernel
theorem dL_sets_17 : decode cL_sets 17 = .ok (.if_icmp .ge 55, 3) := by decide +kernel
theorem dL_sets_20 : decode cL_sets 20 = .ok (.iload_n 2, 1) := by decide +kernel
theorem dL_sets_21 : decode cL_sets 21 = .ok (.ifCond .eq 51, 3) := by decide +kernel
theorem dL_sets_24 : decode cL_sets 24 = .ok (.aload_n 0, 1) := by decide +kernel
theorem dL_sets_25 : decode cL_sets 25 = .ok (.aload_n 1, 1) := by decide +kernel
theorem dL_sets_26 : decode cL_sets 26 = .ok (.iconst 1, 1) := by decide +kernel
theorem dL_sets_27 : decode cL_sets 27 = .ok (.iload 4, 2) := by decide +kernel
theorem dL_sets_29 : decode cL_sets 29 = .ok (.iadd, 1) := by decide +kernel
theorem dL_sets_30 : decode cL_sets 30 = .ok (.invokestatic 9, 3) := by decide +kernel
theorem dL_sets_33 : decode cL_sets 33 = .ok (.sipush 300, 3) := by decide +kernel
theorem dL_sets_36 : decode cL_sets 36 = .ok (.irem, 1) := by decide +kernel
theorem dL_sets_37 : decode cL_sets 37 = .ok (.iconst 1, 1) := by decide +kernel
theorem dL_sets_38 : decode cL_sets 38 = .ok (.aload_n 1, 1) := by decide +kernel
theorem dL_sets_39 : decode cL_sets 39 = .ok (.bipush 7, 2) := by decide +kernel
theorem dL_sets_41 : decode cL_sets 41 = .ok (.iload 4, 2) := by decide +kernel
theorem dL_sets_43 : decode cL_sets 43 = .ok (.iadd, 1) := by decide +kernel
theorem dL_sets_44 : decode cL_sets 44 = .ok (.invokestatic 9, 3) := by decide +kernel
theorem dL_sets_47 : decode cL_sets 47 = .ok (.sipush 200, 3) := by decide +kernel
theorem dL_sets_50 : decode cL_sets 50 = .ok (.irem, 1) := by decide +kernel
theorem dL_sets_51 : decode cL_sets 51 = .ok (.iadd, 1) := by decide +kernel
theorem dL_sets_52 : decode cL_sets 52 = .ok (.invokevirtual 15, 3) := by decide +kernel
theorem dL_sets_55 : decode cL_sets 55 = .ok (.iload 4, 2) := by decide +kernel
theorem dL_sets_57 : decode cL_sets 57 = .ok (.if_icmp .ne 7, 3) := by decide +kernel
theorem dL_sets_60 : decode cL_sets 60 = .ok (.iconst 1, 1) := by decide +kernel
theorem dL_sets_61 : decode cL_sets 61 = .ok (.goto 4, 3) := by decide +kernel
theorem dL_sets_64 : decode cL_sets 64 = .ok (.iconst 0, 1) := by decide +kernel
theorem dL_sets_65 : decode cL_sets 65 = .ok (.istore_n 2, 1) := by decide +kernel
theorem dL_sets_66 : decode cL_sets 66 = .ok (.iinc 4 1, 3) := by decide +kernel
theorem dL_sets_69 : decode cL_sets 69 = .ok (.goto (-55), 3) := by decide +kernel
theorem dL_sets_72 : decode cL_sets 72 = .ok (.iconst 0, 1) := by decide +kernel
theorem dL_sets_73 : decode cL_sets 73 = .ok (.istore 4, 2) := by decide +kernel
theorem dL_sets_75 : decode cL_sets 75 = .ok (.iload 4, 2) := by decide +kernel
theorem dL_sets_77 : decode cL_sets 77 = .ok (.aload_n 1, 1) := by decide +kernel
theorem dL_sets_78 : decode cL_sets 78 = .ok (.bipush 13, 2) := by decide +kernel
theorem dL_sets_80 : decode cL_sets 80 = .ok (.invokestatic 9, 3) := by decide +kernel
theorem dL_sets_83 : decode cL_sets 83 = .ok (.bipush 8, 2) := by decide +kernel
theorem dL_sets_85 : decode cL_sets 85 = .ok (.irem, 1) := by decide +kernel
theorem dL_sets_86 : decode cL_sets 86 = .ok (.if_icmp .ge 42, 3) := by decide +kernel
theorem dL_sets_89 : decode cL_sets 89 = .ok (.iload_n 2, 1) := by decide +kernel
theorem dL_sets_90 : decode cL_sets 90 = .ok (.ifCond .eq 38, 3) := by decide +kernel
theorem dL_sets_93 : decode cL_sets 93 = .ok (.aload_n 0, 1) := by decide +kernel
theorem dL_sets_94 : decode cL_sets 94 = .ok (.iconst 1, 1) := by decide +kernel
theorem dL_sets_95 : decode cL_sets 95 = .ok (.aload_n 1, 1) := by decide +kernel
theorem dL_sets_96 : decode cL_sets 96 = .ok (.bipush 14, 2) := by decide +kernel
theorem dL_sets_98 : decode cL_sets 98 = .ok (.iload 4, 2) := by decide +kernel
theorem dL_sets_100 : decode cL_sets 100 = .ok (.iadd, 1) := by decide +kernel
theorem dL_sets_101 : decode cL_sets 101 = .ok (.invokestatic 9, 3) := by decide +kernel
theorem dL_sets_104 : decode cL_sets 104 = .ok (.sipush 500, 3) := by decide +kernel
theorem dL_sets_107 : decode cL_sets 107 = .ok (.irem, 1) := by decide +kernel
theorem dL_sets_108 : decode cL_sets 108 = .ok (.iadd, 1) := by decide +kernel
theorem dL_sets_109 : decode cL_sets 109 = .ok (.iconst 1, 1) := by decide +kernel
theorem dL_sets_110 : decode cL_sets 110 = .ok (.invokevirtual 21, 3) := by decide +kernel
theorem dL_sets_113 : decode cL_sets 113 = .ok (.ifCond .le 7, 3) := by decide +kernel
theorem dL_sets_116 : decode cL_sets 116 = .ok (.iconst 1, 1) := by decide +kernel
theorem dL_sets_117 : decode cL_sets 117 = .ok (.goto 4, 3) := by decide +kernel
theorem dL_sets_120 : decode cL_sets 120 = .ok (.iconst 0, 1) := by decide +kernel
theorem dL_sets_121 : decode cL_sets 121 = .ok (.istore_n 2, 1) := by decide +kernel
theorem dL_sets_122 : decode cL_sets 122 = .ok (.iinc 4 1, 3) := by decide +kernel
theorem dL_sets_125 : decode cL_sets 125 = .ok (.goto (-50), 3) := by decide +kernel
theorem dL_sets_128 : decode cL_sets 128 = .ok (.iconst 1, 1) := by decide +kernel
theorem dL_sets_129 : decode cL_sets 129 = .ok (.aload_n 1, 1) := by decide +kernel
theorem dL_sets_130 : decode cL_sets 130 = .ok (.bipush 22, 2) := by decide +kernel
theorem dL_sets_132 : decode cL_sets 132 = .ok (.invokestatic 9, 3) := by decide +kernel
theorem dL_sets_135 : decode cL_sets 135 = .ok (.bipush 6, 2) := by decide +kernel
theorem dL_sets_137 : decode cL_sets 137 = .ok (.irem, 1) := by decide +kernel
theorem dL_sets_138 : decode cL_sets 138 = .ok (.iadd, 1) := by decide +kernel
theorem dL_sets_139 : decode cL_sets 139 = .ok (.istore 4, 2) := by decide +kernel
theorem dL_sets_141 : decode cL_sets 141 = .ok (.iconst 0, 1) := by decide +kernel
theorem dL_sets_142 : decode cL_sets 142 = .ok (.istore 5, 2) := by decide +kernel
theorem dL_sets_144 : decode cL_sets 144 = .ok (.iload 5, 2) := by decide +kernel
theorem dL_sets_146 : decode cL_sets 146 = .ok (.iload 4, 2) := by decide +kernel
theorem dL_sets_148 : decode cL_sets 148 = .ok (.if_icmp .ge 128, 3) := by decide +kernel
theorem dL_sets_151 : decode cL_sets 151 = .ok (.iload_n 2, 1) := by decide +kernel
theorem dL_sets_152 : decode cL_sets 152 = .ok (.ifCond .eq 124, 3) := by decide +kernel
theorem dL_sets_155 : decode cL_sets 155 = .ok (.aload_n 0, 1) := by decide +kernel
theorem dL_sets_156 : decode cL_sets 156 = .ok (.aload_n 1, 1) := by decide +kernel
theorem dL_sets_157 : decode cL_sets 157 = .ok (.bipush 23, 2) := by decide +kernel
theorem dL_sets_159 : decode cL_sets 159 = .ok (.iload 5, 2) := by decide +kernel
theorem dL_sets_161 : decode cL_sets 161 = .ok (.iadd, 1) := by decide +kernel
theorem dL_sets_162 : decode cL_sets 162 = .ok (.invokestatic 9, 3) := by decide +kernel
theorem dL_sets_165 : decode cL_sets 165 = .ok (.invokestatic 25, 3) := by decide +kernel
theorem dL_sets_168 : decode cL_sets 168 = .ok (.istore_n 2, 1) := by decide +kernel
theorem dL_sets_169 : decode cL_sets 169 = .ok (.aload_n 1, 1) := by decide +kernel
theorem dL_sets_170 : decode cL_sets 170 = .ok (.bipush 30, 2) := by decide +kernel
theorem dL_sets_172 : decode cL_sets 172 = .ok (.iload 5, 2) := by decide +kernel
theorem dL_sets_174 : decode cL_sets 174 = .ok (.iadd, 1) := by decide +kernel
theorem dL_sets_175 : decode cL_sets 175 = .ok (.invokestatic 9, 3) := by decide +kernel
theorem dL_sets_178 : decode cL_sets 178 = .ok (.sipush 300, 3) := by decide +kernel
theorem dL_sets_181 : decode cL_sets 181 = .ok (.irem, 1) := by decide +kernel
theorem dL_sets_182 : decode cL_sets 182 = .ok (.istore 6, 2) := by decide +kernel
theorem dL_sets_184 : decode cL_sets 184 = .ok (.iload 6, 2) := by decide +kernel
theorem dL_sets_186 : decode cL_sets 186 = .ok (.iconst 1, 1) := by decide +kernel
theorem dL_sets_187 : decode cL_sets 187 = .ok (.iadd, 1) := by decide +kernel
theorem dL_sets_188 : decode cL_sets 188 = .ok (.aload_n 1, 1) := by decide +kernel
theorem dL_sets_189 : decode cL_sets 189 = .ok (.bipush 37, 2) := by decide +kernel
theorem dL_sets_191 : decode cL_sets 191 = .ok (.iload 5, 2) := by decide +kernel
theorem dL_sets_193 : decode cL_sets 193 = .ok (.iadd, 1) := by decide +kernel
theorem dL_sets_194 : decode cL_sets 194 = .ok (.invokestatic 9, 3) := by decide +kernel
theorem dL_sets_197 : decode cL_sets 197 = .ok (.bipush 120, 2) := by decide +kernel
theorem dL_sets_199 : decode cL_sets 199 = .ok (.irem, 1) := by decide +kernel
theorem dL_sets_200 : decode cL_sets 200 = .ok (.iadd, 1) := by decide +kernel
theorem dL_sets_201 : decode cL_sets 201 = .ok (.istore 7, 2) := by decide +kernel
theorem dL_sets_203 : decode cL_sets 203 = .ok (.aload_n 0, 1) := by decide +kernel
theorem dL_sets_204 : decode cL_sets 204 = .ok (.iload 6, 2) := by decide +kernel
theorem dL_sets_206 : decode cL_sets 206 = .ok (.iload 7, 2) := by decide +kernel
theorem dL_sets_208 : decode cL_sets 208 = .ok (.aload_n 1, 1) := by decide +kernel
theorem dL_sets_209 : decode cL_sets 209 = .ok (.bipush 44, 2) := by decide +kernel
theorem dL_sets_211 : decode cL_sets 211 = .ok (.iload 5, 2) := by decide +kernel
theorem dL_sets_213 : decode cL_sets 213 = .ok (.iadd, 1) := by decide +kernel
theorem dL_sets_214 : decode cL_sets 214 = .ok (.invokestatic 9, 3) := by decide +kernel
theorem dL_sets_217 : decode cL_sets 217 = .ok (.iconst 4, 1) := by decide +kernel
theorem dL_sets_218 : decode cL_sets 218 = .ok (.irem, 1) := by decide +kernel
theorem dL_sets_219 : decode cL_sets 219 = .ok (.invokevirtual 29, 3) := by decide +kernel
theorem dL_sets_222 : decode cL_sets 222 = .ok (.istore 8, 2) := by decide +kernel
theorem dL_sets_224 : decode cL_sets 224 = .ok (.iload_n 2, 1) := by decide +kernel
theorem dL_sets_225 : decode cL_sets 225 = .ok (.ifCond .eq 43, 3) := by decide +kernel
theorem dL_sets_228 : decode cL_sets 228 = .ok (.iload 8, 2) := by decide +kernel
theorem dL_sets_230 : decode cL_sets 230 = .ok (.ifCond .lt 38, 3) := by decide +kernel
theorem dL_sets_233 : decode cL_sets 233 = .ok (.iload 8, 2) := by decide +kernel
theorem dL_sets_235 : decode cL_sets 235 = .ok (.iload 5, 2) := by decide +kernel
theorem dL_sets_237 : decode cL_sets 237 = .ok (.if_icmp .gt 31, 3) := by decide +kernel
theorem dL_sets_240 : decode cL_sets 240 = .ok (.aload_n 0, 1) := by decide +kernel
theorem dL_sets_241 : decode cL_sets 241 = .ok (.iload 8, 2) := by decide +kernel
theorem dL_sets_243 : decode cL_sets 243 = .ok (.iconst 0, 1) := by decide +kernel
theorem dL_sets_244 : decode cL_sets 244 = .ok (.invokevirtual 33, 3) := by decide +kernel
theorem dL_sets_247 : decode cL_sets 247 = .ok (.iload 6, 2) := by decide +kernel
theorem dL_sets_249 : decode cL_sets 249 = .ok (.if_icmp .ne 19, 3) := by decide +kernel
theorem dL_sets_252 : decode cL_sets 252 = .ok (.aload_n 0, 1) := by decide +kernel
theorem dL_sets_253 : decode cL_sets 253 = .ok (.iload 8, 2) := by decide +kernel
theorem dL_sets_255 : decode cL_sets 255 = .ok (.iconst 1, 1) := by decide +kernel
theorem dL_sets_256 : decode cL_sets 256 = .ok (.invokevirtual 33, 3) := by decide +kernel
theorem dL_sets_259 : decode cL_sets 259 = .ok (.iload 7, 2) := by decide +kernel
theorem dL_sets_261 : decode cL_sets 261 = .ok (.if_icmp .ne 7, 3) := by decide +kernel
theorem dL_sets_264 : decode cL_sets 264 = .ok (.iconst 1, 1) := by decide +kernel
theorem dL_sets_265 : decode cL_sets 265 = .ok (.goto 4, 3) := by decide +kernel
theorem dL_sets_268 : decode cL_sets 268 = .ok (.iconst 0, 1) := by decide +kernel
theorem dL_sets_269 : decode cL_sets 269 = .ok (.istore_n 2, 1) := by decide +kernel
theorem dL_sets_270 : decode cL_sets 270 = .ok (.iinc 5 1, 3) := by decide +kernel
theorem dL_sets_273 : decode cL_sets 273 = .ok (.goto (-129), 3) := by decide +kernel
theorem dL_sets_276 : decode cL_sets 276 = .ok (.iload_n 2, 1) := by decide +kernel
theorem dL_sets_277 : decode cL_sets 277 = .ok (.ifCond .eq 66, 3) := by decide +kernel
theorem dL_sets_280 : decode cL_sets 280 = .ok (.aload_n 0, 1) := by decide +kernel
theorem dL_sets_281 : decode cL_sets 281 = .ok (.iconst 0, 1) := by decide +kernel
theorem dL_sets_282 : decode cL_sets 282 = .ok (.iconst 1, 1) := by decide +kernel
theorem dL_sets_283 : decode cL_sets 283 = .ok (.aload_n 1, 1) := by decide +kernel
theorem dL_sets_284 : decode cL_sets 284 = .ok (.bipush 51, 2) := by decide +kernel
theorem dL_sets_286 : decode cL_sets 286 = .ok (.invokestatic 9, 3) := by decide +kernel
theorem dL_sets_289 : decode cL_sets 289 = .ok (.bipush 6, 2) := by decide +kernel
theorem dL_sets_291 : decode cL_sets 291 = .ok (.irem, 1) := by decide +kernel
theorem dL_sets_292 : decode cL_sets 292 = .ok (.iadd, 1) := by decide +kernel
theorem dL_sets_293 : decode cL_sets 293 = .ok (.invokevirtual 36, 3) := by decide +kernel
theorem dL_sets_296 : decode cL_sets 296 = .ok (.iconst 2, 1) := by decide +kernel
theorem dL_sets_297 : decode cL_sets 297 = .ok (.if_icmp .ne 46, 3) := by decide +kernel
theorem dL_sets_300 : decode cL_sets 300 = .ok (.aload_n 0, 1) := by decide +kernel
theorem dL_sets_301 : decode cL_sets 301 = .ok (.iconst 1, 1) := by decide +kernel
theorem dL_sets_302 : decode cL_sets 302 = .ok (.iconst 1, 1) := by decide +kernel
theorem dL_sets_303 : decode cL_sets 303 = .ok (.aload_n 1, 1) := by decide +kernel
theorem dL_sets_304 : decode cL_sets 304 = .ok (.bipush 52, 2) := by decide +kernel
theorem dL_sets_306 : decode cL_sets 306 = .ok (.invokestatic 9, 3) := by decide +kernel
theorem dL_sets_309 : decode cL_sets 309 = .ok (.bipush 60, 2) := by decide +kernel
theorem dL_sets_311 : decode cL_sets 311 = .ok (.irem, 1) := by decide +kernel
theorem dL_sets_312 : decode cL_sets 312 = .ok (.iadd, 1) := by decide +kernel
theorem dL_sets_313 : decode cL_sets 313 = .ok (.invokevirtual 36, 3) := by decide +kernel
theorem dL_sets_316 : decode cL_sets 316 = .ok (.bipush 24, 2) := by decide +kernel
theorem dL_sets_318 : decode cL_sets 318 = .ok (.if_icmp .ne 25, 3) := by decide +kernel
theorem dL_sets_321 : decode cL_sets 321 = .ok (.aload_n 0, 1) := by decide +kernel
theorem dL_sets_322 : decode cL_sets 322 = .ok (.iconst 2, 1) := by decide +kernel
theorem dL_sets_323 : decode cL_sets 323 = .ok (.aload_n 1, 1) := by decide +kernel
theorem dL_sets_324 : decode cL_sets 324 = .ok (.bipush 53, 2) := by decide +kernel
theorem dL_sets_326 : decode cL_sets 326 = .ok (.invokestatic 9, 3) := by decide +kernel
theorem dL_sets_329 : decode cL_sets 329 = .ok (.bipush 20, 2) := by decide +kernel
theorem dL_sets_331 : decode cL_sets 331 = .ok (.irem, 1) := by decide +kernel
theorem dL_sets_332 : decode cL_sets 332 = .ok (.invokevirtual 36, 3) := by decide +kernel
theorem dL_sets_335 : decode cL_sets 335 = .ok (.iconst 2, 1) := by decide +kernel
theorem dL_sets_336 : decode cL_sets 336 = .ok (.if_icmp .ne 7, 3) := by decide +kernel
theorem dL_sets_339 : decode cL_sets 339 = .ok (.iconst 1, 1) := by decide +kernel
theorem dL_sets_340 : decode cL_sets 340 = .ok (.goto 4, 3) := by decide +kernel
theorem dL_sets_343 : decode cL_sets 343 = .ok (.iconst 0, 1) := by decide +kernel
theorem dL_sets_344 : decode cL_sets 344 = .ok (.istore_n 2, 1) := by decide +kernel
theorem dL_sets_345 : decode cL_sets 345 = .ok (.iload_n 2, 1) := by decide +kernel
theorem dL_sets_346 : decode cL_sets 346 = .ok (.ifCond .eq 48, 3) := by decide +kernel
theorem dL_sets_349 : decode cL_sets 349 = .ok (.aload_n 0, 1) := by decide +kernel
theorem dL_sets_350 : decode cL_sets 350 = .ok (.iconst 3, 1) := by decide +kernel
theorem dL_sets_351 : decode cL_sets 351 = .ok (.aload_n 1, 1) := by decide +kernel
theorem dL_sets_352 : decode cL_sets 352 = .ok (.bipush 54, 2) := by decide +kernel
theorem dL_sets_354 : decode cL_sets 354 = .ok (.invokestatic 9, 3) := by decide +kernel
theorem dL_sets_357 : decode cL_sets 357 = .ok (.bipush 20, 2) := by decide +kernel
theorem dL_sets_359 : decode cL_sets 359 = .ok (.irem, 1) := by decide +kernel
theorem dL_sets_360 : decode cL_sets 360 = .ok (.invokevirtual 36, 3) := by decide +kernel
theorem dL_sets_363 : decode cL_sets 363 = .ok (.bipush 6, 2) := by decide +kernel
theorem dL_sets_365 : decode cL_sets 365 = .ok (.if_icmp .ne 29, 3) := by decide +kernel
theorem dL_sets_368 : decode cL_sets 368 = .ok (.aload_n 0, 1) := by decide +kernel
theorem dL_sets_369 : decode cL_sets 369 = .ok (.iconst 4, 1) := by decide +kernel
theorem dL_sets_370 : decode cL_sets 370 = .ok (.bipush 8, 2) := by decide +kernel
theorem dL_sets_372 : decode cL_sets 372 = .ok (.aload_n 1, 1) := by decide +kernel
theorem dL_sets_373 : decode cL_sets 373 = .ok (.bipush 55, 2) := by decide +kernel
theorem dL_sets_375 : decode cL_sets 375 = .ok (.invokestatic 9, 3) := by decide +kernel
theorem dL_sets_378 : decode cL_sets 378 = .ok (.bipush 33, 2) := by decide +kernel
theorem dL_sets_380 : decode cL_sets 380 = .ok (.irem, 1) := by decide +kernel
theorem dL_sets_381 : decode cL_sets 381 = .ok (.iadd, 1) := by decide +kernel
theorem dL_sets_382 : decode cL_sets 382 = .ok (.invokevirtual 36, 3) := by decide +kernel
theorem dL_sets_385 : decode cL_sets 385 = .ok (.bipush 16, 2) := by decide +kernel
theorem dL_sets_387 : decode cL_sets 387 = .ok (.if_icmp .ne 7, 3) := by decide +kernel
theorem dL_sets_390 : decode cL_sets 390 = .ok (.iconst 1, 1) := by decide +kernel
theorem dL_sets_391 : decode cL_sets 391 = .ok (.goto 4, 3) := by decide +kernel
theorem dL_sets_394 : decode cL_sets 394 = .ok (.iconst 0, 1) := by decide +kernel
theorem dL_sets_395 : decode cL_sets 395 = .ok (.ireturn, 1) := by decide +kernel
theorem dL_writes_0 : decode cL_writes 0 = .ok (.aload_n 0, 1) := by decide +kernel
theorem dL_writes_1 : decode cL_writes 1 = .ok (.invokevirtual 39, 3) := by decide +kernel
theorem dL_writes_4 : decode cL_writes 4 = .ok (.ifCond .lt 7, 3) := by decide +kernel
theorem dL_writes_7 : decode cL_writes 7 = .ok (.iconst 1, 1) := by decide +kernel
theorem dL_writes_8 : decode cL_writes 8 = .ok (.goto 4, 3) := by decide +kernel
theorem dL_writes_11 : decode cL_writes 11 = .ok (.iconst 0, 1) := by decide +kernel
theorem dL_writes_12 : decode cL_writes 12 = .ok (.istore_n 2, 1) := by decide +kernel
theorem dL_writes_13 : decode cL_writes 13 = .ok (.iconst 1, 1) := by decide +kernel
theorem dL_writes_14 : decode cL_writes 14 = .ok (.iload_n 1, 1) := by decide +kernel
theorem dL_writes_15 : decode cL_writes 15 = .ok (.bipush 6, 2) := by decide +kernel
theorem dL_writes_17 : decode cL_writes 17 = .ok (.irem, 1) := by decide +kernel
theorem dL_writes_18 : decode cL_writes 18 = .ok (.iadd, 1) := by decide +kernel
theorem dL_writes_19 : decode cL_writes 19 = .ok (.istore_n 3, 1) := by decide +kernel
theorem dL_writes_20 : decode cL_writes 20 = .ok (.iconst 0, 1) := by decide +kernel
theorem dL_writes_21 : decode cL_writes 21 = .ok (.istore 4, 2) := by decide +kernel
theorem dL_writes_23 : decode cL_writes 23 = .ok (.iload 4, 2) := by decide +kernel
theorem dL_writes_25 : decode cL_writes 25 = .ok (.iload_n 3, 1) := by decide +kernel
theorem dL_writes_26 : decode cL_writes 26 = .ok (.if_icmp .ge 139, 3) := by decide +kernel
theorem dL_writes_29 : decode cL_writes 29 = .ok (.iconst 1, 1) := by decide +kernel
theorem dL_writes_30 : decode cL_writes 30 = .ok (.iload_n 1, 1) := by decide +kernel
theorem dL_writes_31 : decode cL_writes 31 = .ok (.iconst 3, 1) := by decide +kernel
theorem dL_writes_32 : decode cL_writes 32 = .ok (.iconst 4, 1) := by decide +kernel
theorem dL_writes_33 : decode cL_writes 33 = .ok (.iload 4, 2) := by decide +kernel
theorem dL_writes_35 : decode cL_writes 35 = .ok (.imul, 1) := by decide +kernel
theorem dL_writes_36 : decode cL_writes 36 = .ok (.iadd, 1) := by decide +kernel
theorem dL_writes_37 : decode cL_writes 37 = .ok (.ishr, 1) := by decide +kernel
theorem dL_writes_38 : decode cL_writes 38 = .ok (.iconst 3, 1) := by decide +kernel
theorem dL_writes_39 : decode cL_writes 39 = .ok (.iand, 1) := by decide +kernel
theorem dL_writes_40 : decode cL_writes 40 = .ok (.iadd, 1) := by decide +kernel
theorem dL_writes_41 : decode cL_writes 41 = .ok (.istore 5, 2) := by decide +kernel
theorem dL_writes_43 : decode cL_writes 43 = .ok (.iload_n 2, 1) := by decide +kernel
theorem dL_writes_44 : decode cL_writes 44 = .ok (.ifCond .eq 21, 3) := by decide +kernel
theorem dL_writes_47 : decode cL_writes 47 = .ok (.iload 4, 2) := by decide +kernel
theorem dL_writes_49 : decode cL_writes 49 = .ok (.ifCond .eq 12, 3) := by decide +kernel
theorem dL_writes_52 : decode cL_writes 52 = .ok (.aload_n 0, 1) := by decide +kernel
theorem dL_writes_53 : decode cL_writes 53 = .ok (.bipush 32, 2) := by decide +kernel
theorem dL_writes_55 : decode cL_writes 55 = .ok (.invokevirtual 43, 3) := by decide +kernel
theorem dL_writes_58 : decode cL_writes 58 = .ok (.ifCond .le 7, 3) := by decide +kernel
theorem dL_writes_61 : decode cL_writes 61 = .ok (.iconst 1, 1) := by decide +kernel
theorem dL_writes_62 : decode cL_writes 62 = .ok (.goto 4, 3) := by decide +kernel
theorem dL_writes_65 : decode cL_writes 65 = .ok (.iconst 0, 1) := by decide +kernel
theorem dL_writes_66 : decode cL_writes 66 = .ok (.istore_n 2, 1) := by decide +kernel
theorem dL_writes_67 : decode cL_writes 67 = .ok (.iconst 0, 1) := by decide +kernel
theorem dL_writes_68 : decode cL_writes 68 = .ok (.istore 6, 2) := by decide +kernel
theorem dL_writes_70 : decode cL_writes 70 = .ok (.iload 6, 2) := by decide +kernel
theorem dL_writes_72 : decode cL_writes 72 = .ok (.iload 5, 2) := by decide +kernel
theorem dL_writes_74 : decode cL_writes 74 = .ok (.if_icmp .ge 41, 3) := by decide +kernel
theorem dL_writes_77 : decode cL_writes 77 = .ok (.iload_n 2, 1) := by decide +kernel
theorem dL_writes_78 : decode cL_writes 78 = .ok (.ifCond .eq 29, 3) := by decide +kernel
theorem dL_writes_81 : decode cL_writes 81 = .ok (.aload_n 0, 1) := by decide +kernel
theorem dL_writes_82 : decode cL_writes 82 = .ok (.bipush 97, 2) := by decide +kernel
theorem dL_writes_84 : decode cL_writes 84 = .ok (.iload_n 1, 1) := by decide +kernel
theorem dL_writes_85 : decode cL_writes 85 = .ok (.iconst 2, 1) := by decide +kernel
theorem dL_writes_86 : decode cL_writes 86 = .ok (.iload 4, 2) := by decide +kernel
theorem dL_writes_88 : decode cL_writes 88 = .ok (.imul, 1) := by decide +kernel
theorem dL_writes_89 : decode cL_writes 89 = .ok (.iload 6, 2) := by decide +kernel
theorem dL_writes_91 : decode cL_writes 91 = .ok (.iadd, 1) := by decide +kernel
theorem dL_writes_92 : decode cL_writes 92 = .ok (.ishr, 1) := by decide +kernel
theorem dL_writes_93 : decode cL_writes 93 = .ok (.bipush 7, 2) := by decide +kernel
theorem dL_writes_95 : decode cL_writes 95 = .ok (.iand, 1) := by decide +kernel
theorem dL_writes_96 : decode cL_writes 96 = .ok (.iadd, 1) := by decide +kernel
theorem dL_writes_97 : decode cL_writes 97 = .ok (.invokevirtual 43, 3) := by decide +kernel
theorem dL_writes_100 : decode cL_writes 100 = .ok (.ifCond .le 7, 3) := by decide +kernel
theorem dL_writes_103 : decode cL_writes 103 = .ok (.iconst 1, 1) := by decide +kernel
theorem dL_writes_104 : decode cL_writes 104 = .ok (.goto 4, 3) := by decide +kernel
theorem dL_writes_107 : decode cL_writes 107 = .ok (.iconst 0, 1) := by decide +kernel
theorem dL_writes_108 : decode cL_writes 108 = .ok (.istore_n 2, 1) := by decide +kernel
theorem dL_writes_109 : decode cL_writes 109 = .ok (.iinc 6 1, 3) := by decide +kernel
theorem dL_writes_112 : decode cL_writes 112 = .ok (.goto (-42), 3) := by decide +kernel
theorem dL_writes_115 : decode cL_writes 115 = .ok (.iload_n 2, 1) := by decide +kernel
theorem dL_writes_116 : decode cL_writes 116 = .ok (.ifCond .eq 41, 3) := by decide +kernel
theorem dL_writes_119 : decode cL_writes 119 = .ok (.iload_n 1, 1) := by decide +kernel
theorem dL_writes_120 : decode cL_writes 120 = .ok (.bipush 20, 2) := by decide +kernel
theorem dL_writes_122 : decode cL_writes 122 = .ok (.iload 4, 2) := by decide +kernel
theorem dL_writes_124 : decode cL_writes 124 = .ok (.iadd, 1) := by decide +kernel
theorem dL_writes_125 : decode cL_writes 125 = .ok (.ishr, 1) := by decide +kernel
theorem dL_writes_126 : decode cL_writes 126 = .ok (.iconst 1, 1) := by decide +kernel
theorem dL_writes_127 : decode cL_writes 127 = .ok (.iand, 1) := by decide +kernel
theorem dL_writes_128 : decode cL_writes 128 = .ok (.ifCond .eq 25, 3) := by decide +kernel
theorem dL_writes_131 : decode cL_writes 131 = .ok (.aload_n 0, 1) := by decide +kernel
theorem dL_writes_132 : decode cL_writes 132 = .ok (.iload_n 1, 1) := by decide +kernel
theorem dL_writes_133 : decode cL_writes 133 = .ok (.iconst 5, 1) := by decide +kernel
theorem dL_writes_134 : decode cL_writes 134 = .ok (.ishr, 1) := by decide +kernel
theorem dL_writes_135 : decode cL_writes 135 = .ok (.iconst 1, 1) := by decide +kernel
theorem dL_writes_136 : decode cL_writes 136 = .ok (.iand, 1) := by decide +kernel
theorem dL_writes_137 : decode cL_writes 137 = .ok (.ifCond .ne 8, 3) := by decide +kernel
theorem dL_writes_140 : decode cL_writes 140 = .ok (.bipush 44, 2) := by decide +kernel
theorem dL_writes_142 : decode cL_writes 142 = .ok (.goto 5, 3) := by decide +kernel
theorem dL_writes_145 : decode cL_writes 145 = .ok (.bipush 46, 2) := by decide +kernel
theorem dL_writes_147 : decode cL_writes 147 = .ok (.invokevirtual 43, 3) := by decide +kernel
theorem dL_writes_150 : decode cL_writes 150 = .ok (.ifCond .le 7, 3) := by decide +kernel
theorem dL_writes_153 : decode cL_writes 153 = .ok (.iconst 1, 1) := by decide +kernel
theorem dL_writes_154 : decode cL_writes 154 = .ok (.goto 4, 3) := by decide +kernel
theorem dL_writes_157 : decode cL_writes 157 = .ok (.iconst 0, 1) := by decide +kernel
theorem dL_writes_158 : decode cL_writes 158 = .ok (.istore_n 2, 1) := by decide +kernel
theorem dL_writes_159 : decode cL_writes 159 = .ok (.iinc 4 1, 3) := by decide +kernel
theorem dL_writes_162 : decode cL_writes 162 = .ok (.goto (-139), 3) := by decide +kernel
theorem dL_writes_165 : decode cL_writes 165 = .ok (.iload_n 2, 1) := by decide +kernel
theorem dL_writes_166 : decode cL_writes 166 = .ok (.ireturn, 1) := by decide +kernel
theorem dL_frames_0 : decode cL_frames 0 = .ok (.aload_n 0, 1) := by decide +kernel
theorem dL_frames_1 : decode cL_frames 1 = .ok (.bipush 6, 2) := by decide +kernel
theorem dL_frames_3 : decode cL_frames 3 = .ok (.invokevirtual 47, 3) := by decide +kernel
theorem dL_frames_6 : decode cL_frames 6 = .ok (.istore_n 2, 1) := by decide +kernel
theorem dL_frames_7 : decode cL_frames 7 = .ok (.iconst 0, 1) := by decide +kernel
theorem dL_frames_8 : decode cL_frames 8 = .ok (.istore_n 3, 1) := by decide +kernel
theorem dL_frames_9 : decode cL_frames 9 = .ok (.iconst 0, 1) := by decide +kernel
theorem dL_frames_10 : decode cL_frames 10 = .ok (.istore 4, 2) := by decide +kernel
theorem dL_frames_12 : decode cL_frames 12 = .ok (.iload 4, 2) := by decide +kernel
theorem dL_frames_14 : decode cL_frames 14 = .ok (.aload_n 0, 1) := by decide +kernel
theorem dL_frames_15 : decode cL_frames 15 = .ok (.iconst 5, 1) := by decide +kernel
theorem dL_frames_16 : decode cL_frames 16 = .ok (.invokevirtual 47, 3) := by decide +kernel
theorem dL_frames_19 : decode cL_frames 19 = .ok (.if_icmp .ge 32, 3) := by decide +kernel
theorem dL_frames_22 : decode cL_frames 22 = .ok (.aload_n 0, 1) := by decide +kernel
theorem dL_frames_23 : decode cL_frames 23 = .ok (.iload 4, 2) := by decide +kernel
theorem dL_frames_25 : decode cL_frames 25 = .ok (.iconst 2, 1) := by decide +kernel
theorem dL_frames_26 : decode cL_frames 26 = .ok (.invokevirtual 50, 3) := by decide +kernel
theorem dL_frames_29 : decode cL_frames 29 = .ok (.iload_n 3, 1) := by decide +kernel
theorem dL_frames_30 : decode cL_frames 30 = .ok (.if_icmp .eq 5, 3) := by decide +kernel
theorem dL_frames_33 : decode cL_frames 33 = .ok (.iconst 0, 1) := by decide +kernel
theorem dL_frames_34 : decode cL_frames 34 = .ok (.ireturn, 1) := by decide +kernel
theorem dL_frames_35 : decode cL_frames 35 = .ok (.iload_n 3, 1) := by decide +kernel
theorem dL_frames_36 : decode cL_frames 36 = .ok (.aload_n 0, 1) := by decide +kernel
theorem dL_frames_37 : decode cL_frames 37 = .ok (.iload 4, 2) := by decide +kernel
theorem dL_frames_39 : decode cL_frames 39 = .ok (.iconst 1, 1) := by decide +kernel
theorem dL_frames_40 : decode cL_frames 40 = .ok (.invokevirtual 50, 3) := by decide +kernel
theorem dL_frames_43 : decode cL_frames 43 = .ok (.iadd, 1) := by decide +kernel
theorem dL_frames_44 : decode cL_frames 44 = .ok (.istore_n 3, 1) := by decide +kernel
theorem dL_frames_45 : decode cL_frames 45 = .ok (.iinc 4 1, 3) := by decide +kernel
theorem dL_frames_48 : decode cL_frames 48 = .ok (.goto (-36), 3) := by decide +kernel
theorem dL_frames_51 : decode cL_frames 51 = .ok (.iload_n 3, 1) := by decide +kernel
theorem dL_frames_52 : decode cL_frames 52 = .ok (.iload_n 2, 1) := by decide +kernel
theorem dL_frames_53 : decode cL_frames 53 = .ok (.if_icmp .ne 17, 3) := by decide +kernel
theorem dL_frames_56 : decode cL_frames 56 = .ok (.aload_n 0, 1) := by decide +kernel
theorem dL_frames_57 : decode cL_frames 57 = .ok (.iload_n 2, 1) := by decide +kernel
theorem dL_frames_58 : decode cL_frames 58 = .ok (.invokevirtual 53, 3) := by decide +kernel
theorem dL_frames_61 : decode cL_frames 61 = .ok (.bipush (-9), 2) := by decide +kernel
theorem dL_frames_63 : decode cL_frames 63 = .ok (.if_icmp .ne 7, 3) := by decide +kernel
theorem dL_frames_66 : decode cL_frames 66 = .ok (.iconst 1, 1) := by decide +kernel
theorem dL_frames_67 : decode cL_frames 67 = .ok (.goto 4, 3) := by decide +kernel
theorem dL_frames_70 : decode cL_frames 70 = .ok (.iconst 0, 1) := by decide +kernel
theorem dL_frames_71 : decode cL_frames 71 = .ok (.istore 4, 2) := by decide +kernel
theorem dL_frames_73 : decode cL_frames 73 = .ok (.iconst 0, 1) := by decide +kernel
theorem dL_frames_74 : decode cL_frames 74 = .ok (.istore 5, 2) := by decide +kernel
theorem dL_frames_76 : decode cL_frames 76 = .ok (.iload 5, 2) := by decide +kernel
theorem dL_frames_78 : decode cL_frames 78 = .ok (.bipush 20, 2) := by decide +kernel
theorem dL_frames_80 : decode cL_frames 80 = .ok (.if_icmp .ge 158, 3) := by decide +kernel
theorem dL_frames_83 : decode cL_frames 83 = .ok (.iload_n 2, 1) := by decide +kernel
theorem dL_frames_84 : decode cL_frames 84 = .ok (.ifCond .le 154, 3) := by decide +kernel
theorem dL_frames_87 : decode cL_frames 87 = .ok (.aload_n 1, 1) := by decide +kernel
theorem dL_frames_88 : decode cL_frames 88 = .ok (.bipush 60, 2) := by decide +kernel
theorem dL_frames_90 : decode cL_frames 90 = .ok (.iload 5, 2) := by decide +kernel
theorem dL_frames_92 : decode cL_frames 92 = .ok (.iadd, 1) := by decide +kernel
theorem dL_frames_93 : decode cL_frames 93 = .ok (.invokestatic 9, 3) := by decide +kernel
theorem dL_frames_96 : decode cL_frames 96 = .ok (.iload_n 2, 1) := by decide +kernel
theorem dL_frames_97 : decode cL_frames 97 = .ok (.irem, 1) := by decide +kernel
theorem dL_frames_98 : decode cL_frames 98 = .ok (.istore 6, 2) := by decide +kernel
theorem dL_frames_100 : decode cL_frames 100 = .ok (.aload_n 0, 1) := by decide +kernel
theorem dL_frames_101 : decode cL_frames 101 = .ok (.iload 6, 2) := by decide +kernel
theorem dL_frames_103 : decode cL_frames 103 = .ok (.invokevirtual 53, 3) := by decide +kernel
theorem dL_frames_106 : decode cL_frames 106 = .ok (.istore 7, 2) := by decide +kernel
theorem dL_frames_108 : decode cL_frames 108 = .ok (.iconst 0, 1) := by decide +kernel
theorem dL_frames_109 : decode cL_frames 109 = .ok (.istore 8, 2) := by decide +kernel
theorem dL_frames_111 : decode cL_frames 111 = .ok (.iconst 0, 1) := by decide +kernel
theorem dL_frames_112 : decode cL_frames 112 = .ok (.istore 9, 2) := by decide +kernel
theorem dL_frames_114 : decode cL_frames 114 = .ok (.aload_n 0, 1) := by decide +kernel
theorem dL_frames_115 : decode cL_frames 115 = .ok (.iload 7, 2) := by decide +kernel
theorem dL_frames_117 : decode cL_frames 117 = .ok (.iload 8, 2) := by decide +kernel
theorem dL_frames_119 : decode cL_frames 119 = .ok (.invokevirtual 56, 3) := by decide +kernel
theorem dL_frames_122 : decode cL_frames 122 = .ok (.bipush (-9), 2) := by decide +kernel
theorem dL_frames_124 : decode cL_frames 124 = .ok (.if_icmp .eq 81, 3) := by decide +kernel
theorem dL_frames_127 : decode cL_frames 127 = .ok (.aload_n 0, 1) := by decide +kernel
theorem dL_frames_128 : decode cL_frames 128 = .ok (.iload 7, 2) := by decide +kernel
theorem dL_frames_130 : decode cL_frames 130 = .ok (.iload 8, 2) := by decide +kernel
theorem dL_frames_132 : decode cL_frames 132 = .ok (.invokevirtual 56, 3) := by decide +kernel
theorem dL_frames_135 : decode cL_frames 135 = .ok (.istore 10, 2) := by decide +kernel
theorem dL_frames_137 : decode cL_frames 137 = .ok (.iload 4, 2) := by decide +kernel
theorem dL_frames_139 : decode cL_frames 139 = .ok (.ifCond .eq 38, 3) := by decide +kernel
theorem dL_frames_142 : decode cL_frames 142 = .ok (.aload_n 0, 1) := by decide +kernel
theorem dL_frames_143 : decode cL_frames 143 = .ok (.iload 10, 2) := by decide +kernel
theorem dL_frames_145 : decode cL_frames 145 = .ok (.invokevirtual 53, 3) := by decide +kernel
theorem dL_frames_148 : decode cL_frames 148 = .ok (.iload 7, 2) := by decide +kernel
theorem dL_frames_150 : decode cL_frames 150 = .ok (.if_icmp .ne 27, 3) := by decide +kernel
theorem dL_frames_153 : decode cL_frames 153 = .ok (.iload 8, 2) := by decide +kernel
theorem dL_frames_155 : decode cL_frames 155 = .ok (.ifCond .eq 18, 3) := by decide +kernel
theorem dL_frames_158 : decode cL_frames 158 = .ok (.iload 10, 2) := by decide +kernel
theorem dL_frames_160 : decode cL_frames 160 = .ok (.aload_n 0, 1) := by decide +kernel
theorem dL_frames_161 : decode cL_frames 161 = .ok (.iload 7, 2) := by decide +kernel
theorem dL_frames_163 : decode cL_frames 163 = .ok (.iload 8, 2) := by decide +kernel
theorem dL_frames_165 : decode cL_frames 165 = .ok (.iconst 1, 1) := by decide +kernel
theorem dL_frames_166 : decode cL_frames 166 = .ok (.isub, 1) := by decide +kernel
theorem dL_frames_167 : decode cL_frames 167 = .ok (.invokevirtual 56, 3) := by decide +kernel
theorem dL_frames_170 : decode cL_frames 170 = .ok (.if_icmp .le 7, 3) := by decide +kernel
theorem dL_frames_173 : decode cL_frames 173 = .ok (.iconst 1, 1) := by decide +kernel
theorem dL_frames_174 : decode cL_frames 174 = .ok (.goto 4, 3) := by decide +kernel
theorem dL_frames_177 : decode cL_frames 177 = .ok (.iconst 0, 1) := by decide +kernel
theorem dL_frames_178 : decode cL_frames 178 = .ok (.istore 4, 2) := by decide +kernel
theorem dL_frames_180 : decode cL_frames 180 = .ok (.iload 9, 2) := by decide +kernel
theorem dL_frames_182 : decode cL_frames 182 = .ok (.ifCond .ne 10, 3) := by decide +kernel
theorem dL_frames_185 : decode cL_frames 185 = .ok (.iload 10, 2) := by decide +kernel
theorem dL_frames_187 : decode cL_frames 187 = .ok (.iload 6, 2) := by decide +kernel
theorem dL_frames_189 : decode cL_frames 189 = .ok (.if_icmp .ne 7, 3) := by decide +kernel
theorem dL_frames_192 : decode cL_frames 192 = .ok (.iconst 1, 1) := by decide +kernel
theorem dL_frames_193 : decode cL_frames 193 = .ok (.goto 4, 3) := by decide +kernel
theorem dL_frames_196 : decode cL_frames 196 = .ok (.iconst 0, 1) := by decide +kernel
theorem dL_frames_197 : decode cL_frames 197 = .ok (.istore 9, 2) := by decide +kernel
theorem dL_frames_199 : decode cL_frames 199 = .ok (.iinc 8 1, 3) := by decide +kernel
theorem dL_frames_202 : decode cL_frames 202 = .ok (.goto (-88), 3) := by decide +kernel
theorem dL_frames_205 : decode cL_frames 205 = .ok (.iload 4, 2) := by decide +kernel
theorem dL_frames_207 : decode cL_frames 207 = .ok (.ifCond .eq 22, 3) := by decide +kernel
theorem dL_frames_210 : decode cL_frames 210 = .ok (.iload 9, 2) := by decide +kernel
theorem dL_frames_212 : decode cL_frames 212 = .ok (.ifCond .eq 17, 3) := by decide +kernel
theorem dL_frames_215 : decode cL_frames 215 = .ok (.iload 8, 2) := by decide +kernel
theorem dL_frames_217 : decode cL_frames 217 = .ok (.aload_n 0, 1) := by decide +kernel
theorem dL_frames_218 : decode cL_frames 218 = .ok (.iconst 5, 1) := by decide +kernel
theorem dL_frames_219 : decode cL_frames 219 = .ok (.invokevirtual 47, 3) := by decide +kernel
theorem dL_frames_222 : decode cL_frames 222 = .ok (.if_icmp .gt 7, 3) := by decide +kernel
theorem dL_frames_225 : decode cL_frames 225 = .ok (.iconst 1, 1) := by decide +kernel
theorem dL_frames_226 : decode cL_frames 226 = .ok (.goto 4, 3) := by decide +kernel
theorem dL_frames_229 : decode cL_frames 229 = .ok (.iconst 0, 1) := by decide +kernel
theorem dL_frames_230 : decode cL_frames 230 = .ok (.istore 4, 2) := by decide +kernel
theorem dL_frames_232 : decode cL_frames 232 = .ok (.iinc 5 1, 3) := by decide +kernel
theorem dL_frames_235 : decode cL_frames 235 = .ok (.goto (-159), 3) := by decide +kernel
theorem dL_frames_238 : decode cL_frames 238 = .ok (.iload 4, 2) := by decide +kernel
theorem dL_frames_240 : decode cL_frames 240 = .ok (.ireturn, 1) := by decide +kernel
theorem dL_order_0 : decode cL_order 0 = .ok (.iconst 1, 1) := by decide +kernel
theorem dL_order_1 : decode cL_order 1 = .ok (.istore_n 1, 1) := by decide +kernel
theorem dL_order_2 : decode cL_order 2 = .ok (.iconst 0, 1) := by decide +kernel
theorem dL_order_3 : decode cL_order 3 = .ok (.istore_n 2, 1) := by decide +kernel
theorem dL_order_4 : decode cL_order 4 = .ok (.iload_n 2, 1) := by decide +kernel
theorem dL_order_5 : decode cL_order 5 = .ok (.aload_n 0, 1) := by decide +kernel
theorem dL_order_6 : decode cL_order 6 = .ok (.bipush 8, 2) := by decide +kernel
theorem dL_order_8 : decode cL_order 8 = .ok (.invokevirtual 47, 3) := by decide +kernel
theorem dL_order_11 : decode cL_order 11 = .ok (.if_icmp .ge 136, 3) := by decide +kernel
theorem dL_order_14 : decode cL_order 14 = .ok (.iload_n 1, 1) := by decide +kernel
theorem dL_order_15 : decode cL_order 15 = .ok (.ifCond .eq 43, 3) := by decide +kernel
theorem dL_order_18 : decode cL_order 18 = .ok (.aload_n 0, 1) := by decide +kernel
theorem dL_order_19 : decode cL_order 19 = .ok (.iload_n 2, 1) := by decide +kernel
theorem dL_order_20 : decode cL_order 20 = .ok (.iconst 0, 1) := by decide +kernel
theorem dL_order_21 : decode cL_order 21 = .ok (.invokevirtual 33, 3) := by decide +kernel
theorem dL_order_24 : decode cL_order 24 = .ok (.aload_n 0, 1) := by decide +kernel
theorem dL_order_25 : decode cL_order 25 = .ok (.iload_n 2, 1) := by decide +kernel
theorem dL_order_26 : decode cL_order 26 = .ok (.iconst 1, 1) := by decide +kernel
theorem dL_order_27 : decode cL_order 27 = .ok (.invokevirtual 33, 3) := by decide +kernel
theorem dL_order_30 : decode cL_order 30 = .ok (.if_icmp .ge 28, 3) := by decide +kernel
theorem dL_order_33 : decode cL_order 33 = .ok (.iload_n 2, 1) := by decide +kernel
theorem dL_order_34 : decode cL_order 34 = .ok (.ifCond .eq 20, 3) := by decide +kernel
theorem dL_order_37 : decode cL_order 37 = .ok (.aload_n 0, 1) := by decide +kernel
theorem dL_order_38 : decode cL_order 38 = .ok (.iload_n 2, 1) := by decide +kernel
theorem dL_order_39 : decode cL_order 39 = .ok (.iconst 1, 1) := by decide +kernel
theorem dL_order_40 : decode cL_order 40 = .ok (.isub, 1) := by decide +kernel
theorem dL_order_41 : decode cL_order 41 = .ok (.iconst 0, 1) := by decide +kernel
theorem dL_order_42 : decode cL_order 42 = .ok (.invokevirtual 33, 3) := by decide +kernel
theorem dL_order_45 : decode cL_order 45 = .ok (.aload_n 0, 1) := by decide +kernel
theorem dL_order_46 : decode cL_order 46 = .ok (.iload_n 2, 1) := by decide +kernel
theorem dL_order_47 : decode cL_order 47 = .ok (.iconst 0, 1) := by decide +kernel
theorem dL_order_48 : decode cL_order 48 = .ok (.invokevirtual 33, 3) := by decide +kernel
theorem dL_order_51 : decode cL_order 51 = .ok (.if_icmp .gt 7, 3) := by decide +kernel
theorem dL_order_54 : decode cL_order 54 = .ok (.iconst 1, 1) := by decide +kernel
theorem dL_order_55 : decode cL_order 55 = .ok (.goto 4, 3) := by decide +kernel
theorem dL_order_58 : decode cL_order 58 = .ok (.iconst 0, 1) := by decide +kernel
theorem dL_order_59 : decode cL_order 59 = .ok (.istore_n 1, 1) := by decide +kernel
theorem dL_order_60 : decode cL_order 60 = .ok (.aload_n 0, 1) := by decide +kernel
theorem dL_order_61 : decode cL_order 61 = .ok (.iload_n 2, 1) := by decide +kernel
theorem dL_order_62 : decode cL_order 62 = .ok (.bipush 6, 2) := by decide +kernel
theorem dL_order_64 : decode cL_order 64 = .ok (.invokevirtual 33, 3) := by decide +kernel
theorem dL_order_67 : decode cL_order 67 = .ok (.istore_n 3, 1) := by decide +kernel
theorem dL_order_68 : decode cL_order 68 = .ok (.iload_n 1, 1) := by decide +kernel
theorem dL_order_69 : decode cL_order 69 = .ok (.ifCond .eq 70, 3) := by decide +kernel
theorem dL_order_72 : decode cL_order 72 = .ok (.iload_n 3, 1) := by decide +kernel
theorem dL_order_73 : decode cL_order 73 = .ok (.bipush (-9), 2) := by decide +kernel
theorem dL_order_75 : decode cL_order 75 = .ok (.if_icmp .ne 28, 3) := by decide +kernel
theorem dL_order_78 : decode cL_order 78 = .ok (.aload_n 0, 1) := by decide +kernel
theorem dL_order_79 : decode cL_order 79 = .ok (.aload_n 0, 1) := by decide +kernel
theorem dL_order_80 : decode cL_order 80 = .ok (.bipush 8, 2) := by decide +kernel
theorem dL_order_82 : decode cL_order 82 = .ok (.invokevirtual 47, 3) := by decide +kernel
theorem dL_order_85 : decode cL_order 85 = .ok (.iconst 1, 1) := by decide +kernel
theorem dL_order_86 : decode cL_order 86 = .ok (.isub, 1) := by decide +kernel
theorem dL_order_87 : decode cL_order 87 = .ok (.iconst 0, 1) := by decide +kernel
theorem dL_order_88 : decode cL_order 88 = .ok (.invokevirtual 33, 3) := by decide +kernel
theorem dL_order_91 : decode cL_order 91 = .ok (.aload_n 0, 1) := by decide +kernel
theorem dL_order_92 : decode cL_order 92 = .ok (.iload_n 2, 1) := by decide +kernel
theorem dL_order_93 : decode cL_order 93 = .ok (.iconst 0, 1) := by decide +kernel
theorem dL_order_94 : decode cL_order 94 = .ok (.invokevirtual 33, 3) := by decide +kernel
theorem dL_order_97 : decode cL_order 97 = .ok (.if_icmp .ne 42, 3) := by decide +kernel
theorem dL_order_100 : decode cL_order 100 = .ok (.goto 35, 3) := by decide +kernel
theorem dL_order_103 : decode cL_order 103 = .ok (.aload_n 0, 1) := by decide +kernel
theorem dL_order_104 : decode cL_order 104 = .ok (.iload_n 3, 1) := by decide +kernel
theorem dL_order_105 : decode cL_order 105 = .ok (.iconst 0, 1) := by decide +kernel
theorem dL_order_106 : decode cL_order 106 = .ok (.invokevirtual 33, 3) := by decide +kernel
theorem dL_order_109 : decode cL_order 109 = .ok (.aload_n 0, 1) := by decide +kernel
theorem dL_order_110 : decode cL_order 110 = .ok (.iload_n 2, 1) := by decide +kernel
theorem dL_order_111 : decode cL_order 111 = .ok (.iconst 0, 1) := by decide +kernel
theorem dL_order_112 : decode cL_order 112 = .ok (.invokevirtual 33, 3) := by decide +kernel
theorem dL_order_115 : decode cL_order 115 = .ok (.if_icmp .le 24, 3) := by decide +kernel
theorem dL_order_118 : decode cL_order 118 = .ok (.aload_n 0, 1) := by decide +kernel
theorem dL_order_119 : decode cL_order 119 = .ok (.iload_n 3, 1) := by decide +kernel
theorem dL_order_120 : decode cL_order 120 = .ok (.iconst 1, 1) := by decide +kernel
theorem dL_order_121 : decode cL_order 121 = .ok (.isub, 1) := by decide +kernel
theorem dL_order_122 : decode cL_order 122 = .ok (.iconst 0, 1) := by decide +kernel
theorem dL_order_123 : decode cL_order 123 = .ok (.invokevirtual 33, 3) := by decide +kernel
theorem dL_order_126 : decode cL_order 126 = .ok (.aload_n 0, 1) := by decide +kernel
theorem dL_order_127 : decode cL_order 127 = .ok (.iload_n 2, 1) := by decide +kernel
theorem dL_order_128 : decode cL_order 128 = .ok (.iconst 0, 1) := by decide +kernel
theorem dL_order_129 : decode cL_order 129 = .ok (.invokevirtual 33, 3) := by decide +kernel
theorem dL_order_132 : decode cL_order 132 = .ok (.if_icmp .ne 7, 3) := by decide +kernel
theorem dL_order_135 : decode cL_order 135 = .ok (.iconst 1, 1) := by decide +kernel
theorem dL_order_136 : decode cL_order 136 = .ok (.goto 4, 3) := by decide +kernel
theorem dL_order_139 : decode cL_order 139 = .ok (.iconst 0, 1) := by decide +kernel
theorem dL_order_140 : decode cL_order 140 = .ok (.istore_n 1, 1) := by decide +kernel
theorem dL_order_141 : decode cL_order 141 = .ok (.iinc 2 1, 3) := by decide +kernel
theorem dL_order_144 : decode cL_order 144 = .ok (.goto (-140), 3) := by decide +kernel
theorem dL_order_147 : decode cL_order 147 = .ok (.iload_n 1, 1) := by decide +kernel
theorem dL_order_148 : decode cL_order 148 = .ok (.ireturn, 1) := by decide +kernel
theorem dL_lines_0 : decode cL_lines 0 = .ok (.aload_n 0, 1) := by decide +kernel
theorem dL_lines_1 : decode cL_lines 1 = .ok (.iload_n 1, 1) := by decide +kernel
theorem dL_lines_2 : decode cL_lines 2 = .ok (.iload_n 2, 1) := by decide +kernel
theorem dL_lines_3 : decode cL_lines 3 = .ok (.iconst 1, 1) := by decide +kernel
theorem dL_lines_4 : decode cL_lines 4 = .ok (.invokevirtual 59, 3) := by decide +kernel
theorem dL_lines_7 : decode cL_lines 7 = .ok (.istore_n 3, 1) := by decide +kernel
theorem dL_lines_8 : decode cL_lines 8 = .ok (.aload_n 0, 1) := by decide +kernel
theorem dL_lines_9 : decode cL_lines 9 = .ok (.iload_n 1, 1) := by decide +kernel
theorem dL_lines_10 : decode cL_lines 10 = .ok (.iload_n 2, 1) := by decide +kernel
theorem dL_lines_11 : decode cL_lines 11 = .ok (.iconst 2, 1) := by decide +kernel
theorem dL_lines_12 : decode cL_lines 12 = .ok (.invokevirtual 59, 3) := by decide +kernel
theorem dL_lines_15 : decode cL_lines 15 = .ok (.istore 4, 2) := by decide +kernel
theorem dL_lines_17 : decode cL_lines 17 = .ok (.aload_n 0, 1) := by decide +kernel
theorem dL_lines_18 : decode cL_lines 18 = .ok (.iload_n 1, 1) := by decide +kernel
theorem dL_lines_19 : decode cL_lines 19 = .ok (.iload_n 2, 1) := by decide +kernel
theorem dL_lines_20 : decode cL_lines 20 = .ok (.iconst 3, 1) := by decide +kernel
theorem dL_lines_21 : decode cL_lines 21 = .ok (.invokevirtual 59, 3) := by decide +kernel
theorem dL_lines_24 : decode cL_lines 24 = .ok (.istore 5, 2) := by decide +kernel
theorem dL_lines_26 : decode cL_lines 26 = .ok (.iload 5, 2) := by decide +kernel
theorem dL_lines_28 : decode cL_lines 28 = .ok (.bipush (-9), 2) := by decide +kernel
theorem dL_lines_30 : decode cL_lines 30 = .ok (.if_icmp .ne 90, 3) := by decide +kernel
theorem dL_lines_33 : decode cL_lines 33 = .ok (.iconst 0, 1) := by decide +kernel
theorem dL_lines_34 : decode cL_lines 34 = .ok (.istore 6, 2) := by decide +kernel
theorem dL_lines_36 : decode cL_lines 36 = .ok (.iconst 0, 1) := by decide +kernel
theorem dL_lines_37 : decode cL_lines 37 = .ok (.istore 7, 2) := by decide +kernel
theorem dL_lines_39 : decode cL_lines 39 = .ok (.iload 7, 2) := by decide +kernel
theorem dL_lines_41 : decode cL_lines 41 = .ok (.iload_n 3, 1) := by decide +kernel
theorem dL_lines_42 : decode cL_lines 42 = .ok (.if_icmp .ge 37, 3) := by decide +kernel
theorem dL_lines_45 : decode cL_lines 45 = .ok (.iload 6, 2) := by decide +kernel
theorem dL_lines_47 : decode cL_lines 47 = .ok (.ifCond .ne 19, 3) := by decide +kernel
theorem dL_lines_50 : decode cL_lines 50 = .ok (.aload_n 0, 1) := by decide +kernel
theorem dL_lines_51 : decode cL_lines 51 = .ok (.iload_n 1, 1) := by decide +kernel
theorem dL_lines_52 : decode cL_lines 52 = .ok (.iload_n 2, 1) := by decide +kernel
theorem dL_lines_53 : decode cL_lines 53 = .ok (.bipush 10, 2) := by decide +kernel
theorem dL_lines_55 : decode cL_lines 55 = .ok (.iload 7, 2) := by decide +kernel
theorem dL_lines_57 : decode cL_lines 57 = .ok (.iadd, 1) := by decide +kernel
theorem dL_lines_58 : decode cL_lines 58 = .ok (.invokevirtual 59, 3) := by decide +kernel
theorem dL_lines_61 : decode cL_lines 61 = .ok (.bipush 32, 2) := by decide +kernel
theorem dL_lines_63 : decode cL_lines 63 = .ok (.if_icmp .ne 7, 3) := by decide +kernel
theorem dL_lines_66 : decode cL_lines 66 = .ok (.iconst 1, 1) := by decide +kernel
theorem dL_lines_67 : decode cL_lines 67 = .ok (.goto 4, 3) := by decide +kernel
theorem dL_lines_70 : decode cL_lines 70 = .ok (.iconst 0, 1) := by decide +kernel
theorem dL_lines_71 : decode cL_lines 71 = .ok (.istore 6, 2) := by decide +kernel
theorem dL_lines_73 : decode cL_lines 73 = .ok (.iinc 7 1, 3) := by decide +kernel
theorem dL_lines_76 : decode cL_lines 76 = .ok (.goto (-37), 3) := by decide +kernel
theorem dL_lines_79 : decode cL_lines 79 = .ok (.iload 4, 2) := by decide +kernel
theorem dL_lines_81 : decode cL_lines 81 = .ok (.iload_n 3, 1) := by decide +kernel
theorem dL_lines_82 : decode cL_lines 82 = .ok (.if_icmp .ne 36, 3) := by decide +kernel
theorem dL_lines_85 : decode cL_lines 85 = .ok (.iload_n 3, 1) := by decide +kernel
theorem dL_lines_86 : decode cL_lines 86 = .ok (.aload_n 0, 1) := by decide +kernel
theorem dL_lines_87 : decode cL_lines 87 = .ok (.iconst 4, 1) := by decide +kernel
theorem dL_lines_88 : decode cL_lines 88 = .ok (.invokevirtual 47, 3) := by decide +kernel
theorem dL_lines_91 : decode cL_lines 91 = .ok (.if_icmp .le 8, 3) := by decide +kernel
theorem dL_lines_94 : decode cL_lines 94 = .ok (.iload 6, 2) := by decide +kernel
theorem dL_lines_96 : decode cL_lines 96 = .ok (.ifCond .ne 22, 3) := by decide +kernel
theorem dL_lines_99 : decode cL_lines 99 = .ok (.aload_n 0, 1) := by decide +kernel
theorem dL_lines_100 : decode cL_lines 100 = .ok (.iload_n 1, 1) := by decide +kernel
theorem dL_lines_101 : decode cL_lines 101 = .ok (.iload_n 2, 1) := by decide +kernel
theorem dL_lines_102 : decode cL_lines 102 = .ok (.bipush 10, 2) := by decide +kernel
theorem dL_lines_104 : decode cL_lines 104 = .ok (.iload_n 3, 1) := by decide +kernel
theorem dL_lines_105 : decode cL_lines 105 = .ok (.iadd, 1) := by decide +kernel
theorem dL_lines_106 : decode cL_lines 106 = .ok (.invokevirtual 59, 3) := by decide +kernel
theorem dL_lines_109 : decode cL_lines 109 = .ok (.bipush (-9), 2) := by decide +kernel
theorem dL_lines_111 : decode cL_lines 111 = .ok (.if_icmp .ne 7, 3) := by decide +kernel
theorem dL_lines_114 : decode cL_lines 114 = .ok (.iconst 1, 1) := by decide +kernel
theorem dL_lines_115 : decode cL_lines 115 = .ok (.goto 4, 3) := by decide +kernel
theorem dL_lines_118 : decode cL_lines 118 = .ok (.iconst 0, 1) := by decide +kernel
theorem dL_lines_119 : decode cL_lines 119 = .ok (.ireturn, 1) := by decide +kernel
theorem dL_lines_120 : decode cL_lines 120 = .ok (.iload 4, 2) := by decide +kernel
theorem dL_lines_122 : decode cL_lines 122 = .ok (.iload_n 3, 1) := by decide +kernel
theorem dL_lines_123 : decode cL_lines 123 = .ok (.iload 4, 2) := by decide +kernel
theorem dL_lines_125 : decode cL_lines 125 = .ok (.isub, 1) := by decide +kernel
theorem dL_lines_126 : decode cL_lines 126 = .ok (.iconst 1, 1) := by decide +kernel
theorem dL_lines_127 : decode cL_lines 127 = .ok (.isub, 1) := by decide +kernel
theorem dL_lines_128 : decode cL_lines 128 = .ok (.if_icmp .le 15, 3) := by decide +kernel
theorem dL_lines_131 : decode cL_lines 131 = .ok (.iload 4, 2) := by decide +kernel
theorem dL_lines_133 : decode cL_lines 133 = .ok (.iload_n 3, 1) := by decide +kernel
theorem dL_lines_134 : decode cL_lines 134 = .ok (.iload 4, 2) := by decide +kernel
theorem dL_lines_136 : decode cL_lines 136 = .ok (.isub, 1) := by decide +kernel
theorem dL_lines_137 : decode cL_lines 137 = .ok (.iconst 1, 1) := by decide +kernel
theorem dL_lines_138 : decode cL_lines 138 = .ok (.isub, 1) := by decide +kernel
theorem dL_lines_139 : decode cL_lines 139 = .ok (.isub, 1) := by decide +kernel
theorem dL_lines_140 : decode cL_lines 140 = .ok (.goto 12, 3) := by decide +kernel
theorem dL_lines_143 : decode cL_lines 143 = .ok (.iload_n 3, 1) := by decide +kernel
theorem dL_lines_144 : decode cL_lines 144 = .ok (.iload 4, 2) := by decide +kernel
theorem dL_lines_146 : decode cL_lines 146 = .ok (.isub, 1) := by decide +kernel
theorem dL_lines_147 : decode cL_lines 147 = .ok (.iconst 1, 1) := by decide +kernel
theorem dL_lines_148 : decode cL_lines 148 = .ok (.isub, 1) := by decide +kernel
theorem dL_lines_149 : decode cL_lines 149 = .ok (.iload 4, 2) := by decide +kernel
theorem dL_lines_151 : decode cL_lines 151 = .ok (.isub, 1) := by decide +kernel
theorem dL_lines_152 : decode cL_lines 152 = .ok (.bipush 6, 2) := by decide +kernel
theorem dL_lines_154 : decode cL_lines 154 = .ok (.iload 5, 2) := by decide +kernel
theorem dL_lines_156 : decode cL_lines 156 = .ok (.imul, 1) := by decide +kernel
theorem dL_lines_157 : decode cL_lines 157 = .ok (.iadd, 1) := by decide +kernel
theorem dL_lines_158 : decode cL_lines 158 = .ok (.istore 6, 2) := by decide +kernel
theorem dL_lines_160 : decode cL_lines 160 = .ok (.iload 4, 2) := by decide +kernel
theorem dL_lines_162 : decode cL_lines 162 = .ok (.aload_n 0, 1) := by decide +kernel
theorem dL_lines_163 : decode cL_lines 163 = .ok (.iconst 4, 1) := by decide +kernel
theorem dL_lines_164 : decode cL_lines 164 = .ok (.invokevirtual 47, 3) := by decide +kernel
theorem dL_lines_167 : decode cL_lines 167 = .ok (.if_icmp .gt 21, 3) := by decide +kernel
theorem dL_lines_170 : decode cL_lines 170 = .ok (.iload_n 3, 1) := by decide +kernel
theorem dL_lines_171 : decode cL_lines 171 = .ok (.iload 4, 2) := by decide +kernel
theorem dL_lines_173 : decode cL_lines 173 = .ok (.isub, 1) := by decide +kernel
theorem dL_lines_174 : decode cL_lines 174 = .ok (.iconst 1, 1) := by decide +kernel
theorem dL_lines_175 : decode cL_lines 175 = .ok (.isub, 1) := by decide +kernel
theorem dL_lines_176 : decode cL_lines 176 = .ok (.aload_n 0, 1) := by decide +kernel
theorem dL_lines_177 : decode cL_lines 177 = .ok (.iconst 4, 1) := by decide +kernel
theorem dL_lines_178 : decode cL_lines 178 = .ok (.invokevirtual 47, 3) := by decide +kernel
theorem dL_lines_181 : decode cL_lines 181 = .ok (.if_icmp .gt 7, 3) := by decide +kernel
theorem dL_lines_184 : decode cL_lines 184 = .ok (.iconst 1, 1) := by decide +kernel
theorem dL_lines_185 : decode cL_lines 185 = .ok (.goto 4, 3) := by decide +kernel
theorem dL_lines_188 : decode cL_lines 188 = .ok (.iconst 0, 1) := by decide +kernel
theorem dL_lines_189 : decode cL_lines 189 = .ok (.istore 7, 2) := by decide +kernel
theorem dL_lines_191 : decode cL_lines 191 = .ok (.iconst 0, 1) := by decide +kernel
theorem dL_lines_192 : decode cL_lines 192 = .ok (.istore 8, 2) := by decide +kernel
theorem dL_lines_194 : decode cL_lines 194 = .ok (.iload 8, 2) := by decide +kernel
theorem dL_lines_196 : decode cL_lines 196 = .ok (.iload_n 3, 1) := by decide +kernel
theorem dL_lines_197 : decode cL_lines 197 = .ok (.if_icmp .ge 112, 3) := by decide +kernel
theorem dL_lines_200 : decode cL_lines 200 = .ok (.aload_n 0, 1) := by decide +kernel
theorem dL_lines_201 : decode cL_lines 201 = .ok (.iload_n 1, 1) := by decide +kernel
theorem dL_lines_202 : decode cL_lines 202 = .ok (.iload_n 2, 1) := by decide +kernel
theorem dL_lines_203 : decode cL_lines 203 = .ok (.bipush 10, 2) := by decide +kernel
theorem dL_lines_205 : decode cL_lines 205 = .ok (.iload 8, 2) := by decide +kernel
theorem dL_lines_207 : decode cL_lines 207 = .ok (.iadd, 1) := by decide +kernel
theorem dL_lines_208 : decode cL_lines 208 = .ok (.invokevirtual 59, 3) := by decide +kernel
theorem dL_lines_211 : decode cL_lines 211 = .ok (.bipush 32, 2) := by decide +kernel
theorem dL_lines_213 : decode cL_lines 213 = .ok (.if_icmp .ne 31, 3) := by decide +kernel
theorem dL_lines_216 : decode cL_lines 216 = .ok (.iload 8, 2) := by decide +kernel
theorem dL_lines_218 : decode cL_lines 218 = .ok (.aload_n 0, 1) := by decide +kernel
theorem dL_lines_219 : decode cL_lines 219 = .ok (.iconst 4, 1) := by decide +kernel
theorem dL_lines_220 : decode cL_lines 220 = .ok (.invokevirtual 47, 3) := by decide +kernel
theorem dL_lines_223 : decode cL_lines 223 = .ok (.if_icmp .gt 21, 3) := by decide +kernel
theorem dL_lines_226 : decode cL_lines 226 = .ok (.iload_n 3, 1) := by decide +kernel
theorem dL_lines_227 : decode cL_lines 227 = .ok (.iload 8, 2) := by decide +kernel
theorem dL_lines_229 : decode cL_lines 229 = .ok (.isub, 1) := by decide +kernel
theorem dL_lines_230 : decode cL_lines 230 = .ok (.iconst 1, 1) := by decide +kernel
theorem dL_lines_231 : decode cL_lines 231 = .ok (.isub, 1) := by decide +kernel
theorem dL_lines_232 : decode cL_lines 232 = .ok (.aload_n 0, 1) := by decide +kernel
theorem dL_lines_233 : decode cL_lines 233 = .ok (.iconst 4, 1) := by decide +kernel
theorem dL_lines_234 : decode cL_lines 234 = .ok (.invokevirtual 47, 3) := by decide +kernel
theorem dL_lines_237 : decode cL_lines 237 = .ok (.if_icmp .gt 7, 3) := by decide +kernel
theorem dL_lines_240 : decode cL_lines 240 = .ok (.iconst 1, 1) := by decide +kernel
theorem dL_lines_241 : decode cL_lines 241 = .ok (.goto 4, 3) := by decide +kernel
theorem dL_lines_244 : decode cL_lines 244 = .ok (.iconst 0, 1) := by decide +kernel
theorem dL_lines_245 : decode cL_lines 245 = .ok (.istore 9, 2) := by decide +kernel
theorem dL_lines_247 : decode cL_lines 247 = .ok (.iload 8, 2) := by decide +kernel
theorem dL_lines_249 : decode cL_lines 249 = .ok (.iload_n 3, 1) := by decide +kernel
theorem dL_lines_250 : decode cL_lines 250 = .ok (.iload 8, 2) := by decide +kernel
theorem dL_lines_252 : decode cL_lines 252 = .ok (.isub, 1) := by decide +kernel
theorem dL_lines_253 : decode cL_lines 253 = .ok (.iconst 1, 1) := by decide +kernel
theorem dL_lines_254 : decode cL_lines 254 = .ok (.isub, 1) := by decide +kernel
theorem dL_lines_255 : decode cL_lines 255 = .ok (.if_icmp .le 15, 3) := by decide +kernel
theorem dL_lines_258 : decode cL_lines 258 = .ok (.iload 8, 2) := by decide +kernel
theorem dL_lines_260 : decode cL_lines 260 = .ok (.iload_n 3, 1) := by decide +kernel
theorem dL_lines_261 : decode cL_lines 261 = .ok (.iload 8, 2) := by decide +kernel
theorem dL_lines_263 : decode cL_lines 263 = .ok (.isub, 1) := by decide +kernel
theorem dL_lines_264 : decode cL_lines 264 = .ok (.iconst 1, 1) := by decide +kernel
theorem dL_lines_265 : decode cL_lines 265 = .ok (.isub, 1) := by decide +kernel
theorem dL_lines_266 : decode cL_lines 266 = .ok (.isub, 1) := by decide +kernel
theorem dL_lines_267 : decode cL_lines 267 = .ok (.goto 12, 3) := by decide +kernel
theorem dL_lines_270 : decode cL_lines 270 = .ok (.iload_n 3, 1) := by decide +kernel
theorem dL_lines_271 : decode cL_lines 271 = .ok (.iload 8, 2) := by decide +kernel
theorem dL_lines_273 : decode cL_lines 273 = .ok (.isub, 1) := by decide +kernel
theorem dL_lines_274 : decode cL_lines 274 = .ok (.iconst 1, 1) := by decide +kernel
theorem dL_lines_275 : decode cL_lines 275 = .ok (.isub, 1) := by decide +kernel
theorem dL_lines_276 : decode cL_lines 276 = .ok (.iload 8, 2) := by decide +kernel
theorem dL_lines_278 : decode cL_lines 278 = .ok (.isub, 1) := by decide +kernel
theorem dL_lines_279 : decode cL_lines 279 = .ok (.istore 10, 2) := by decide +kernel
theorem dL_lines_281 : decode cL_lines 281 = .ok (.iload 9, 2) := by decide +kernel
theorem dL_lines_283 : decode cL_lines 283 = .ok (.ifCond .eq 20, 3) := by decide +kernel
theorem dL_lines_286 : decode cL_lines 286 = .ok (.iload 7, 2) := by decide +kernel
theorem dL_lines_288 : decode cL_lines 288 = .ok (.ifCond .eq 13, 3) := by decide +kernel
theorem dL_lines_291 : decode cL_lines 291 = .ok (.iload 10, 2) := by decide +kernel
theorem dL_lines_293 : decode cL_lines 293 = .ok (.bipush 18, 2) := by decide +kernel
theorem dL_lines_295 : decode cL_lines 295 = .ok (.iadd, 1) := by decide +kernel
theorem dL_lines_296 : decode cL_lines 296 = .ok (.iload 6, 2) := by decide +kernel
theorem dL_lines_298 : decode cL_lines 298 = .ok (.if_icmp .ge 5, 3) := by decide +kernel
theorem dL_lines_301 : decode cL_lines 301 = .ok (.iconst 0, 1) := by decide +kernel
theorem dL_lines_302 : decode cL_lines 302 = .ok (.ireturn, 1) := by decide +kernel
theorem dL_lines_303 : decode cL_lines 303 = .ok (.iinc 8 1, 3) := by decide +kernel
theorem dL_lines_306 : decode cL_lines 306 = .ok (.goto (-112), 3) := by decide +kernel
theorem dL_lines_309 : decode cL_lines 309 = .ok (.iload_n 3, 1) := by decide +kernel
theorem dL_lines_310 : decode cL_lines 310 = .ok (.aload_n 0, 1) := by decide +kernel
theorem dL_lines_311 : decode cL_lines 311 = .ok (.iconst 4, 1) := by decide +kernel
theorem dL_lines_312 : decode cL_lines 312 = .ok (.invokevirtual 47, 3) := by decide +kernel
theorem dL_lines_315 : decode cL_lines 315 = .ok (.if_icmp .le 34, 3) := by decide +kernel
theorem dL_lines_318 : decode cL_lines 318 = .ok (.aload_n 0, 1) := by decide +kernel
theorem dL_lines_319 : decode cL_lines 319 = .ok (.iload_n 1, 1) := by decide +kernel
theorem dL_lines_320 : decode cL_lines 320 = .ok (.iload_n 2, 1) := by decide +kernel
theorem dL_lines_321 : decode cL_lines 321 = .ok (.bipush 10, 2) := by decide +kernel
theorem dL_lines_323 : decode cL_lines 323 = .ok (.iload 4, 2) := by decide +kernel
theorem dL_lines_325 : decode cL_lines 325 = .ok (.iadd, 1) := by decide +kernel
theorem dL_lines_326 : decode cL_lines 326 = .ok (.invokevirtual 59, 3) := by decide +kernel
theorem dL_lines_329 : decode cL_lines 329 = .ok (.bipush 32, 2) := by decide +kernel
theorem dL_lines_331 : decode cL_lines 331 = .ok (.if_icmp .ne 18, 3) := by decide +kernel
theorem dL_lines_334 : decode cL_lines 334 = .ok (.iload 5, 2) := by decide +kernel
theorem dL_lines_336 : decode cL_lines 336 = .ok (.ifCond .lt 13, 3) := by decide +kernel
theorem dL_lines_339 : decode cL_lines 339 = .ok (.iload 5, 2) := by decide +kernel
theorem dL_lines_341 : decode cL_lines 341 = .ok (.iconst 3, 1) := by decide +kernel
theorem dL_lines_342 : decode cL_lines 342 = .ok (.if_icmp .gt 7, 3) := by decide +kernel
theorem dL_lines_345 : decode cL_lines 345 = .ok (.iconst 1, 1) := by decide +kernel
theorem dL_lines_346 : decode cL_lines 346 = .ok (.goto 4, 3) := by decide +kernel
theorem dL_lines_349 : decode cL_lines 349 = .ok (.iconst 0, 1) := by decide +kernel
theorem dL_lines_350 : decode cL_lines 350 = .ok (.ireturn, 1) := by decide +kernel
theorem dL_isTooWide_0 : decode cL_isTooWide 0 = .ok (.iconst 0, 1) := by decide +kernel
theorem dL_isTooWide_1 : decode cL_isTooWide 1 = .ok (.istore_n 2, 1) := by decide +kernel
theorem dL_isTooWide_2 : decode cL_isTooWide 2 = .ok (.iconst 0, 1) := by decide +kernel
theorem dL_isTooWide_3 : decode cL_isTooWide 3 = .ok (.istore_n 3, 1) := by decide +kernel
theorem dL_isTooWide_4 : decode cL_isTooWide 4 = .ok (.iload_n 3, 1) := by decide +kernel
theorem dL_isTooWide_5 : decode cL_isTooWide 5 = .ok (.aload_n 0, 1) := by decide +kernel
theorem dL_isTooWide_6 : decode cL_isTooWide 6 = .ok (.iload_n 1, 1) := by decide +kernel
theorem dL_isTooWide_7 : decode cL_isTooWide 7 = .ok (.iconst 2, 1) := by decide +kernel
theorem dL_isTooWide_8 : decode cL_isTooWide 8 = .ok (.invokevirtual 33, 3) := by decide +kernel
theorem dL_isTooWide_11 : decode cL_isTooWide 11 = .ok (.if_icmp .ge 79, 3) := by decide +kernel
theorem dL_isTooWide_14 : decode cL_isTooWide 14 = .ok (.aload_n 0, 1) := by decide +kernel
theorem dL_isTooWide_15 : decode cL_isTooWide 15 = .ok (.iload_n 1, 1) := by decide +kernel
theorem dL_isTooWide_16 : decode cL_isTooWide 16 = .ok (.iload_n 3, 1) := by decide +kernel
theorem dL_isTooWide_17 : decode cL_isTooWide 17 = .ok (.iconst 3, 1) := by decide +kernel
theorem dL_isTooWide_18 : decode cL_isTooWide 18 = .ok (.invokevirtual 59, 3) := by decide +kernel
theorem dL_isTooWide_21 : decode cL_isTooWide 21 = .ok (.bipush (-9), 2) := by decide +kernel
theorem dL_isTooWide_23 : decode cL_isTooWide 23 = .ok (.if_icmp .ne 7, 3) := by decide +kernel
theorem dL_isTooWide_26 : decode cL_isTooWide 26 = .ok (.iconst 0, 1) := by decide +kernel
theorem dL_isTooWide_27 : decode cL_isTooWide 27 = .ok (.goto 20, 3) := by decide +kernel
theorem dL_isTooWide_30 : decode cL_isTooWide 30 = .ok (.aload_n 0, 1) := by decide +kernel
theorem dL_isTooWide_31 : decode cL_isTooWide 31 = .ok (.iload_n 1, 1) := by decide +kernel
theorem dL_isTooWide_32 : decode cL_isTooWide 32 = .ok (.iload_n 3, 1) := by decide +kernel
theorem dL_isTooWide_33 : decode cL_isTooWide 33 = .ok (.iconst 1, 1) := by decide +kernel
theorem dL_isTooWide_34 : decode cL_isTooWide 34 = .ok (.invokevirtual 59, 3) := by decide +kernel
theorem dL_isTooWide_37 : decode cL_isTooWide 37 = .ok (.aload_n 0, 1) := by decide +kernel
theorem dL_isTooWide_38 : decode cL_isTooWide 38 = .ok (.iload_n 1, 1) := by decide +kernel
theorem dL_isTooWide_39 : decode cL_isTooWide 39 = .ok (.iload_n 3, 1) := by decide +kernel
theorem dL_isTooWide_40 : decode cL_isTooWide 40 = .ok (.iconst 2, 1) := by decide +kernel
theorem dL_isTooWide_41 : decode cL_isTooWide 41 = .ok (.invokevirtual 59, 3) := by decide +kernel
theorem dL_isTooWide_44 : decode cL_isTooWide 44 = .ok (.isub, 1) := by decide +kernel
theorem dL_isTooWide_45 : decode cL_isTooWide 45 = .ok (.iconst 1, 1) := by decide +kernel
theorem dL_isTooWide_46 : decode cL_isTooWide 46 = .ok (.isub, 1) := by decide +kernel
theorem dL_isTooWide_47 : decode cL_isTooWide 47 = .ok (.istore 4, 2) := by decide +kernel
theorem dL_isTooWide_49 : decode cL_isTooWide 49 = .ok (.iload_n 2, 1) := by decide +kernel
theorem dL_isTooWide_50 : decode cL_isTooWide 50 = .ok (.ifCond .ne 28, 3) := by decide +kernel
theorem dL_isTooWide_53 : decode cL_isTooWide 53 = .ok (.aload_n 0, 1) := by decide +kernel
theorem dL_isTooWide_54 : decode cL_isTooWide 54 = .ok (.iload_n 1, 1) := by decide +kernel
theorem dL_isTooWide_55 : decode cL_isTooWide 55 = .ok (.iload_n 3, 1) := by decide +kernel
theorem dL_isTooWide_56 : decode cL_isTooWide 56 = .ok (.iconst 2, 1) := by decide +kernel
theorem dL_isTooWide_57 : decode cL_isTooWide 57 = .ok (.invokevirtual 59, 3) := by decide +kernel
theorem dL_isTooWide_60 : decode cL_isTooWide 60 = .ok (.aload_n 0, 1) := by decide +kernel
theorem dL_isTooWide_61 : decode cL_isTooWide 61 = .ok (.iconst 4, 1) := by decide +kernel
theorem dL_isTooWide_62 : decode cL_isTooWide 62 = .ok (.invokevirtual 47, 3) := by decide +kernel
theorem dL_isTooWide_65 : decode cL_isTooWide 65 = .ok (.if_icmp .gt 13, 3) := by decide +kernel
theorem dL_isTooWide_68 : decode cL_isTooWide 68 = .ok (.iload 4, 2) := by decide +kernel
theorem dL_isTooWide_70 : decode cL_isTooWide 70 = .ok (.aload_n 0, 1) := by decide +kernel
theorem dL_isTooWide_71 : decode cL_isTooWide 71 = .ok (.iconst 4, 1) := by decide +kernel
theorem dL_isTooWide_72 : decode cL_isTooWide 72 = .ok (.invokevirtual 47, 3) := by decide +kernel
theorem dL_isTooWide_75 : decode cL_isTooWide 75 = .ok (.if_icmp .le 7, 3) := by decide +kernel
theorem dL_isTooWide_78 : decode cL_isTooWide 78 = .ok (.iconst 1, 1) := by decide +kernel
theorem dL_isTooWide_79 : decode cL_isTooWide 79 = .ok (.goto 4, 3) := by decide +kernel
theorem dL_isTooWide_82 : decode cL_isTooWide 82 = .ok (.iconst 0, 1) := by decide +kernel
theorem dL_isTooWide_83 : decode cL_isTooWide 83 = .ok (.istore_n 2, 1) := by decide +kernel
theorem dL_isTooWide_84 : decode cL_isTooWide 84 = .ok (.iinc 3 1, 3) := by decide +kernel
theorem dL_isTooWide_87 : decode cL_isTooWide 87 = .ok (.goto (-83), 3) := by decide +kernel
theorem dL_isTooWide_90 : decode cL_isTooWide 90 = .ok (.iload_n 2, 1) := by decide +kernel
theorem dL_isTooWide_91 : decode cL_isTooWide 91 = .ok (.ireturn, 1) := by decide +kernel
theorem dL_away_0 : decode cL_away 0 = .ok (.sipush 20000, 3) := by decide +kernel
theorem dL_away_3 : decode cL_away 3 = .ok (.istore_n 2, 1) := by decide +kernel
theorem dL_away_4 : decode cL_away 4 = .ok (.iconst 0, 1) := by decide +kernel
theorem dL_away_5 : decode cL_away 5 = .ok (.istore_n 3, 1) := by decide +kernel
theorem dL_away_6 : decode cL_away 6 = .ok (.iload_n 3, 1) := by decide +kernel
theorem dL_away_7 : decode cL_away 7 = .ok (.aload_n 0, 1) := by decide +kernel
theorem dL_away_8 : decode cL_away 8 = .ok (.bipush 7, 2) := by decide +kernel
theorem dL_away_10 : decode cL_away 10 = .ok (.invokevirtual 47, 3) := by decide +kernel
theorem dL_away_13 : decode cL_away 13 = .ok (.if_icmp .ge 50, 3) := by decide +kernel
theorem dL_away_16 : decode cL_away 16 = .ok (.aload_n 0, 1) := by decide +kernel
theorem dL_away_17 : decode cL_away 17 = .ok (.iload_n 3, 1) := by decide +kernel
theorem dL_away_18 : decode cL_away 18 = .ok (.invokevirtual 62, 3) := by decide +kernel
theorem dL_away_21 : decode cL_away 21 = .ok (.iload_n 1, 1) := by decide +kernel
theorem dL_away_22 : decode cL_away 22 = .ok (.if_icmp .le 13, 3) := by decide +kernel
theorem dL_away_25 : decode cL_away 25 = .ok (.aload_n 0, 1) := by decide +kernel
theorem dL_away_26 : decode cL_away 26 = .ok (.iload_n 3, 1) := by decide +kernel
theorem dL_away_27 : decode cL_away 27 = .ok (.invokevirtual 62, 3) := by decide +kernel
theorem dL_away_30 : decode cL_away 30 = .ok (.iload_n 1, 1) := by decide +kernel
theorem dL_away_31 : decode cL_away 31 = .ok (.isub, 1) := by decide +kernel
theorem dL_away_32 : decode cL_away 32 = .ok (.goto 10, 3) := by decide +kernel
theorem dL_away_35 : decode cL_away 35 = .ok (.iload_n 1, 1) := by decide +kernel
theorem dL_away_36 : decode cL_away 36 = .ok (.aload_n 0, 1) := by decide +kernel
theorem dL_away_37 : decode cL_away 37 = .ok (.iload_n 3, 1) := by decide +kernel
theorem dL_away_38 : decode cL_away 38 = .ok (.invokevirtual 62, 3) := by decide +kernel
theorem dL_away_41 : decode cL_away 41 = .ok (.isub, 1) := by decide +kernel
theorem dL_away_42 : decode cL_away 42 = .ok (.istore 4, 2) := by decide +kernel
theorem dL_away_44 : decode cL_away 44 = .ok (.iload 4, 2) := by decide +kernel
theorem dL_away_46 : decode cL_away 46 = .ok (.iload_n 2, 1) := by decide +kernel
theorem dL_away_47 : decode cL_away 47 = .ok (.if_icmp .ge 8, 3) := by decide +kernel
theorem dL_away_50 : decode cL_away 50 = .ok (.iload 4, 2) := by decide +kernel
theorem dL_away_52 : decode cL_away 52 = .ok (.goto 4, 3) := by decide +kernel
theorem dL_away_55 : decode cL_away 55 = .ok (.iload_n 2, 1) := by decide +kernel
theorem dL_away_56 : decode cL_away 56 = .ok (.istore_n 2, 1) := by decide +kernel
theorem dL_away_57 : decode cL_away 57 = .ok (.iinc 3 1, 3) := by decide +kernel
theorem dL_away_60 : decode cL_away 60 = .ok (.goto (-54), 3) := by decide +kernel
theorem dL_away_63 : decode cL_away 63 = .ok (.iload_n 2, 1) := by decide +kernel
theorem dL_away_64 : decode cL_away 64 = .ok (.ireturn, 1) := by decide +kernel
theorem dL_isNear_0 : decode cL_isNear 0 = .ok (.aload_n 0, 1) := by decide +kernel
theorem dL_isNear_1 : decode cL_isNear 1 = .ok (.iload_n 1, 1) := by decide +kernel
theorem dL_isNear_2 : decode cL_isNear 2 = .ok (.invokestatic 65, 3) := by decide +kernel
theorem dL_isNear_5 : decode cL_isNear 5 = .ok (.istore_n 2, 1) := by decide +kernel
theorem dL_isNear_6 : decode cL_isNear 6 = .ok (.iload_n 2, 1) := by decide +kernel
theorem dL_isNear_7 : decode cL_isNear 7 = .ok (.ifCond .le 16, 3) := by decide +kernel
theorem dL_isNear_10 : decode cL_isNear 10 = .ok (.iload_n 2, 1) := by decide +kernel
theorem dL_isNear_11 : decode cL_isNear 11 = .ok (.aload_n 0, 1) := by decide +kernel
theorem dL_isNear_12 : decode cL_isNear 12 = .ok (.iconst 3, 1) := by decide +kernel
theorem dL_isNear_13 : decode cL_isNear 13 = .ok (.invokevirtual 47, 3) := by decide +kernel
theorem dL_isNear_16 : decode cL_isNear 16 = .ok (.if_icmp .gt 7, 3) := by decide +kernel
theorem dL_isNear_19 : decode cL_isNear 19 = .ok (.iconst 1, 1) := by decide +kernel
theorem dL_isNear_20 : decode cL_isNear 20 = .ok (.goto 4, 3) := by decide +kernel
theorem dL_isNear_23 : decode cL_isNear 23 = .ok (.iconst 0, 1) := by decide +kernel
theorem dL_isNear_24 : decode cL_isNear 24 = .ok (.ireturn, 1) := by decide +kernel
theorem dL_faults_0 : decode cL_faults 0 = .ok (.bipush 7, 2) := by decide +kernel
theorem dL_faults_2 : decode cL_faults 2 = .ok (.newarray .int, 2) := by decide +kernel
theorem dL_faults_4 : decode cL_faults 4 = .ok (.astore_n 1, 1) := by decide +kernel
theorem dL_faults_5 : decode cL_faults 5 = .ok (.iconst 0, 1) := by decide +kernel
theorem dL_faults_6 : decode cL_faults 6 = .ok (.istore_n 2, 1) := by decide +kernel
theorem dL_faults_7 : decode cL_faults 7 = .ok (.iload_n 2, 1) := by decide +kernel
theorem dL_faults_8 : decode cL_faults 8 = .ok (.aload_n 0, 1) := by decide +kernel
theorem dL_faults_9 : decode cL_faults 9 = .ok (.bipush 8, 2) := by decide +kernel
theorem dL_faults_11 : decode cL_faults 11 = .ok (.invokevirtual 47, 3) := by decide +kernel
theorem dL_faults_14 : decode cL_faults 14 = .ok (.if_icmp .ge 300, 3) := by decide +kernel
theorem dL_faults_17 : decode cL_faults 17 = .ok (.aload_n 0, 1) := by decide +kernel
theorem dL_faults_18 : decode cL_faults 18 = .ok (.iload_n 2, 1) := by decide +kernel
theorem dL_faults_19 : decode cL_faults 19 = .ok (.iconst 1, 1) := by decide +kernel
theorem dL_faults_20 : decode cL_faults 20 = .ok (.invokevirtual 33, 3) := by decide +kernel
theorem dL_faults_23 : decode cL_faults 23 = .ok (.aload_n 0, 1) := by decide +kernel
theorem dL_faults_24 : decode cL_faults 24 = .ok (.iload_n 2, 1) := by decide +kernel
theorem dL_faults_25 : decode cL_faults 25 = .ok (.iconst 0, 1) := by decide +kernel
theorem dL_faults_26 : decode cL_faults 26 = .ok (.invokevirtual 33, 3) := by decide +kernel
theorem dL_faults_29 : decode cL_faults 29 = .ok (.isub, 1) := by decide +kernel
theorem dL_faults_30 : decode cL_faults 30 = .ok (.istore_n 3, 1) := by decide +kernel
theorem dL_faults_31 : decode cL_faults 31 = .ok (.aload_n 0, 1) := by decide +kernel
theorem dL_faults_32 : decode cL_faults 32 = .ok (.iload_n 2, 1) := by decide +kernel
theorem dL_faults_33 : decode cL_faults 33 = .ok (.bipush 6, 2) := by decide +kernel
theorem dL_faults_35 : decode cL_faults 35 = .ok (.invokevirtual 33, 3) := by decide +kernel
theorem dL_faults_38 : decode cL_faults 38 = .ok (.istore 4, 2) := by decide +kernel
theorem dL_faults_40 : decode cL_faults 40 = .ok (.iload_n 2, 1) := by decide +kernel
theorem dL_faults_41 : decode cL_faults 41 = .ok (.ifCond .le 20, 3) := by decide +kernel
theorem dL_faults_44 : decode cL_faults 44 = .ok (.aload_n 0, 1) := by decide +kernel
theorem dL_faults_45 : decode cL_faults 45 = .ok (.iload_n 2, 1) := by decide +kernel
theorem dL_faults_46 : decode cL_faults 46 = .ok (.iconst 1, 1) := by decide +kernel
theorem dL_faults_47 : decode cL_faults 47 = .ok (.isub, 1) := by decide +kernel
theorem dL_faults_48 : decode cL_faults 48 = .ok (.iconst 0, 1) := by decide +kernel
theorem dL_faults_49 : decode cL_faults 49 = .ok (.invokevirtual 33, 3) := by decide +kernel
theorem dL_faults_52 : decode cL_faults 52 = .ok (.aload_n 0, 1) := by decide +kernel
theorem dL_faults_53 : decode cL_faults 53 = .ok (.iload_n 2, 1) := by decide +kernel
theorem dL_faults_54 : decode cL_faults 54 = .ok (.iconst 0, 1) := by decide +kernel
theorem dL_faults_55 : decode cL_faults 55 = .ok (.invokevirtual 33, 3) := by decide +kernel
theorem dL_faults_58 : decode cL_faults 58 = .ok (.if_icmp .eq 32, 3) := by decide +kernel
theorem dL_faults_61 : decode cL_faults 61 = .ok (.iload_n 2, 1) := by decide +kernel
theorem dL_faults_62 : decode cL_faults 62 = .ok (.iconst 1, 1) := by decide +kernel
theorem dL_faults_63 : decode cL_faults 63 = .ok (.iadd, 1) := by decide +kernel
theorem dL_faults_64 : decode cL_faults 64 = .ok (.aload_n 0, 1) := by decide +kernel
theorem dL_faults_65 : decode cL_faults 65 = .ok (.bipush 8, 2) := by decide +kernel
theorem dL_faults_67 : decode cL_faults 67 = .ok (.invokevirtual 47, 3) := by decide +kernel
theorem dL_faults_70 : decode cL_faults 70 = .ok (.if_icmp .ge 24, 3) := by decide +kernel
theorem dL_faults_73 : decode cL_faults 73 = .ok (.aload_n 0, 1) := by decide +kernel
theorem dL_faults_74 : decode cL_faults 74 = .ok (.iload_n 2, 1) := by decide +kernel
theorem dL_faults_75 : decode cL_faults 75 = .ok (.iconst 1, 1) := by decide +kernel
theorem dL_faults_76 : decode cL_faults 76 = .ok (.iadd, 1) := by decide +kernel
theorem dL_faults_77 : decode cL_faults 77 = .ok (.iconst 0, 1) := by decide +kernel
theorem dL_faults_78 : decode cL_faults 78 = .ok (.invokevirtual 33, 3) := by decide +kernel
theorem dL_faults_81 : decode cL_faults 81 = .ok (.aload_n 0, 1) := by decide +kernel
theorem dL_faults_82 : decode cL_faults 82 = .ok (.iload_n 2, 1) := by decide +kernel
theorem dL_faults_83 : decode cL_faults 83 = .ok (.iconst 0, 1) := by decide +kernel
theorem dL_faults_84 : decode cL_faults 84 = .ok (.invokevirtual 33, 3) := by decide +kernel
theorem dL_faults_87 : decode cL_faults 87 = .ok (.if_icmp .ne 7, 3) := by decide +kernel
theorem dL_faults_90 : decode cL_faults 90 = .ok (.iconst 1, 1) := by decide +kernel
theorem dL_faults_91 : decode cL_faults 91 = .ok (.goto 4, 3) := by decide +kernel
theorem dL_faults_94 : decode cL_faults 94 = .ok (.iconst 0, 1) := by decide +kernel
theorem dL_faults_95 : decode cL_faults 95 = .ok (.istore 5, 2) := by decide +kernel
theorem dL_faults_97 : decode cL_faults 97 = .ok (.iload_n 3, 1) := by decide +kernel
theorem dL_faults_98 : decode cL_faults 98 = .ok (.aload_n 0, 1) := by decide +kernel
theorem dL_faults_99 : decode cL_faults 99 = .ok (.iload_n 2, 1) := by decide +kernel
theorem dL_faults_100 : decode cL_faults 100 = .ok (.iconst 4, 1) := by decide +kernel
theorem dL_faults_101 : decode cL_faults 101 = .ok (.invokevirtual 33, 3) := by decide +kernel
theorem dL_faults_104 : decode cL_faults 104 = .ok (.if_icmp .ge 7, 3) := by decide +kernel
theorem dL_faults_107 : decode cL_faults 107 = .ok (.iconst 1, 1) := by decide +kernel
theorem dL_faults_108 : decode cL_faults 108 = .ok (.goto 4, 3) := by decide +kernel
theorem dL_faults_111 : decode cL_faults 111 = .ok (.iconst 0, 1) := by decide +kernel
theorem dL_faults_112 : decode cL_faults 112 = .ok (.istore 6, 2) := by decide +kernel
theorem dL_faults_114 : decode cL_faults 114 = .ok (.iload 6, 2) := by decide +kernel
theorem dL_faults_116 : decode cL_faults 116 = .ok (.iload 4, 2) := by decide +kernel
theorem dL_faults_118 : decode cL_faults 118 = .ok (.ifCond .lt 29, 3) := by decide +kernel
theorem dL_faults_121 : decode cL_faults 121 = .ok (.aload_n 0, 1) := by decide +kernel
theorem dL_faults_122 : decode cL_faults 122 = .ok (.iload_n 2, 1) := by decide +kernel
theorem dL_faults_123 : decode cL_faults 123 = .ok (.iconst 1, 1) := by decide +kernel
theorem dL_faults_124 : decode cL_faults 124 = .ok (.invokevirtual 33, 3) := by decide +kernel
theorem dL_faults_127 : decode cL_faults 127 = .ok (.aload_n 0, 1) := by decide +kernel
theorem dL_faults_128 : decode cL_faults 128 = .ok (.iload 4, 2) := by decide +kernel
theorem dL_faults_130 : decode cL_faults 130 = .ok (.iconst 0, 1) := by decide +kernel
theorem dL_faults_131 : decode cL_faults 131 = .ok (.invokevirtual 33, 3) := by decide +kernel
theorem dL_faults_134 : decode cL_faults 134 = .ok (.aload_n 0, 1) := by decide +kernel
theorem dL_faults_135 : decode cL_faults 135 = .ok (.iconst 2, 1) := by decide +kernel
theorem dL_faults_136 : decode cL_faults 136 = .ok (.invokevirtual 47, 3) := by decide +kernel
theorem dL_faults_139 : decode cL_faults 139 = .ok (.isub, 1) := by decide +kernel
theorem dL_faults_140 : decode cL_faults 140 = .ok (.if_icmp .le 7, 3) := by decide +kernel
theorem dL_faults_143 : decode cL_faults 143 = .ok (.iconst 2, 1) := by decide +kernel
theorem dL_faults_144 : decode cL_faults 144 = .ok (.goto 4, 3) := by decide +kernel
theorem dL_faults_147 : decode cL_faults 147 = .ok (.iconst 0, 1) := by decide +kernel
theorem dL_faults_148 : decode cL_faults 148 = .ok (.iadd, 1) := by decide +kernel
theorem dL_faults_149 : decode cL_faults 149 = .ok (.istore 6, 2) := by decide +kernel
theorem dL_faults_151 : decode cL_faults 151 = .ok (.iload 6, 2) := by decide +kernel
theorem dL_faults_153 : decode cL_faults 153 = .ok (.iload 5, 2) := by decide +kernel
theorem dL_faults_155 : decode cL_faults 155 = .ok (.ifCond .eq 7, 3) := by decide +kernel
theorem dL_faults_158 : decode cL_faults 158 = .ok (.iconst 4, 1) := by decide +kernel
theorem dL_faults_159 : decode cL_faults 159 = .ok (.goto 4, 3) := by decide +kernel
theorem dL_faults_162 : decode cL_faults 162 = .ok (.iconst 0, 1) := by decide +kernel
theorem dL_faults_163 : decode cL_faults 163 = .ok (.iadd, 1) := by decide +kernel
theorem dL_faults_164 : decode cL_faults 164 = .ok (.istore 6, 2) := by decide +kernel
theorem dL_faults_166 : decode cL_faults 166 = .ok (.iload 6, 2) := by decide +kernel
theorem dL_faults_168 : decode cL_faults 168 = .ok (.aload_n 0, 1) := by decide +kernel
theorem dL_faults_169 : decode cL_faults 169 = .ok (.aload_n 0, 1) := by decide +kernel
theorem dL_faults_170 : decode cL_faults 170 = .ok (.iload_n 2, 1) := by decide +kernel
theorem dL_faults_171 : decode cL_faults 171 = .ok (.iconst 0, 1) := by decide +kernel
theorem dL_faults_172 : decode cL_faults 172 = .ok (.invokevirtual 33, 3) := by decide +kernel
theorem dL_faults_175 : decode cL_faults 175 = .ok (.invokestatic 69, 3) := by decide +kernel
theorem dL_faults_178 : decode cL_faults 178 = .ok (.ifCond .ne 16, 3) := by decide +kernel
theorem dL_faults_181 : decode cL_faults 181 = .ok (.aload_n 0, 1) := by decide +kernel
theorem dL_faults_182 : decode cL_faults 182 = .ok (.aload_n 0, 1) := by decide +kernel
theorem dL_faults_183 : decode cL_faults 183 = .ok (.iload_n 2, 1) := by decide +kernel
theorem dL_faults_184 : decode cL_faults 184 = .ok (.iconst 1, 1) := by decide +kernel
theorem dL_faults_185 : decode cL_faults 185 = .ok (.invokevirtual 33, 3) := by decide +kernel
theorem dL_faults_188 : decode cL_faults 188 = .ok (.invokestatic 69, 3) := by decide +kernel
theorem dL_faults_191 : decode cL_faults 191 = .ok (.ifCond .eq 8, 3) := by decide +kernel
theorem dL_faults_194 : decode cL_faults 194 = .ok (.bipush 8, 2) := by decide +kernel
theorem dL_faults_196 : decode cL_faults 196 = .ok (.goto 4, 3) := by decide +kernel
theorem dL_faults_199 : decode cL_faults 199 = .ok (.iconst 0, 1) := by decide +kernel
theorem dL_faults_200 : decode cL_faults 200 = .ok (.iadd, 1) := by decide +kernel
theorem dL_faults_201 : decode cL_faults 201 = .ok (.istore 6, 2) := by decide +kernel
theorem dL_faults_203 : decode cL_faults 203 = .ok (.iload 6, 2) := by decide +kernel
theorem dL_faults_205 : decode cL_faults 205 = .ok (.aload_n 0, 1) := by decide +kernel
theorem dL_faults_206 : decode cL_faults 206 = .ok (.iload_n 2, 1) := by decide +kernel
theorem dL_faults_207 : decode cL_faults 207 = .ok (.invokestatic 72, 3) := by decide +kernel
theorem dL_faults_210 : decode cL_faults 210 = .ok (.ifCond .eq 8, 3) := by decide +kernel
theorem dL_faults_213 : decode cL_faults 213 = .ok (.bipush 16, 2) := by decide +kernel
theorem dL_faults_215 : decode cL_faults 215 = .ok (.goto 4, 3) := by decide +kernel
theorem dL_faults_218 : decode cL_faults 218 = .ok (.iconst 0, 1) := by decide +kernel
theorem dL_faults_219 : decode cL_faults 219 = .ok (.iadd, 1) := by decide +kernel
theorem dL_faults_220 : decode cL_faults 220 = .ok (.istore 6, 2) := by decide +kernel
theorem dL_faults_222 : decode cL_faults 222 = .ok (.iload 6, 2) := by decide +kernel
theorem dL_faults_224 : decode cL_faults 224 = .ok (.aload_n 0, 1) := by decide +kernel
theorem dL_faults_225 : decode cL_faults 225 = .ok (.iload_n 2, 1) := by decide +kernel
theorem dL_faults_226 : decode cL_faults 226 = .ok (.iconst 1, 1) := by decide +kernel
theorem dL_faults_227 : decode cL_faults 227 = .ok (.invokevirtual 33, 3) := by decide +kernel
theorem dL_faults_230 : decode cL_faults 230 = .ok (.aload_n 0, 1) := by decide +kernel
theorem dL_faults_231 : decode cL_faults 231 = .ok (.bipush 6, 2) := by decide +kernel
theorem dL_faults_233 : decode cL_faults 233 = .ok (.invokevirtual 47, 3) := by decide +kernel
theorem dL_faults_236 : decode cL_faults 236 = .ok (.if_icmp .le 8, 3) := by decide +kernel
theorem dL_faults_239 : decode cL_faults 239 = .ok (.bipush 32, 2) := by decide +kernel
theorem dL_faults_241 : decode cL_faults 241 = .ok (.goto 4, 3) := by decide +kernel
theorem dL_faults_244 : decode cL_faults 244 = .ok (.iconst 0, 1) := by decide +kernel
theorem dL_faults_245 : decode cL_faults 245 = .ok (.iadd, 1) := by decide +kernel
theorem dL_faults_246 : decode cL_faults 246 = .ok (.istore 6, 2) := by decide +kernel
theorem dL_faults_248 : decode cL_faults 248 = .ok (.aload_n 0, 1) := by decide +kernel
theorem dL_faults_249 : decode cL_faults 249 = .ok (.iload_n 2, 1) := by decide +kernel
theorem dL_faults_250 : decode cL_faults 250 = .ok (.iconst 5, 1) := by decide +kernel
theorem dL_faults_251 : decode cL_faults 251 = .ok (.invokevirtual 33, 3) := by decide +kernel
theorem dL_faults_254 : decode cL_faults 254 = .ok (.iload 6, 2) := by decide +kernel
theorem dL_faults_256 : decode cL_faults 256 = .ok (.if_icmp .eq 5, 3) := by decide +kernel
theorem dL_faults_259 : decode cL_faults 259 = .ok (.iconst 0, 1) := by decide +kernel
theorem dL_faults_260 : decode cL_faults 260 = .ok (.ireturn, 1) := by decide +kernel
theorem dL_faults_261 : decode cL_faults 261 = .ok (.iconst 0, 1) := by decide +kernel
theorem dL_faults_262 : decode cL_faults 262 = .ok (.istore 7, 2) := by decide +kernel
theorem dL_faults_264 : decode cL_faults 264 = .ok (.iload 7, 2) := by decide +kernel
theorem dL_faults_266 : decode cL_faults 266 = .ok (.bipush 6, 2) := by decide +kernel
theorem dL_faults_268 : decode cL_faults 268 = .ok (.if_icmp .ge 23, 3) := by decide +kernel
theorem dL_faults_271 : decode cL_faults 271 = .ok (.aload_n 1, 1) := by decide +kernel
theorem dL_faults_272 : decode cL_faults 272 = .ok (.iload 7, 2) := by decide +kernel
theorem dL_faults_274 : decode cL_faults 274 = .ok (.dup2, 1) := by decide +kernel
theorem dL_faults_275 : decode cL_faults 275 = .ok (.iaload, 1) := by decide +kernel
theorem dL_faults_276 : decode cL_faults 276 = .ok (.iload 6, 2) := by decide +kernel
theorem dL_faults_278 : decode cL_faults 278 = .ok (.iload 7, 2) := by decide +kernel
theorem dL_faults_280 : decode cL_faults 280 = .ok (.ishr, 1) := by decide +kernel
theorem dL_faults_281 : decode cL_faults 281 = .ok (.iconst 1, 1) := by decide +kernel
theorem dL_faults_282 : decode cL_faults 282 = .ok (.iand, 1) := by decide +kernel
theorem dL_faults_283 : decode cL_faults 283 = .ok (.iadd, 1) := by decide +kernel
theorem dL_faults_284 : decode cL_faults 284 = .ok (.iastore, 1) := by decide +kernel
theorem dL_faults_285 : decode cL_faults 285 = .ok (.iinc 7 1, 3) := by decide +kernel
theorem dL_faults_288 : decode cL_faults 288 = .ok (.goto (-24), 3) := by decide +kernel
theorem dL_faults_291 : decode cL_faults 291 = .ok (.aload_n 1, 1) := by decide +kernel
theorem dL_faults_292 : decode cL_faults 292 = .ok (.bipush 6, 2) := by decide +kernel
theorem dL_faults_294 : decode cL_faults 294 = .ok (.dup2, 1) := by decide +kernel
theorem dL_faults_295 : decode cL_faults 295 = .ok (.iaload, 1) := by decide +kernel
theorem dL_faults_296 : decode cL_faults 296 = .ok (.iload 6, 2) := by decide +kernel
theorem dL_faults_298 : decode cL_faults 298 = .ok (.ifCond .le 7, 3) := by decide +kernel
theorem dL_faults_301 : decode cL_faults 301 = .ok (.iconst 1, 1) := by decide +kernel
theorem dL_faults_302 : decode cL_faults 302 = .ok (.goto 4, 3) := by decide +kernel
theorem dL_faults_305 : decode cL_faults 305 = .ok (.iconst 0, 1) := by decide +kernel
theorem dL_faults_306 : decode cL_faults 306 = .ok (.iadd, 1) := by decide +kernel
theorem dL_faults_307 : decode cL_faults 307 = .ok (.iastore, 1) := by decide +kernel
theorem dL_faults_308 : decode cL_faults 308 = .ok (.iinc 2 1, 3) := by decide +kernel
theorem dL_faults_311 : decode cL_faults 311 = .ok (.goto (-304), 3) := by decide +kernel
theorem dL_faults_314 : decode cL_faults 314 = .ok (.aload_n 0, 1) := by decide +kernel
theorem dL_faults_315 : decode cL_faults 315 = .ok (.iconst 0, 1) := by decide +kernel
theorem dL_faults_316 : decode cL_faults 316 = .ok (.invokevirtual 75, 3) := by decide +kernel
theorem dL_faults_319 : decode cL_faults 319 = .ok (.aload_n 1, 1) := by decide +kernel
theorem dL_faults_320 : decode cL_faults 320 = .ok (.bipush 6, 2) := by decide +kernel
theorem dL_faults_322 : decode cL_faults 322 = .ok (.iaload, 1) := by decide +kernel
theorem dL_faults_323 : decode cL_faults 323 = .ok (.if_icmp .ne 7, 3) := by decide +kernel
theorem dL_faults_326 : decode cL_faults 326 = .ok (.iconst 1, 1) := by decide +kernel
theorem dL_faults_327 : decode cL_faults 327 = .ok (.goto 4, 3) := by decide +kernel
theorem dL_faults_330 : decode cL_faults 330 = .ok (.iconst 0, 1) := by decide +kernel
theorem dL_faults_331 : decode cL_faults 331 = .ok (.istore_n 2, 1) := by decide +kernel
theorem dL_faults_332 : decode cL_faults 332 = .ok (.iconst 0, 1) := by decide +kernel
theorem dL_faults_333 : decode cL_faults 333 = .ok (.istore_n 3, 1) := by decide +kernel
theorem dL_faults_334 : decode cL_faults 334 = .ok (.iload_n 3, 1) := by decide +kernel
theorem dL_faults_335 : decode cL_faults 335 = .ok (.bipush 6, 2) := by decide +kernel
theorem dL_faults_337 : decode cL_faults 337 = .ok (.if_icmp .ge 32, 3) := by decide +kernel
theorem dL_faults_340 : decode cL_faults 340 = .ok (.iload_n 2, 1) := by decide +kernel
theorem dL_faults_341 : decode cL_faults 341 = .ok (.ifCond .eq 20, 3) := by decide +kernel
theorem dL_faults_344 : decode cL_faults 344 = .ok (.aload_n 0, 1) := by decide +kernel
theorem dL_faults_345 : decode cL_faults 345 = .ok (.iconst 1, 1) := by decide +kernel
theorem dL_faults_346 : decode cL_faults 346 = .ok (.iload_n 3, 1) := by decide +kernel
theorem dL_faults_347 : decode cL_faults 347 = .ok (.ishl, 1) := by decide +kernel
theorem dL_faults_348 : decode cL_faults 348 = .ok (.invokevirtual 75, 3) := by decide +kernel
theorem dL_faults_351 : decode cL_faults 351 = .ok (.aload_n 1, 1) := by decide +kernel
theorem dL_faults_352 : decode cL_faults 352 = .ok (.iload_n 3, 1) := by decide +kernel
theorem dL_faults_353 : decode cL_faults 353 = .ok (.iaload, 1) := by decide +kernel
theorem dL_faults_354 : decode cL_faults 354 = .ok (.if_icmp .ne 7, 3) := by decide +kernel
theorem dL_faults_357 : decode cL_faults 357 = .ok (.iconst 1, 1) := by decide +kernel
theorem dL_faults_358 : decode cL_faults 358 = .ok (.goto 4, 3) := by decide +kernel
theorem dL_faults_361 : decode cL_faults 361 = .ok (.iconst 0, 1) := by decide +kernel
theorem dL_faults_362 : decode cL_faults 362 = .ok (.istore_n 2, 1) := by decide +kernel
theorem dL_faults_363 : decode cL_faults 363 = .ok (.iinc 3 1, 3) := by decide +kernel
theorem dL_faults_366 : decode cL_faults 366 = .ok (.goto (-32), 3) := by decide +kernel
theorem dL_faults_369 : decode cL_faults 369 = .ok (.iload_n 2, 1) := by decide +kernel
theorem dL_faults_370 : decode cL_faults 370 = .ok (.ifCond .eq 16, 3) := by decide +kernel
theorem dL_faults_373 : decode cL_faults 373 = .ok (.aload_n 0, 1) := by decide +kernel
theorem dL_faults_374 : decode cL_faults 374 = .ok (.iconst 3, 1) := by decide +kernel
theorem dL_faults_375 : decode cL_faults 375 = .ok (.invokevirtual 75, 3) := by decide +kernel
theorem dL_faults_378 : decode cL_faults 378 = .ok (.iconst (-1), 1) := by decide +kernel
theorem dL_faults_379 : decode cL_faults 379 = .ok (.if_icmp .ne 7, 3) := by decide +kernel
theorem dL_faults_382 : decode cL_faults 382 = .ok (.iconst 1, 1) := by decide +kernel
theorem dL_faults_383 : decode cL_faults 383 = .ok (.goto 4, 3) := by decide +kernel
theorem dL_faults_386 : decode cL_faults 386 = .ok (.iconst 0, 1) := by decide +kernel
theorem dL_faults_387 : decode cL_faults 387 = .ok (.ireturn, 1) := by decide +kernel
theorem dL_whole_0 : decode cL_whole 0 = .ok (.aload_n 0, 1) := by decide +kernel
theorem dL_whole_1 : decode cL_whole 1 = .ok (.invokestatic 78, 3) := by decide +kernel
theorem dL_whole_4 : decode cL_whole 4 = .ok (.ifCond .eq 14, 3) := by decide +kernel
theorem dL_whole_7 : decode cL_whole 7 = .ok (.aload_n 0, 1) := by decide +kernel
theorem dL_whole_8 : decode cL_whole 8 = .ok (.invokestatic 82, 3) := by decide +kernel
theorem dL_whole_11 : decode cL_whole 11 = .ok (.ifCond .eq 7, 3) := by decide +kernel
theorem dL_whole_14 : decode cL_whole 14 = .ok (.iconst 1, 1) := by decide +kernel
theorem dL_whole_15 : decode cL_whole 15 = .ok (.goto 4, 3) := by decide +kernel
theorem dL_whole_18 : decode cL_whole 18 = .ok (.iconst 0, 1) := by decide +kernel
theorem dL_whole_19 : decode cL_whole 19 = .ok (.istore_n 1, 1) := by decide +kernel
theorem dL_whole_20 : decode cL_whole 20 = .ok (.iconst 0, 1) := by decide +kernel
theorem dL_whole_21 : decode cL_whole 21 = .ok (.istore_n 2, 1) := by decide +kernel
theorem dL_whole_22 : decode cL_whole 22 = .ok (.iload_n 2, 1) := by decide +kernel
theorem dL_whole_23 : decode cL_whole 23 = .ok (.aload_n 0, 1) := by decide +kernel
theorem dL_whole_24 : decode cL_whole 24 = .ok (.bipush 8, 2) := by decide +kernel
theorem dL_whole_26 : decode cL_whole 26 = .ok (.invokevirtual 47, 3) := by decide +kernel
theorem dL_whole_29 : decode cL_whole 29 = .ok (.if_icmp .ge 160, 3) := by decide +kernel
theorem dL_whole_32 : decode cL_whole 32 = .ok (.iload_n 1, 1) := by decide +kernel
theorem dL_whole_33 : decode cL_whole 33 = .ok (.ifCond .eq 156, 3) := by decide +kernel
theorem dL_whole_36 : decode cL_whole 36 = .ok (.aload_n 0, 1) := by decide +kernel
theorem dL_whole_37 : decode cL_whole 37 = .ok (.iload_n 2, 1) := by decide +kernel
theorem dL_whole_38 : decode cL_whole 38 = .ok (.iconst 0, 1) := by decide +kernel
theorem dL_whole_39 : decode cL_whole 39 = .ok (.invokestatic 84, 3) := by decide +kernel
theorem dL_whole_42 : decode cL_whole 42 = .ok (.ifCond .eq 41, 3) := by decide +kernel
theorem dL_whole_45 : decode cL_whole 45 = .ok (.aload_n 0, 1) := by decide +kernel
theorem dL_whole_46 : decode cL_whole 46 = .ok (.iload_n 2, 1) := by decide +kernel
theorem dL_whole_47 : decode cL_whole 47 = .ok (.iconst 2, 1) := by decide +kernel
theorem dL_whole_48 : decode cL_whole 48 = .ok (.invokevirtual 33, 3) := by decide +kernel
theorem dL_whole_51 : decode cL_whole 51 = .ok (.iconst 1, 1) := by decide +kernel
theorem dL_whole_52 : decode cL_whole 52 = .ok (.if_icmp .ne 18, 3) := by decide +kernel
theorem dL_whole_55 : decode cL_whole 55 = .ok (.aload_n 0, 1) := by decide +kernel
theorem dL_whole_56 : decode cL_whole 56 = .ok (.iload_n 2, 1) := by decide +kernel
theorem dL_whole_57 : decode cL_whole 57 = .ok (.iconst 1, 1) := by decide +kernel
theorem dL_whole_58 : decode cL_whole 58 = .ok (.iconst 1, 1) := by decide +kernel
theorem dL_whole_59 : decode cL_whole 59 = .ok (.invokevirtual 59, 3) := by decide +kernel
theorem dL_whole_62 : decode cL_whole 62 = .ok (.bipush (-9), 2) := by decide +kernel
theorem dL_whole_64 : decode cL_whole 64 = .ok (.if_icmp .ne 19, 3) := by decide +kernel
theorem dL_whole_67 : decode cL_whole 67 = .ok (.goto 12, 3) := by decide +kernel
theorem dL_whole_70 : decode cL_whole 70 = .ok (.aload_n 0, 1) := by decide +kernel
theorem dL_whole_71 : decode cL_whole 71 = .ok (.iload_n 2, 1) := by decide +kernel
theorem dL_whole_72 : decode cL_whole 72 = .ok (.iconst 1, 1) := by decide +kernel
theorem dL_whole_73 : decode cL_whole 73 = .ok (.invokestatic 84, 3) := by decide +kernel
theorem dL_whole_76 : decode cL_whole 76 = .ok (.ifCond .eq 7, 3) := by decide +kernel
theorem dL_whole_79 : decode cL_whole 79 = .ok (.iconst 1, 1) := by decide +kernel
theorem dL_whole_80 : decode cL_whole 80 = .ok (.goto 4, 3) := by decide +kernel
theorem dL_whole_83 : decode cL_whole 83 = .ok (.iconst 0, 1) := by decide +kernel
theorem dL_whole_84 : decode cL_whole 84 = .ok (.istore_n 1, 1) := by decide +kernel
theorem dL_whole_85 : decode cL_whole 85 = .ok (.aload_n 0, 1) := by decide +kernel
theorem dL_whole_86 : decode cL_whole 86 = .ok (.iload_n 2, 1) := by decide +kernel
theorem dL_whole_87 : decode cL_whole 87 = .ok (.iconst 2, 1) := by decide +kernel
theorem dL_whole_88 : decode cL_whole 88 = .ok (.invokevirtual 33, 3) := by decide +kernel
theorem dL_whole_91 : decode cL_whole 91 = .ok (.iconst 1, 1) := by decide +kernel
theorem dL_whole_92 : decode cL_whole 92 = .ok (.if_icmp .ne 7, 3) := by decide +kernel
theorem dL_whole_95 : decode cL_whole 95 = .ok (.iconst 0, 1) := by decide +kernel
theorem dL_whole_96 : decode cL_whole 96 = .ok (.goto 12, 3) := by decide +kernel
theorem dL_whole_99 : decode cL_whole 99 = .ok (.aload_n 0, 1) := by decide +kernel
theorem dL_whole_100 : decode cL_whole 100 = .ok (.iload_n 2, 1) := by decide +kernel
theorem dL_whole_101 : decode cL_whole 101 = .ok (.iconst 1, 1) := by decide +kernel
theorem dL_whole_102 : decode cL_whole 102 = .ok (.iconst 1, 1) := by decide +kernel
theorem dL_whole_103 : decode cL_whole 103 = .ok (.invokevirtual 59, 3) := by decide +kernel
theorem dL_whole_106 : decode cL_whole 106 = .ok (.iconst 4, 1) := by decide +kernel
theorem dL_whole_107 : decode cL_whole 107 = .ok (.iadd, 1) := by decide +kernel
theorem dL_whole_108 : decode cL_whole 108 = .ok (.istore_n 3, 1) := by decide +kernel
theorem dL_whole_109 : decode cL_whole 109 = .ok (.aload_n 0, 1) := by decide +kernel
theorem dL_whole_110 : decode cL_whole 110 = .ok (.iload_n 2, 1) := by decide +kernel
theorem dL_whole_111 : decode cL_whole 111 = .ok (.iconst 0, 1) := by decide +kernel
theorem dL_whole_112 : decode cL_whole 112 = .ok (.iconst 1, 1) := by decide +kernel
theorem dL_whole_113 : decode cL_whole 113 = .ok (.invokevirtual 59, 3) := by decide +kernel
theorem dL_whole_116 : decode cL_whole 116 = .ok (.iload_n 3, 1) := by decide +kernel
theorem dL_whole_117 : decode cL_whole 117 = .ok (.iadd, 1) := by decide +kernel
theorem dL_whole_118 : decode cL_whole 118 = .ok (.aload_n 0, 1) := by decide +kernel
theorem dL_whole_119 : decode cL_whole 119 = .ok (.iconst 0, 1) := by decide +kernel
theorem dL_whole_120 : decode cL_whole 120 = .ok (.invokevirtual 47, 3) := by decide +kernel
theorem dL_whole_123 : decode cL_whole 123 = .ok (.imul, 1) := by decide +kernel
theorem dL_whole_124 : decode cL_whole 124 = .ok (.istore 4, 2) := by decide +kernel
theorem dL_whole_126 : decode cL_whole 126 = .ok (.iload_n 1, 1) := by decide +kernel
theorem dL_whole_127 : decode cL_whole 127 = .ok (.ifCond .eq 54, 3) := by decide +kernel
theorem dL_whole_130 : decode cL_whole 130 = .ok (.aload_n 0, 1) := by decide +kernel
theorem dL_whole_131 : decode cL_whole 131 = .ok (.iload_n 2, 1) := by decide +kernel
theorem dL_whole_132 : decode cL_whole 132 = .ok (.iconst 3, 1) := by decide +kernel
theorem dL_whole_133 : decode cL_whole 133 = .ok (.invokevirtual 33, 3) := by decide +kernel
theorem dL_whole_136 : decode cL_whole 136 = .ok (.aload_n 0, 1) := by decide +kernel
theorem dL_whole_137 : decode cL_whole 137 = .ok (.iload_n 2, 1) := by decide +kernel
theorem dL_whole_138 : decode cL_whole 138 = .ok (.iconst 0, 1) := by decide +kernel
theorem dL_whole_139 : decode cL_whole 139 = .ok (.iconst 1, 1) := by decide +kernel
theorem dL_whole_140 : decode cL_whole 140 = .ok (.invokevirtual 59, 3) := by decide +kernel
theorem dL_whole_143 : decode cL_whole 143 = .ok (.iload_n 3, 1) := by decide +kernel
theorem dL_whole_144 : decode cL_whole 144 = .ok (.iadd, 1) := by decide +kernel
theorem dL_whole_145 : decode cL_whole 145 = .ok (.if_icmp .ne 36, 3) := by decide +kernel
theorem dL_whole_148 : decode cL_whole 148 = .ok (.aload_n 0, 1) := by decide +kernel
theorem dL_whole_149 : decode cL_whole 149 = .ok (.iload_n 2, 1) := by decide +kernel
theorem dL_whole_150 : decode cL_whole 150 = .ok (.iconst 4, 1) := by decide +kernel
theorem dL_whole_151 : decode cL_whole 151 = .ok (.invokevirtual 33, 3) := by decide +kernel
theorem dL_whole_154 : decode cL_whole 154 = .ok (.iload 4, 2) := by decide +kernel
theorem dL_whole_156 : decode cL_whole 156 = .ok (.aload_n 0, 1) := by decide +kernel
theorem dL_whole_157 : decode cL_whole 157 = .ok (.iconst 1, 1) := by decide +kernel
theorem dL_whole_158 : decode cL_whole 158 = .ok (.invokevirtual 47, 3) := by decide +kernel
theorem dL_whole_161 : decode cL_whole 161 = .ok (.if_icmp .le 8, 3) := by decide +kernel
theorem dL_whole_164 : decode cL_whole 164 = .ok (.iload 4, 2) := by decide +kernel
theorem dL_whole_166 : decode cL_whole 166 = .ok (.goto 8, 3) := by decide +kernel
theorem dL_whole_169 : decode cL_whole 169 = .ok (.aload_n 0, 1) := by decide +kernel
theorem dL_whole_170 : decode cL_whole 170 = .ok (.iconst 1, 1) := by decide +kernel
theorem dL_whole_171 : decode cL_whole 171 = .ok (.invokevirtual 47, 3) := by decide +kernel
theorem dL_whole_174 : decode cL_whole 174 = .ok (.if_icmp .ne 7, 3) := by decide +kernel
theorem dL_whole_177 : decode cL_whole 177 = .ok (.iconst 1, 1) := by decide +kernel
theorem dL_whole_178 : decode cL_whole 178 = .ok (.goto 4, 3) := by decide +kernel
theorem dL_whole_181 : decode cL_whole 181 = .ok (.iconst 0, 1) := by decide +kernel
theorem dL_whole_182 : decode cL_whole 182 = .ok (.istore_n 1, 1) := by decide +kernel
theorem dL_whole_183 : decode cL_whole 183 = .ok (.iinc 2 1, 3) := by decide +kernel
theorem dL_whole_186 : decode cL_whole 186 = .ok (.goto (-164), 3) := by decide +kernel
theorem dL_whole_189 : decode cL_whole 189 = .ok (.iload_n 1, 1) := by decide +kernel
theorem dL_whole_190 : decode cL_whole 190 = .ok (.ireturn, 1) := by decide +kernel
theorem dL_step_0 : decode cL_step 0 = .ok (.aload_n 0, 1) := by decide +kernel
theorem dL_step_1 : decode cL_step 1 = .ok (.iload_n 1, 1) := by decide +kernel
theorem dL_step_2 : decode cL_step 2 = .ok (.iconst 0, 1) := by decide +kernel
theorem dL_step_3 : decode cL_step 3 = .ok (.invokevirtual 88, 3) := by decide +kernel
theorem dL_step_6 : decode cL_step 6 = .ok (.istore_n 2, 1) := by decide +kernel
theorem dL_step_7 : decode cL_step 7 = .ok (.aload_n 0, 1) := by decide +kernel
theorem dL_step_8 : decode cL_step 8 = .ok (.iload_n 1, 1) := by decide +kernel
theorem dL_step_9 : decode cL_step 9 = .ok (.iconst 1, 1) := by decide +kernel
theorem dL_step_10 : decode cL_step 10 = .ok (.invokevirtual 88, 3) := by decide +kernel
theorem dL_step_13 : decode cL_step 13 = .ok (.istore_n 3, 1) := by decide +kernel
theorem dL_step_14 : decode cL_step 14 = .ok (.aload_n 0, 1) := by decide +kernel
theorem dL_step_15 : decode cL_step 15 = .ok (.iload_n 1, 1) := by decide +kernel
theorem dL_step_16 : decode cL_step 16 = .ok (.iconst 2, 1) := by decide +kernel
theorem dL_step_17 : decode cL_step 17 = .ok (.invokevirtual 88, 3) := by decide +kernel
theorem dL_step_20 : decode cL_step 20 = .ok (.istore 4, 2) := by decide +kernel
theorem dL_step_22 : decode cL_step 22 = .ok (.aload_n 0, 1) := by decide +kernel
theorem dL_step_23 : decode cL_step 23 = .ok (.iload_n 1, 1) := by decide +kernel
theorem dL_step_24 : decode cL_step 24 = .ok (.iconst 3, 1) := by decide +kernel
theorem dL_step_25 : decode cL_step 25 = .ok (.invokevirtual 88, 3) := by decide +kernel
theorem dL_step_28 : decode cL_step 28 = .ok (.istore 5, 2) := by decide +kernel
theorem dL_step_30 : decode cL_step 30 = .ok (.iconst 0, 1) := by decide +kernel
theorem dL_step_31 : decode cL_step 31 = .ok (.istore 6, 2) := by decide +kernel
theorem dL_step_33 : decode cL_step 33 = .ok (.iconst 0, 1) := by decide +kernel
theorem dL_step_34 : decode cL_step 34 = .ok (.istore 7, 2) := by decide +kernel
theorem dL_step_36 : decode cL_step 36 = .ok (.iconst 0, 1) := by decide +kernel
theorem dL_step_37 : decode cL_step 37 = .ok (.istore 8, 2) := by decide +kernel
theorem dL_step_39 : decode cL_step 39 = .ok (.iload 8, 2) := by decide +kernel
theorem dL_step_41 : decode cL_step 41 = .ok (.aload_n 0, 1) := by decide +kernel
theorem dL_step_42 : decode cL_step 42 = .ok (.bipush 8, 2) := by decide +kernel
theorem dL_step_44 : decode cL_step 44 = .ok (.invokevirtual 47, 3) := by decide +kernel
theorem dL_step_47 : decode cL_step 47 = .ok (.if_icmp .ge 39, 3) := by decide +kernel
theorem dL_step_50 : decode cL_step 50 = .ok (.iload 6, 2) := by decide +kernel
theorem dL_step_52 : decode cL_step 52 = .ok (.aload_n 0, 1) := by decide +kernel
theorem dL_step_53 : decode cL_step 53 = .ok (.iload 8, 2) := by decide +kernel
theorem dL_step_55 : decode cL_step 55 = .ok (.invokevirtual 91, 3) := by decide +kernel
theorem dL_step_58 : decode cL_step 58 = .ok (.ifCond .ne 7, 3) := by decide +kernel
theorem dL_step_61 : decode cL_step 61 = .ok (.iconst 1, 1) := by decide +kernel
theorem dL_step_62 : decode cL_step 62 = .ok (.goto 4, 3) := by decide +kernel
theorem dL_step_65 : decode cL_step 65 = .ok (.iconst 0, 1) := by decide +kernel
theorem dL_step_66 : decode cL_step 66 = .ok (.iadd, 1) := by decide +kernel
theorem dL_step_67 : decode cL_step 67 = .ok (.istore 6, 2) := by decide +kernel
theorem dL_step_69 : decode cL_step 69 = .ok (.iload 7, 2) := by decide +kernel
theorem dL_step_71 : decode cL_step 71 = .ok (.aload_n 0, 1) := by decide +kernel
theorem dL_step_72 : decode cL_step 72 = .ok (.iload 8, 2) := by decide +kernel
theorem dL_step_74 : decode cL_step 74 = .ok (.invokevirtual 91, 3) := by decide +kernel
theorem dL_step_77 : decode cL_step 77 = .ok (.iadd, 1) := by decide +kernel
theorem dL_step_78 : decode cL_step 78 = .ok (.istore 7, 2) := by decide +kernel
theorem dL_step_80 : decode cL_step 80 = .ok (.iinc 8 1, 3) := by decide +kernel
theorem dL_step_83 : decode cL_step 83 = .ok (.goto (-44), 3) := by decide +kernel
theorem dL_step_86 : decode cL_step 86 = .ok (.aload_n 0, 1) := by decide +kernel
theorem dL_step_87 : decode cL_step 87 = .ok (.iload_n 1, 1) := by decide +kernel
theorem dL_step_88 : decode cL_step 88 = .ok (.iconst 4, 1) := by decide +kernel
theorem dL_step_89 : decode cL_step 89 = .ok (.invokevirtual 88, 3) := by decide +kernel
theorem dL_step_92 : decode cL_step 92 = .ok (.iload_n 2, 1) := by decide +kernel
theorem dL_step_93 : decode cL_step 93 = .ok (.ifCond .ge 8, 3) := by decide +kernel
theorem dL_step_96 : decode cL_step 96 = .ok (.bipush (-3), 2) := by decide +kernel
theorem dL_step_98 : decode cL_step 98 = .ok (.goto 14, 3) := by decide +kernel
theorem dL_step_101 : decode cL_step 101 = .ok (.iload_n 1, 1) := by decide +kernel
theorem dL_step_102 : decode cL_step 102 = .ok (.iconst 1, 1) := by decide +kernel
theorem dL_step_103 : decode cL_step 103 = .ok (.if_icmp .ne 8, 3) := by decide +kernel
theorem dL_step_106 : decode cL_step 106 = .ok (.iload 6, 2) := by decide +kernel
theorem dL_step_108 : decode cL_step 108 = .ok (.goto 4, 3) := by decide +kernel
theorem dL_step_111 : decode cL_step 111 = .ok (.iconst 0, 1) := by decide +kernel
theorem dL_step_112 : decode cL_step 112 = .ok (.if_icmp .ne 30, 3) := by decide +kernel
theorem dL_step_115 : decode cL_step 115 = .ok (.iload_n 1, 1) := by decide +kernel
theorem dL_step_116 : decode cL_step 116 = .ok (.iconst 1, 1) := by decide +kernel
theorem dL_step_117 : decode cL_step 117 = .ok (.if_icmp .ne 21, 3) := by decide +kernel
theorem dL_step_120 : decode cL_step 120 = .ok (.iload_n 2, 1) := by decide +kernel
theorem dL_step_121 : decode cL_step 121 = .ok (.iload 7, 2) := by decide +kernel
theorem dL_step_123 : decode cL_step 123 = .ok (.bipush 16, 2) := by decide +kernel
theorem dL_step_125 : decode cL_step 125 = .ok (.if_icmp .le 8, 3) := by decide +kernel
theorem dL_step_128 : decode cL_step 128 = .ok (.bipush (-3), 2) := by decide +kernel
theorem dL_step_130 : decode cL_step 130 = .ok (.goto 5, 3) := by decide +kernel
theorem dL_step_133 : decode cL_step 133 = .ok (.iload 7, 2) := by decide +kernel
theorem dL_step_135 : decode cL_step 135 = .ok (.if_icmp .ne 7, 3) := by decide +kernel
theorem dL_step_138 : decode cL_step 138 = .ok (.iconst 1, 1) := by decide +kernel
theorem dL_step_139 : decode cL_step 139 = .ok (.goto 4, 3) := by decide +kernel
theorem dL_step_142 : decode cL_step 142 = .ok (.iconst 0, 1) := by decide +kernel
theorem dL_step_143 : decode cL_step 143 = .ok (.istore 8, 2) := by decide +kernel
theorem dL_step_145 : decode cL_step 145 = .ok (.aload_n 0, 1) := by decide +kernel
theorem dL_step_146 : decode cL_step 146 = .ok (.bipush 8, 2) := by decide +kernel
theorem dL_step_148 : decode cL_step 148 = .ok (.invokevirtual 47, 3) := by decide +kernel
theorem dL_step_151 : decode cL_step 151 = .ok (.istore 9, 2) := by decide +kernel
theorem dL_step_153 : decode cL_step 153 = .ok (.iload 8, 2) := by decide +kernel
theorem dL_step_155 : decode cL_step 155 = .ok (.ifCond .eq 12, 3) := by decide +kernel
theorem dL_step_158 : decode cL_step 158 = .ok (.aload_n 0, 1) := by decide +kernel
theorem dL_step_159 : decode cL_step 159 = .ok (.iload_n 1, 1) := by decide +kernel
theorem dL_step_160 : decode cL_step 160 = .ok (.invokevirtual 94, 3) := by decide +kernel
theorem dL_step_163 : decode cL_step 163 = .ok (.iload_n 2, 1) := by decide +kernel
theorem dL_step_164 : decode cL_step 164 = .ok (.if_icmp .eq 5, 3) := by decide +kernel
theorem dL_step_167 : decode cL_step 167 = .ok (.iconst 0, 1) := by decide +kernel
theorem dL_step_168 : decode cL_step 168 = .ok (.ireturn, 1) := by decide +kernel
theorem dL_step_169 : decode cL_step 169 = .ok (.iload_n 2, 1) := by decide +kernel
theorem dL_step_170 : decode cL_step 170 = .ok (.ifCond .ge 20, 3) := by decide +kernel
theorem dL_step_173 : decode cL_step 173 = .ok (.aload_n 0, 1) := by decide +kernel
theorem dL_step_174 : decode cL_step 174 = .ok (.bipush 8, 2) := by decide +kernel
theorem dL_step_176 : decode cL_step 176 = .ok (.invokevirtual 47, 3) := by decide +kernel
theorem dL_step_179 : decode cL_step 179 = .ok (.iload 9, 2) := by decide +kernel
theorem dL_step_181 : decode cL_step 181 = .ok (.if_icmp .ne 7, 3) := by decide +kernel
theorem dL_step_184 : decode cL_step 184 = .ok (.iconst 1, 1) := by decide +kernel
theorem dL_step_185 : decode cL_step 185 = .ok (.goto 4, 3) := by decide +kernel
theorem dL_step_188 : decode cL_step 188 = .ok (.iconst 0, 1) := by decide +kernel
theorem dL_step_189 : decode cL_step 189 = .ok (.ireturn, 1) := by decide +kernel
theorem dL_step_190 : decode cL_step 190 = .ok (.iconst 0, 1) := by decide +kernel
theorem dL_step_191 : decode cL_step 191 = .ok (.istore 10, 2) := by decide +kernel
theorem dL_step_193 : decode cL_step 193 = .ok (.iconst 0, 1) := by decide +kernel
theorem dL_step_194 : decode cL_step 194 = .ok (.istore 11, 2) := by decide +kernel
theorem dL_step_196 : decode cL_step 196 = .ok (.iconst 0, 1) := by decide +kernel
theorem dL_step_197 : decode cL_step 197 = .ok (.istore 12, 2) := by decide +kernel
theorem dL_step_199 : decode cL_step 199 = .ok (.iload 12, 2) := by decide +kernel
theorem dL_step_201 : decode cL_step 201 = .ok (.iload_n 2, 1) := by decide +kernel
theorem dL_step_202 : decode cL_step 202 = .ok (.if_icmp .ge 156, 3) := by decide +kernel
theorem dL_step_205 : decode cL_step 205 = .ok (.iload 10, 2) := by decide +kernel
theorem dL_step_207 : decode cL_step 207 = .ok (.aload_n 0, 1) := by decide +kernel
theorem dL_step_208 : decode cL_step 208 = .ok (.iload 12, 2) := by decide +kernel
theorem dL_step_210 : decode cL_step 210 = .ok (.iconst 1, 1) := by decide +kernel
theorem dL_step_211 : decode cL_step 211 = .ok (.invokevirtual 33, 3) := by decide +kernel
theorem dL_step_214 : decode cL_step 214 = .ok (.aload_n 0, 1) := by decide +kernel
theorem dL_step_215 : decode cL_step 215 = .ok (.iload 12, 2) := by decide +kernel
theorem dL_step_217 : decode cL_step 217 = .ok (.iconst 0, 1) := by decide +kernel
theorem dL_step_218 : decode cL_step 218 = .ok (.invokevirtual 33, 3) := by decide +kernel
theorem dL_step_221 : decode cL_step 221 = .ok (.isub, 1) := by decide +kernel
theorem dL_step_222 : decode cL_step 222 = .ok (.iadd, 1) := by decide +kernel
theorem dL_step_223 : decode cL_step 223 = .ok (.istore 10, 2) := by decide +kernel
theorem dL_step_225 : decode cL_step 225 = .ok (.aload_n 0, 1) := by decide +kernel
theorem dL_step_226 : decode cL_step 226 = .ok (.iload 12, 2) := by decide +kernel
theorem dL_step_228 : decode cL_step 228 = .ok (.iconst 1, 1) := by decide +kernel
theorem dL_step_229 : decode cL_step 229 = .ok (.invokevirtual 33, 3) := by decide +kernel
theorem dL_step_232 : decode cL_step 232 = .ok (.iload 11, 2) := by decide +kernel
theorem dL_step_234 : decode cL_step 234 = .ok (.if_icmp .le 13, 3) := by decide +kernel
theorem dL_step_237 : decode cL_step 237 = .ok (.aload_n 0, 1) := by decide +kernel
theorem dL_step_238 : decode cL_step 238 = .ok (.iload 12, 2) := by decide +kernel
theorem dL_step_240 : decode cL_step 240 = .ok (.iconst 1, 1) := by decide +kernel
theorem dL_step_241 : decode cL_step 241 = .ok (.invokevirtual 33, 3) := by decide +kernel
theorem dL_step_244 : decode cL_step 244 = .ok (.goto 5, 3) := by decide +kernel
theorem dL_step_247 : decode cL_step 247 = .ok (.iload 11, 2) := by decide +kernel
theorem dL_step_249 : decode cL_step 249 = .ok (.istore 11, 2) := by decide +kernel
theorem dL_step_251 : decode cL_step 251 = .ok (.iload 8, 2) := by decide +kernel
theorem dL_step_253 : decode cL_step 253 = .ok (.ifCond .eq 47, 3) := by decide +kernel
theorem dL_step_256 : decode cL_step 256 = .ok (.iload_n 1, 1) := by decide +kernel
theorem dL_step_257 : decode cL_step 257 = .ok (.iconst 1, 1) := by decide +kernel
theorem dL_step_258 : decode cL_step 258 = .ok (.if_icmp .ne 38, 3) := by decide +kernel
theorem dL_step_261 : decode cL_step 261 = .ok (.aload_n 0, 1) := by decide +kernel
theorem dL_step_262 : decode cL_step 262 = .ok (.iload 12, 2) := by decide +kernel
theorem dL_step_264 : decode cL_step 264 = .ok (.iconst 1, 1) := by decide +kernel
theorem dL_step_265 : decode cL_step 265 = .ok (.invokevirtual 33, 3) := by decide +kernel
theorem dL_step_268 : decode cL_step 268 = .ok (.aload_n 0, 1) := by decide +kernel
theorem dL_step_269 : decode cL_step 269 = .ok (.bipush 6, 2) := by decide +kernel
theorem dL_step_271 : decode cL_step 271 = .ok (.invokevirtual 47, 3) := by decide +kernel
theorem dL_step_274 : decode cL_step 274 = .ok (.if_icmp .gt 26, 3) := by decide +kernel
theorem dL_step_277 : decode cL_step 277 = .ok (.aload_n 0, 1) := by decide +kernel
theorem dL_step_278 : decode cL_step 278 = .ok (.iload 12, 2) := by decide +kernel
theorem dL_step_280 : decode cL_step 280 = .ok (.iconst 1, 1) := by decide +kernel
theorem dL_step_281 : decode cL_step 281 = .ok (.invokevirtual 33, 3) := by decide +kernel
theorem dL_step_284 : decode cL_step 284 = .ok (.aload_n 0, 1) := by decide +kernel
theorem dL_step_285 : decode cL_step 285 = .ok (.iload 12, 2) := by decide +kernel
theorem dL_step_287 : decode cL_step 287 = .ok (.iconst 0, 1) := by decide +kernel
theorem dL_step_288 : decode cL_step 288 = .ok (.invokevirtual 33, 3) := by decide +kernel
theorem dL_step_291 : decode cL_step 291 = .ok (.isub, 1) := by decide +kernel
theorem dL_step_292 : decode cL_step 292 = .ok (.iconst 4, 1) := by decide +kernel
theorem dL_step_293 : decode cL_step 293 = .ok (.if_icmp .lt 7, 3) := by decide +kernel
theorem dL_step_296 : decode cL_step 296 = .ok (.iconst 1, 1) := by decide +kernel
theorem dL_step_297 : decode cL_step 297 = .ok (.goto 4, 3) := by decide +kernel
theorem dL_step_300 : decode cL_step 300 = .ok (.iconst 0, 1) := by decide +kernel
theorem dL_step_301 : decode cL_step 301 = .ok (.istore 8, 2) := by decide +kernel
theorem dL_step_303 : decode cL_step 303 = .ok (.iload 8, 2) := by decide +kernel
theorem dL_step_305 : decode cL_step 305 = .ok (.ifCond .eq 44, 3) := by decide +kernel
theorem dL_step_308 : decode cL_step 308 = .ok (.iload_n 1, 1) := by decide +kernel
theorem dL_step_309 : decode cL_step 309 = .ok (.bipush 16, 2) := by decide +kernel
theorem dL_step_311 : decode cL_step 311 = .ok (.if_icmp .ne 34, 3) := by decide +kernel
theorem dL_step_314 : decode cL_step 314 = .ok (.aload_n 0, 1) := by decide +kernel
theorem dL_step_315 : decode cL_step 315 = .ok (.iload 12, 2) := by decide +kernel
theorem dL_step_317 : decode cL_step 317 = .ok (.iconst 5, 1) := by decide +kernel
theorem dL_step_318 : decode cL_step 318 = .ok (.invokevirtual 33, 3) := by decide +kernel
theorem dL_step_321 : decode cL_step 321 = .ok (.iconst 2, 1) := by decide +kernel
theorem dL_step_322 : decode cL_step 322 = .ok (.iand, 1) := by decide +kernel
theorem dL_step_323 : decode cL_step 323 = .ok (.ifCond .eq 22, 3) := by decide +kernel
theorem dL_step_326 : decode cL_step 326 = .ok (.aload_n 0, 1) := by decide +kernel
theorem dL_step_327 : decode cL_step 327 = .ok (.iload 12, 2) := by decide +kernel
theorem dL_step_329 : decode cL_step 329 = .ok (.iconst 1, 1) := by decide +kernel
theorem dL_step_330 : decode cL_step 330 = .ok (.invokevirtual 33, 3) := by decide +kernel
theorem dL_step_333 : decode cL_step 333 = .ok (.aload_n 0, 1) := by decide +kernel
theorem dL_step_334 : decode cL_step 334 = .ok (.iload 12, 2) := by decide +kernel
theorem dL_step_336 : decode cL_step 336 = .ok (.iconst 0, 1) := by decide +kernel
theorem dL_step_337 : decode cL_step 337 = .ok (.invokevirtual 33, 3) := by decide +kernel
theorem dL_step_340 : decode cL_step 340 = .ok (.iconst 1, 1) := by decide +kernel
theorem dL_step_341 : decode cL_step 341 = .ok (.iadd, 1) := by decide +kernel
theorem dL_step_342 : decode cL_step 342 = .ok (.if_icmp .ne 7, 3) := by decide +kernel
theorem dL_step_345 : decode cL_step 345 = .ok (.iconst 1, 1) := by decide +kernel
theorem dL_step_346 : decode cL_step 346 = .ok (.goto 4, 3) := by decide +kernel
theorem dL_step_349 : decode cL_step 349 = .ok (.iconst 0, 1) := by decide +kernel
theorem dL_step_350 : decode cL_step 350 = .ok (.istore 8, 2) := by decide +kernel
theorem dL_step_352 : decode cL_step 352 = .ok (.iinc 12 1, 3) := by decide +kernel
theorem dL_step_355 : decode cL_step 355 = .ok (.goto (-156), 3) := by decide +kernel
theorem dL_step_358 : decode cL_step 358 = .ok (.iload 8, 2) := by decide +kernel
theorem dL_step_360 : decode cL_step 360 = .ok (.ifCond .eq 47, 3) := by decide +kernel
theorem dL_step_363 : decode cL_step 363 = .ok (.aload_n 0, 1) := by decide +kernel
theorem dL_step_364 : decode cL_step 364 = .ok (.bipush 8, 2) := by decide +kernel
theorem dL_step_366 : decode cL_step 366 = .ok (.invokevirtual 47, 3) := by decide +kernel
theorem dL_step_369 : decode cL_step 369 = .ok (.iload_n 2, 1) := by decide +kernel
theorem dL_step_370 : decode cL_step 370 = .ok (.if_icmp .ne 37, 3) := by decide +kernel
theorem dL_step_373 : decode cL_step 373 = .ok (.iload 10, 2) := by decide +kernel
theorem dL_step_375 : decode cL_step 375 = .ok (.iload_n 3, 1) := by decide +kernel
theorem dL_step_376 : decode cL_step 376 = .ok (.if_icmp .ne 31, 3) := by decide +kernel
theorem dL_step_379 : decode cL_step 379 = .ok (.iload 11, 2) := by decide +kernel
theorem dL_step_381 : decode cL_step 381 = .ok (.iload 5, 2) := by decide +kernel
theorem dL_step_383 : decode cL_step 383 = .ok (.if_icmp .ne 24, 3) := by decide +kernel
theorem dL_step_386 : decode cL_step 386 = .ok (.aload_n 0, 1) := by decide +kernel
theorem dL_step_387 : decode cL_step 387 = .ok (.iconst 0, 1) := by decide +kernel
theorem dL_step_388 : decode cL_step 388 = .ok (.invokevirtual 75, 3) := by decide +kernel
theorem dL_step_391 : decode cL_step 391 = .ok (.iload 4, 2) := by decide +kernel
theorem dL_step_393 : decode cL_step 393 = .ok (.if_icmp .ne 14, 3) := by decide +kernel
theorem dL_step_396 : decode cL_step 396 = .ok (.aload_n 0, 1) := by decide +kernel
theorem dL_step_397 : decode cL_step 397 = .ok (.invokestatic 97, 3) := by decide +kernel
theorem dL_step_400 : decode cL_step 400 = .ok (.ifCond .eq 7, 3) := by decide +kernel
theorem dL_step_403 : decode cL_step 403 = .ok (.iconst 1, 1) := by decide +kernel
theorem dL_step_404 : decode cL_step 404 = .ok (.goto 4, 3) := by decide +kernel
theorem dL_step_407 : decode cL_step 407 = .ok (.iconst 0, 1) := by decide +kernel
theorem dL_step_408 : decode cL_step 408 = .ok (.ireturn, 1) := by decide +kernel
theorem dL_law_0 : decode cL_law 0 = .ok (.new 16, 3) := by decide +kernel
theorem dL_law_3 : decode cL_law 3 = .ok (.dup, 1) := by decide +kernel
theorem dL_law_4 : decode cL_law 4 = .ok (.invokespecial 100, 3) := by decide +kernel
theorem dL_law_7 : decode cL_law 7 = .ok (.astore_n 1, 1) := by decide +kernel
theorem dL_law_8 : decode cL_law 8 = .ok (.aload_n 1, 1) := by decide +kernel
theorem dL_law_9 : decode cL_law 9 = .ok (.aload_n 0, 1) := by decide +kernel
theorem dL_law_10 : decode cL_law 10 = .ok (.invokestatic 101, 3) := by decide +kernel
theorem dL_law_13 : decode cL_law 13 = .ok (.ifCond .eq 18, 3) := by decide +kernel
theorem dL_law_16 : decode cL_law 16 = .ok (.aload_n 1, 1) := by decide +kernel
theorem dL_law_17 : decode cL_law 17 = .ok (.aload_n 0, 1) := by decide +kernel
theorem dL_law_18 : decode cL_law 18 = .ok (.invokestatic 105, 3) := by decide +kernel
theorem dL_law_21 : decode cL_law 21 = .ok (.ifCond .eq 10, 3) := by decide +kernel
theorem dL_law_24 : decode cL_law 24 = .ok (.aload_n 1, 1) := by decide +kernel
theorem dL_law_25 : decode cL_law 25 = .ok (.invokestatic 97, 3) := by decide +kernel
theorem dL_law_28 : decode cL_law 28 = .ok (.ifCond .ne 5, 3) := by decide +kernel
theorem dL_law_31 : decode cL_law 31 = .ok (.iconst 0, 1) := by decide +kernel
theorem dL_law_32 : decode cL_law 32 = .ok (.ireturn, 1) := by decide +kernel
theorem dL_law_33 : decode cL_law 33 = .ok (.iconst 1, 1) := by decide +kernel
theorem dL_law_34 : decode cL_law 34 = .ok (.aload_n 0, 1) := by decide +kernel
theorem dL_law_35 : decode cL_law 35 = .ok (.bipush 56, 2) := by decide +kernel
theorem dL_law_37 : decode cL_law 37 = .ok (.invokestatic 9, 3) := by decide +kernel
theorem dL_law_40 : decode cL_law 40 = .ok (.bipush 31, 2) := by decide +kernel
theorem dL_law_42 : decode cL_law 42 = .ok (.irem, 1) := by decide +kernel
theorem dL_law_43 : decode cL_law 43 = .ok (.iadd, 1) := by decide +kernel
theorem dL_law_44 : decode cL_law 44 = .ok (.istore_n 2, 1) := by decide +kernel
theorem dL_law_45 : decode cL_law 45 = .ok (.aload_n 1, 1) := by decide +kernel
theorem dL_law_46 : decode cL_law 46 = .ok (.iload_n 2, 1) := by decide +kernel
theorem dL_law_47 : decode cL_law 47 = .ok (.iconst 1, 1) := by decide +kernel
theorem dL_law_48 : decode cL_law 48 = .ok (.invokevirtual 88, 3) := by decide +kernel
theorem dL_law_51 : decode cL_law 51 = .ok (.istore_n 3, 1) := by decide +kernel
theorem dL_law_52 : decode cL_law 52 = .ok (.iconst 1, 1) := by decide +kernel
theorem dL_law_53 : decode cL_law 53 = .ok (.istore 4, 2) := by decide +kernel
theorem dL_law_55 : decode cL_law 55 = .ok (.iconst 0, 1) := by decide +kernel
theorem dL_law_56 : decode cL_law 56 = .ok (.istore 5, 2) := by decide +kernel
theorem dL_law_58 : decode cL_law 58 = .ok (.iconst 0, 1) := by decide +kernel
theorem dL_law_59 : decode cL_law 59 = .ok (.istore 6, 2) := by decide +kernel
theorem dL_law_61 : decode cL_law 61 = .ok (.iconst 0, 1) := by decide +kernel
theorem dL_law_62 : decode cL_law 62 = .ok (.istore 7, 2) := by decide +kernel
theorem dL_law_64 : decode cL_law 64 = .ok (.iload 7, 2) := by decide +kernel
theorem dL_law_66 : decode cL_law 66 = .ok (.iconst 5, 1) := by decide +kernel
theorem dL_law_67 : decode cL_law 67 = .ok (.if_icmp .ge 73, 3) := by decide +kernel
theorem dL_law_70 : decode cL_law 70 = .ok (.iload 4, 2) := by decide +kernel
theorem dL_law_72 : decode cL_law 72 = .ok (.ifCond .eq 68, 3) := by decide +kernel
theorem dL_law_75 : decode cL_law 75 = .ok (.iload 6, 2) := by decide +kernel
theorem dL_law_77 : decode cL_law 77 = .ok (.ifCond .ne 63, 3) := by decide +kernel
theorem dL_law_80 : decode cL_law 80 = .ok (.iload_n 2, 1) := by decide +kernel
theorem dL_law_81 : decode cL_law 81 = .ok (.iload 7, 2) := by decide +kernel
theorem dL_law_83 : decode cL_law 83 = .ok (.ishr, 1) := by decide +kernel
theorem dL_law_84 : decode cL_law 84 = .ok (.iconst 1, 1) := by decide +kernel
theorem dL_law_85 : decode cL_law 85 = .ok (.iand, 1) := by decide +kernel
theorem dL_law_86 : decode cL_law 86 = .ok (.iconst 1, 1) := by decide +kernel
theorem dL_law_87 : decode cL_law 87 = .ok (.if_icmp .ne 47, 3) := by decide +kernel
theorem dL_law_90 : decode cL_law 90 = .ok (.aload_n 1, 1) := by decide +kernel
theorem dL_law_91 : decode cL_law 91 = .ok (.iconst 1, 1) := by decide +kernel
theorem dL_law_92 : decode cL_law 92 = .ok (.iload 7, 2) := by decide +kernel
theorem dL_law_94 : decode cL_law 94 = .ok (.ishl, 1) := by decide +kernel
theorem dL_law_95 : decode cL_law 95 = .ok (.iconst 0, 1) := by decide +kernel
theorem dL_law_96 : decode cL_law 96 = .ok (.invokevirtual 88, 3) := by decide +kernel
theorem dL_law_99 : decode cL_law 99 = .ok (.ifCond .ge 7, 3) := by decide +kernel
theorem dL_law_102 : decode cL_law 102 = .ok (.iconst 1, 1) := by decide +kernel
theorem dL_law_103 : decode cL_law 103 = .ok (.goto 4, 3) := by decide +kernel
theorem dL_law_106 : decode cL_law 106 = .ok (.iconst 0, 1) := by decide +kernel
theorem dL_law_107 : decode cL_law 107 = .ok (.istore 6, 2) := by decide +kernel
theorem dL_law_109 : decode cL_law 109 = .ok (.aload_n 1, 1) := by decide +kernel
theorem dL_law_110 : decode cL_law 110 = .ok (.iconst 1, 1) := by decide +kernel
theorem dL_law_111 : decode cL_law 111 = .ok (.iload 7, 2) := by decide +kernel
theorem dL_law_113 : decode cL_law 113 = .ok (.ishl, 1) := by decide +kernel
theorem dL_law_114 : decode cL_law 114 = .ok (.invokestatic 108, 3) := by decide +kernel
theorem dL_law_117 : decode cL_law 117 = .ok (.istore 4, 2) := by decide +kernel
theorem dL_law_119 : decode cL_law 119 = .ok (.iload 5, 2) := by decide +kernel
theorem dL_law_121 : decode cL_law 121 = .ok (.iload 6, 2) := by decide +kernel
theorem dL_law_123 : decode cL_law 123 = .ok (.ifCond .eq 7, 3) := by decide +kernel
theorem dL_law_126 : decode cL_law 126 = .ok (.iconst 0, 1) := by decide +kernel
theorem dL_law_127 : decode cL_law 127 = .ok (.goto 4, 3) := by decide +kernel
theorem dL_law_130 : decode cL_law 130 = .ok (.iconst 1, 1) := by decide +kernel
theorem dL_law_131 : decode cL_law 131 = .ok (.iadd, 1) := by decide +kernel
theorem dL_law_132 : decode cL_law 132 = .ok (.istore 5, 2) := by decide +kernel
theorem dL_law_134 : decode cL_law 134 = .ok (.iinc 7 1, 3) := by decide +kernel
theorem dL_law_137 : decode cL_law 137 = .ok (.goto (-73), 3) := by decide +kernel
theorem dL_law_140 : decode cL_law 140 = .ok (.iconst 0, 1) := by decide +kernel
theorem dL_law_141 : decode cL_law 141 = .ok (.istore 7, 2) := by decide +kernel
theorem dL_law_143 : decode cL_law 143 = .ok (.iconst 0, 1) := by decide +kernel
theorem dL_law_144 : decode cL_law 144 = .ok (.istore 8, 2) := by decide +kernel
theorem dL_law_146 : decode cL_law 146 = .ok (.iload 8, 2) := by decide +kernel
theorem dL_law_148 : decode cL_law 148 = .ok (.aload_n 1, 1) := by decide +kernel
theorem dL_law_149 : decode cL_law 149 = .ok (.bipush 8, 2) := by decide +kernel
theorem dL_law_151 : decode cL_law 151 = .ok (.invokevirtual 47, 3) := by decide +kernel
theorem dL_law_154 : decode cL_law 154 = .ok (.if_icmp .ge 29, 3) := by decide +kernel
theorem dL_law_157 : decode cL_law 157 = .ok (.iload 7, 2) := by decide +kernel
theorem dL_law_159 : decode cL_law 159 = .ok (.aload_n 1, 1) := by decide +kernel
theorem dL_law_160 : decode cL_law 160 = .ok (.iload 8, 2) := by decide +kernel
theorem dL_law_162 : decode cL_law 162 = .ok (.iconst 1, 1) := by decide +kernel
theorem dL_law_163 : decode cL_law 163 = .ok (.invokevirtual 33, 3) := by decide +kernel
theorem dL_law_166 : decode cL_law 166 = .ok (.aload_n 1, 1) := by decide +kernel
theorem dL_law_167 : decode cL_law 167 = .ok (.iload 8, 2) := by decide +kernel
theorem dL_law_169 : decode cL_law 169 = .ok (.iconst 0, 1) := by decide +kernel
theorem dL_law_170 : decode cL_law 170 = .ok (.invokevirtual 33, 3) := by decide +kernel
theorem dL_law_173 : decode cL_law 173 = .ok (.isub, 1) := by decide +kernel
theorem dL_law_174 : decode cL_law 174 = .ok (.iadd, 1) := by decide +kernel
theorem dL_law_175 : decode cL_law 175 = .ok (.istore 7, 2) := by decide +kernel
theorem dL_law_177 : decode cL_law 177 = .ok (.iinc 8 1, 3) := by decide +kernel
theorem dL_law_180 : decode cL_law 180 = .ok (.goto (-34), 3) := by decide +kernel
theorem dL_law_183 : decode cL_law 183 = .ok (.iload 4, 2) := by decide +kernel
theorem dL_law_185 : decode cL_law 185 = .ok (.ifCond .eq 27, 3) := by decide +kernel
theorem dL_law_188 : decode cL_law 188 = .ok (.iload 6, 2) := by decide +kernel
theorem dL_law_190 : decode cL_law 190 = .ok (.ifCond .eq 12, 3) := by decide +kernel
theorem dL_law_193 : decode cL_law 193 = .ok (.iload_n 3, 1) := by decide +kernel
theorem dL_law_194 : decode cL_law 194 = .ok (.bipush (-3), 2) := by decide +kernel
theorem dL_law_196 : decode cL_law 196 = .ok (.if_icmp .ne 16, 3) := by decide +kernel
theorem dL_law_199 : decode cL_law 199 = .ok (.goto 9, 3) := by decide +kernel
theorem dL_law_202 : decode cL_law 202 = .ok (.iload 7, 2) := by decide +kernel
theorem dL_law_204 : decode cL_law 204 = .ok (.iload_n 3, 1) := by decide +kernel
theorem dL_law_205 : decode cL_law 205 = .ok (.if_icmp .ne 7, 3) := by decide +kernel
theorem dL_law_208 : decode cL_law 208 = .ok (.iconst 1, 1) := by decide +kernel
theorem dL_law_209 : decode cL_law 209 = .ok (.goto 4, 3) := by decide +kernel
theorem dL_law_212 : decode cL_law 212 = .ok (.iconst 0, 1) := by decide +kernel
theorem dL_law_213 : decode cL_law 213 = .ok (.istore 4, 2) := by decide +kernel
theorem dL_law_215 : decode cL_law 215 = .ok (.iconst 0, 1) := by decide +kernel
theorem dL_law_216 : decode cL_law 216 = .ok (.istore 8, 2) := by decide +kernel
theorem dL_law_218 : decode cL_law 218 = .ok (.iload 8, 2) := by decide +kernel
theorem dL_law_220 : decode cL_law 220 = .ok (.iload 5, 2) := by decide +kernel
theorem dL_law_222 : decode cL_law 222 = .ok (.if_icmp .ge 28, 3) := by decide +kernel
theorem dL_law_225 : decode cL_law 225 = .ok (.iload 4, 2) := by decide +kernel
theorem dL_law_227 : decode cL_law 227 = .ok (.ifCond .eq 14, 3) := by decide +kernel
theorem dL_law_230 : decode cL_law 230 = .ok (.aload_n 1, 1) := by decide +kernel
theorem dL_law_231 : decode cL_law 231 = .ok (.invokevirtual 111, 3) := by decide +kernel
theorem dL_law_234 : decode cL_law 234 = .ok (.ifCond .lt 7, 3) := by decide +kernel
theorem dL_law_237 : decode cL_law 237 = .ok (.iconst 1, 1) := by decide +kernel
theorem dL_law_238 : decode cL_law 238 = .ok (.goto 4, 3) := by decide +kernel
theorem dL_law_241 : decode cL_law 241 = .ok (.iconst 0, 1) := by decide +kernel
theorem dL_law_242 : decode cL_law 242 = .ok (.istore 4, 2) := by decide +kernel
theorem dL_law_244 : decode cL_law 244 = .ok (.iinc 8 1, 3) := by decide +kernel
theorem dL_law_247 : decode cL_law 247 = .ok (.goto (-29), 3) := by decide +kernel
theorem dL_law_250 : decode cL_law 250 = .ok (.iload 4, 2) := by decide +kernel
theorem dL_law_252 : decode cL_law 252 = .ok (.ifCond .eq 38, 3) := by decide +kernel
theorem dL_law_255 : decode cL_law 255 = .ok (.aload_n 1, 1) := by decide +kernel
theorem dL_law_256 : decode cL_law 256 = .ok (.bipush 8, 2) := by decide +kernel
theorem dL_law_258 : decode cL_law 258 = .ok (.invokevirtual 47, 3) := by decide +kernel
theorem dL_law_261 : decode cL_law 261 = .ok (.iconst 1, 1) := by decide +kernel
theorem dL_law_262 : decode cL_law 262 = .ok (.aload_n 0, 1) := by decide +kernel
theorem dL_law_263 : decode cL_law 263 = .ok (.bipush 22, 2) := by decide +kernel
theorem dL_law_265 : decode cL_law 265 = .ok (.invokestatic 9, 3) := by decide +kernel
theorem dL_law_268 : decode cL_law 268 = .ok (.bipush 6, 2) := by decide +kernel
theorem dL_law_270 : decode cL_law 270 = .ok (.irem, 1) := by decide +kernel
theorem dL_law_271 : decode cL_law 271 = .ok (.iadd, 1) := by decide +kernel
theorem dL_law_272 : decode cL_law 272 = .ok (.if_icmp .ne 18, 3) := by decide +kernel
theorem dL_law_275 : decode cL_law 275 = .ok (.aload_n 1, 1) := by decide +kernel
theorem dL_law_276 : decode cL_law 276 = .ok (.sipush 10000, 3) := by decide +kernel
theorem dL_law_279 : decode cL_law 279 = .ok (.invokevirtual 114, 3) := by decide +kernel
theorem dL_law_282 : decode cL_law 282 = .ok (.iconst (-1), 1) := by decide +kernel
theorem dL_law_283 : decode cL_law 283 = .ok (.if_icmp .ne 7, 3) := by decide +kernel
theorem dL_law_286 : decode cL_law 286 = .ok (.iconst 1, 1) := by decide +kernel
theorem dL_law_287 : decode cL_law 287 = .ok (.goto 4, 3) := by decide +kernel
theorem dL_law_290 : decode cL_law 290 = .ok (.iconst 0, 1) := by decide +kernel
theorem dL_law_291 : decode cL_law 291 = .ok (.ireturn, 1) := by decide +kernel
