theorem dX0_init_0 : decode cX0_init 0 = .ok (.aload_n 0, 1) := by decide +kernel
theorem dX0_init_1 : decode cX0_init 1 = .ok (.invokespecial 3, 3) := by decide +kernel
theorem dX0_init_4 : decode cX0_init 4 = .ok (.aload_n 0, 1) := by decide +kernel
theorem dX0_init_5 : decode cX0_init 5 = .ok (.bipush 10, 2) := by decide +kernel
theorem dX0_init_7 : decode cX0_init 7 = .ok (.newarray .int, 2) := by decide +kernel
theorem dX0_init_9 : decode cX0_init 9 = .ok (.putfield 9, 3) := by decide +kernel
theorem dX0_init_12 : decode cX0_init 12 = .ok (.aload_n 0, 1) := by decide +kernel
theorem dX0_init_13 : decode cX0_init 13 = .ok (.bipush 10, 2) := by decide +kernel
theorem dX0_init_15 : decode cX0_init 15 = .ok (.newarray .int, 2) := by decide +kernel
theorem dX0_init_17 : decode cX0_init 17 = .ok (.putfield 15, 3) := by decide +kernel
theorem dX0_init_20 : decode cX0_init 20 = .ok (.return_, 1) := by decide +kernel
theorem dX0_become_0 : decode cX0_become 0 = .ok (.aload_n 0, 1) := by decide +kernel
theorem dX0_become_1 : decode cX0_become 1 = .ok (.aload_n 1, 1) := by decide +kernel
theorem dX0_become_2 : decode cX0_become 2 = .ok (.getfield 18, 3) := by decide +kernel
theorem dX0_become_5 : decode cX0_become 5 = .ok (.putfield 18, 3) := by decide +kernel
theorem dX0_become_8 : decode cX0_become 8 = .ok (.aload_n 1, 1) := by decide +kernel
theorem dX0_become_9 : decode cX0_become 9 = .ok (.getfield 9, 3) := by decide +kernel
theorem dX0_become_12 : decode cX0_become 12 = .ok (.iconst 0, 1) := by decide +kernel
theorem dX0_become_13 : decode cX0_become 13 = .ok (.aload_n 0, 1) := by decide +kernel
theorem dX0_become_14 : decode cX0_become 14 = .ok (.getfield 9, 3) := by decide +kernel
theorem dX0_become_17 : decode cX0_become 17 = .ok (.iconst 0, 1) := by decide +kernel
theorem dX0_become_18 : decode cX0_become 18 = .ok (.bipush 10, 2) := by decide +kernel
theorem dX0_become_20 : decode cX0_become 20 = .ok (.invokestatic 22, 3) := by decide +kernel
theorem dX0_become_23 : decode cX0_become 23 = .ok (.aload_n 1, 1) := by decide +kernel
theorem dX0_become_24 : decode cX0_become 24 = .ok (.getfield 15, 3) := by decide +kernel
theorem dX0_become_27 : decode cX0_become 27 = .ok (.iconst 0, 1) := by decide +kernel
theorem dX0_become_28 : decode cX0_become 28 = .ok (.aload_n 0, 1) := by decide +kernel
theorem dX0_become_29 : decode cX0_become 29 = .ok (.getfield 15, 3) := by decide +kernel
theorem dX0_become_32 : decode cX0_become 32 = .ok (.iconst 0, 1) := by decide +kernel
theorem dX0_become_33 : decode cX0_become 33 = .ok (.bipush 10, 2) := by decide +kernel
theorem dX0_become_35 : decode cX0_become 35 = .ok (.invokestatic 22, 3) := by decide +kernel
theorem dX0_become_38 : decode cX0_become 38 = .ok (.return_, 1) := by decide +kernel
theorem dX0_size_0 : decode cX0_size 0 = .ok (.aload_n 0, 1) := by decide +kernel
theorem dX0_size_1 : decode cX0_size 1 = .ok (.getfield 18, 3) := by decide +kernel
theorem dX0_size_4 : decode cX0_size 4 = .ok (.ireturn, 1) := by decide +kernel
theorem dX0_has_0 : decode cX0_has 0 = .ok (.iload_n 1, 1) := by decide +kernel
theorem dX0_has_1 : decode cX0_has 1 = .ok (.ifCond .lt 15, 3) := by decide +kernel
theorem dX0_has_4 : decode cX0_has 4 = .ok (.iload_n 1, 1) := by decide +kernel
theorem dX0_has_5 : decode cX0_has 5 = .ok (.aload_n 0, 1) := by decide +kernel
theorem dX0_has_6 : decode cX0_has 6 = .ok (.getfield 18, 3) := by decide +kernel
theorem dX0_has_9 : decode cX0_has 9 = .ok (.if_icmp .ge 7, 3) := by decide +kernel
theorem dX0_has_12 : decode cX0_has 12 = .ok (.iconst 1, 1) := by decide +kernel
theorem dX0_has_13 : decode cX0_has 13 = .ok (.goto 4, 3) := by decide +kernel
theorem dX0_has_16 : decode cX0_has 16 = .ok (.iconst 0, 1) := by decide +kernel
theorem dX0_has_17 : decode cX0_has 17 = .ok (.ireturn, 1) := by decide +kernel
theorem dX0_firstOf_0 : decode cX0_firstOf 0 = .ok (.aload_n 0, 1) := by decide +kernel
theorem dX0_firstOf_1 : decode cX0_firstOf 1 = .ok (.iload_n 1, 1) := by decide +kernel
theorem dX0_firstOf_2 : decode cX0_firstOf 2 = .ok (.invokevirtual 28, 3) := by decide +kernel
theorem dX0_firstOf_5 : decode cX0_firstOf 5 = .ok (.ifCond .eq 12, 3) := by decide +kernel
theorem dX0_firstOf_8 : decode cX0_firstOf 8 = .ok (.aload_n 0, 1) := by decide +kernel
theorem dX0_firstOf_9 : decode cX0_firstOf 9 = .ok (.getfield 9, 3) := by decide +kernel
theorem dX0_firstOf_12 : decode cX0_firstOf 12 = .ok (.iload_n 1, 1) := by decide +kernel
theorem dX0_firstOf_13 : decode cX0_firstOf 13 = .ok (.iaload, 1) := by decide +kernel
theorem dX0_firstOf_14 : decode cX0_firstOf 14 = .ok (.goto 4, 3) := by decide +kernel
theorem dX0_firstOf_17 : decode cX0_firstOf 17 = .ok (.iconst 0, 1) := by decide +kernel
theorem dX0_firstOf_18 : decode cX0_firstOf 18 = .ok (.ireturn, 1) := by decide +kernel
theorem dX0_lengthOf_0 : decode cX0_lengthOf 0 = .ok (.aload_n 0, 1) := by decide +kernel
theorem dX0_lengthOf_1 : decode cX0_lengthOf 1 = .ok (.iload_n 1, 1) := by decide +kernel
theorem dX0_lengthOf_2 : decode cX0_lengthOf 2 = .ok (.invokevirtual 28, 3) := by decide +kernel
theorem dX0_lengthOf_5 : decode cX0_lengthOf 5 = .ok (.ifCond .eq 12, 3) := by decide +kernel
theorem dX0_lengthOf_8 : decode cX0_lengthOf 8 = .ok (.aload_n 0, 1) := by decide +kernel
theorem dX0_lengthOf_9 : decode cX0_lengthOf 9 = .ok (.getfield 15, 3) := by decide +kernel
theorem dX0_lengthOf_12 : decode cX0_lengthOf 12 = .ok (.iload_n 1, 1) := by decide +kernel
theorem dX0_lengthOf_13 : decode cX0_lengthOf 13 = .ok (.iaload, 1) := by decide +kernel
theorem dX0_lengthOf_14 : decode cX0_lengthOf 14 = .ok (.goto 4, 3) := by decide +kernel
theorem dX0_lengthOf_17 : decode cX0_lengthOf 17 = .ok (.iconst 0, 1) := by decide +kernel
theorem dX0_lengthOf_18 : decode cX0_lengthOf 18 = .ok (.ireturn, 1) := by decide +kernel
theorem dX0_startOf_0 : decode cX0_startOf 0 = .ok (.iconst 0, 1) := by decide +kernel
theorem dX0_startOf_1 : decode cX0_startOf 1 = .ok (.istore_n 2, 1) := by decide +kernel
theorem dX0_startOf_2 : decode cX0_startOf 2 = .ok (.iconst 0, 1) := by decide +kernel
theorem dX0_startOf_3 : decode cX0_startOf 3 = .ok (.istore_n 3, 1) := by decide +kernel
theorem dX0_startOf_4 : decode cX0_startOf 4 = .ok (.iload_n 3, 1) := by decide +kernel
theorem dX0_startOf_5 : decode cX0_startOf 5 = .ok (.iload_n 1, 1) := by decide +kernel
theorem dX0_startOf_6 : decode cX0_startOf 6 = .ok (.if_icmp .ge 26, 3) := by decide +kernel
theorem dX0_startOf_9 : decode cX0_startOf 9 = .ok (.iload_n 3, 1) := by decide +kernel
theorem dX0_startOf_10 : decode cX0_startOf 10 = .ok (.aload_n 0, 1) := by decide +kernel
theorem dX0_startOf_11 : decode cX0_startOf 11 = .ok (.getfield 18, 3) := by decide +kernel
theorem dX0_startOf_14 : decode cX0_startOf 14 = .ok (.if_icmp .ge 18, 3) := by decide +kernel
theorem dX0_startOf_17 : decode cX0_startOf 17 = .ok (.iload_n 2, 1) := by decide +kernel
theorem dX0_startOf_18 : decode cX0_startOf 18 = .ok (.aload_n 0, 1) := by decide +kernel
theorem dX0_startOf_19 : decode cX0_startOf 19 = .ok (.getfield 15, 3) := by decide +kernel
theorem dX0_startOf_22 : decode cX0_startOf 22 = .ok (.iload_n 3, 1) := by decide +kernel
theorem dX0_startOf_23 : decode cX0_startOf 23 = .ok (.iaload, 1) := by decide +kernel
theorem dX0_startOf_24 : decode cX0_startOf 24 = .ok (.iadd, 1) := by decide +kernel
theorem dX0_startOf_25 : decode cX0_startOf 25 = .ok (.istore_n 2, 1) := by decide +kernel
theorem dX0_startOf_26 : decode cX0_startOf 26 = .ok (.iinc 3 1, 3) := by decide +kernel
theorem dX0_startOf_29 : decode cX0_startOf 29 = .ok (.goto (-25), 3) := by decide +kernel
theorem dX0_startOf_32 : decode cX0_startOf 32 = .ok (.iload_n 2, 1) := by decide +kernel
theorem dX0_startOf_33 : decode cX0_startOf 33 = .ok (.ireturn, 1) := by decide +kernel
theorem dX0_frames_0 : decode cX0_frames 0 = .ok (.aload_n 0, 1) := by decide +kernel
theorem dX0_frames_1 : decode cX0_frames 1 = .ok (.aload_n 0, 1) := by decide +kernel
theorem dX0_frames_2 : decode cX0_frames 2 = .ok (.getfield 18, 3) := by decide +kernel
theorem dX0_frames_5 : decode cX0_frames 5 = .ok (.invokevirtual 32, 3) := by decide +kernel
theorem dX0_frames_8 : decode cX0_frames 8 = .ok (.ireturn, 1) := by decide +kernel
theorem dX0_append_0 : decode cX0_append 0 = .ok (.aload_n 0, 1) := by decide +kernel
theorem dX0_append_1 : decode cX0_append 1 = .ok (.getfield 18, 3) := by decide +kernel
theorem dX0_append_4 : decode cX0_append 4 = .ok (.bipush 10, 2) := by decide +kernel
theorem dX0_append_6 : decode cX0_append 6 = .ok (.if_icmp .lt 4, 3) := by decide +kernel
theorem dX0_append_9 : decode cX0_append 9 = .ok (.return_, 1) := by decide +kernel
theorem dX0_append_10 : decode cX0_append 10 = .ok (.aload_n 0, 1) := by decide +kernel
theorem dX0_append_11 : decode cX0_append 11 = .ok (.getfield 9, 3) := by decide +kernel
theorem dX0_append_14 : decode cX0_append 14 = .ok (.aload_n 0, 1) := by decide +kernel
theorem dX0_append_15 : decode cX0_append 15 = .ok (.getfield 18, 3) := by decide +kernel
theorem dX0_append_18 : decode cX0_append 18 = .ok (.iload_n 1, 1) := by decide +kernel
theorem dX0_append_19 : decode cX0_append 19 = .ok (.iastore, 1) := by decide +kernel
theorem dX0_append_20 : decode cX0_append 20 = .ok (.aload_n 0, 1) := by decide +kernel
theorem dX0_append_21 : decode cX0_append 21 = .ok (.getfield 15, 3) := by decide +kernel
theorem dX0_append_24 : decode cX0_append 24 = .ok (.aload_n 0, 1) := by decide +kernel
theorem dX0_append_25 : decode cX0_append 25 = .ok (.getfield 18, 3) := by decide +kernel
theorem dX0_append_28 : decode cX0_append 28 = .ok (.iload_n 2, 1) := by decide +kernel
theorem dX0_append_29 : decode cX0_append 29 = .ok (.iastore, 1) := by decide +kernel
theorem dX0_append_30 : decode cX0_append 30 = .ok (.aload_n 0, 1) := by decide +kernel
theorem dX0_append_31 : decode cX0_append 31 = .ok (.dup, 1) := by decide +kernel
theorem dX0_append_32 : decode cX0_append 32 = .ok (.getfield 18, 3) := by decide +kernel
theorem dX0_append_35 : decode cX0_append 35 = .ok (.iconst 1, 1) := by decide +kernel
theorem dX0_append_36 : decode cX0_append 36 = .ok (.iadd, 1) := by decide +kernel
theorem dX0_append_37 : decode cX0_append 37 = .ok (.putfield 18, 3) := by decide +kernel
theorem dX0_append_40 : decode cX0_append 40 = .ok (.return_, 1) := by decide +kernel
theorem dX0_remove_0 : decode cX0_remove 0 = .ok (.aload_n 0, 1) := by decide +kernel
theorem dX0_remove_1 : decode cX0_remove 1 = .ok (.iload_n 1, 1) := by decide +kernel
theorem dX0_remove_2 : decode cX0_remove 2 = .ok (.invokevirtual 28, 3) := by decide +kernel
theorem dX0_remove_5 : decode cX0_remove 5 = .ok (.ifCond .ne 4, 3) := by decide +kernel
theorem dX0_remove_8 : decode cX0_remove 8 = .ok (.return_, 1) := by decide +kernel
theorem dX0_remove_9 : decode cX0_remove 9 = .ok (.iload_n 1, 1) := by decide +kernel
theorem dX0_remove_10 : decode cX0_remove 10 = .ok (.istore_n 2, 1) := by decide +kernel
theorem dX0_remove_11 : decode cX0_remove 11 = .ok (.iload_n 2, 1) := by decide +kernel
theorem dX0_remove_12 : decode cX0_remove 12 = .ok (.iconst 1, 1) := by decide +kernel
theorem dX0_remove_13 : decode cX0_remove 13 = .ok (.iadd, 1) := by decide +kernel
theorem dX0_remove_14 : decode cX0_remove 14 = .ok (.aload_n 0, 1) := by decide +kernel
theorem dX0_remove_15 : decode cX0_remove 15 = .ok (.getfield 18, 3) := by decide +kernel
theorem dX0_remove_18 : decode cX0_remove 18 = .ok (.if_icmp .ge 37, 3) := by decide +kernel
theorem dX0_remove_21 : decode cX0_remove 21 = .ok (.aload_n 0, 1) := by decide +kernel
theorem dX0_remove_22 : decode cX0_remove 22 = .ok (.getfield 9, 3) := by decide +kernel
theorem dX0_remove_25 : decode cX0_remove 25 = .ok (.iload_n 2, 1) := by decide +kernel
theorem dX0_remove_26 : decode cX0_remove 26 = .ok (.aload_n 0, 1) := by decide +kernel
theorem dX0_remove_27 : decode cX0_remove 27 = .ok (.getfield 9, 3) := by decide +kernel
theorem dX0_remove_30 : decode cX0_remove 30 = .ok (.iload_n 2, 1) := by decide +kernel
theorem dX0_remove_31 : decode cX0_remove 31 = .ok (.iconst 1, 1) := by decide +kernel
theorem dX0_remove_32 : decode cX0_remove 32 = .ok (.iadd, 1) := by decide +kernel
theorem dX0_remove_33 : decode cX0_remove 33 = .ok (.iaload, 1) := by decide +kernel
theorem dX0_remove_34 : decode cX0_remove 34 = .ok (.iastore, 1) := by decide +kernel
theorem dX0_remove_35 : decode cX0_remove 35 = .ok (.aload_n 0, 1) := by decide +kernel
theorem dX0_remove_36 : decode cX0_remove 36 = .ok (.getfield 15, 3) := by decide +kernel
theorem dX0_remove_39 : decode cX0_remove 39 = .ok (.iload_n 2, 1) := by decide +kernel
theorem dX0_remove_40 : decode cX0_remove 40 = .ok (.aload_n 0, 1) := by decide +kernel
theorem dX0_remove_41 : decode cX0_remove 41 = .ok (.getfield 15, 3) := by decide +kernel
theorem dX0_remove_44 : decode cX0_remove 44 = .ok (.iload_n 2, 1) := by decide +kernel
theorem dX0_remove_45 : decode cX0_remove 45 = .ok (.iconst 1, 1) := by decide +kernel
theorem dX0_remove_46 : decode cX0_remove 46 = .ok (.iadd, 1) := by decide +kernel
theorem dX0_remove_47 : decode cX0_remove 47 = .ok (.iaload, 1) := by decide +kernel
theorem dX0_remove_48 : decode cX0_remove 48 = .ok (.iastore, 1) := by decide +kernel
theorem dX0_remove_49 : decode cX0_remove 49 = .ok (.iinc 2 1, 3) := by decide +kernel
theorem dX0_remove_52 : decode cX0_remove 52 = .ok (.goto (-41), 3) := by decide +kernel
theorem dX0_remove_55 : decode cX0_remove 55 = .ok (.aload_n 0, 1) := by decide +kernel
theorem dX0_remove_56 : decode cX0_remove 56 = .ok (.dup, 1) := by decide +kernel
theorem dX0_remove_57 : decode cX0_remove 57 = .ok (.getfield 18, 3) := by decide +kernel
theorem dX0_remove_60 : decode cX0_remove 60 = .ok (.iconst 1, 1) := by decide +kernel
theorem dX0_remove_61 : decode cX0_remove 61 = .ok (.isub, 1) := by decide +kernel
theorem dX0_remove_62 : decode cX0_remove 62 = .ok (.putfield 18, 3) := by decide +kernel
theorem dX0_remove_65 : decode cX0_remove 65 = .ok (.return_, 1) := by decide +kernel
theorem dX0_newFrame_0 : decode cX0_newFrame 0 = .ok (.iload_n 2, 1) := by decide +kernel
theorem dX0_newFrame_1 : decode cX0_newFrame 1 = .ok (.istore_n 3, 1) := by decide +kernel
theorem dX0_newFrame_2 : decode cX0_newFrame 2 = .ok (.iconst 0, 1) := by decide +kernel
theorem dX0_newFrame_3 : decode cX0_newFrame 3 = .ok (.istore 4, 2) := by decide +kernel
theorem dX0_newFrame_5 : decode cX0_newFrame 5 = .ok (.iconst 0, 1) := by decide +kernel
theorem dX0_newFrame_6 : decode cX0_newFrame 6 = .ok (.istore 5, 2) := by decide +kernel
theorem dX0_newFrame_8 : decode cX0_newFrame 8 = .ok (.iload 5, 2) := by decide +kernel
theorem dX0_newFrame_10 : decode cX0_newFrame 10 = .ok (.aload_n 0, 1) := by decide +kernel
theorem dX0_newFrame_11 : decode cX0_newFrame 11 = .ok (.getfield 18, 3) := by decide +kernel
theorem dX0_newFrame_14 : decode cX0_newFrame 14 = .ok (.if_icmp .ge 62, 3) := by decide +kernel
theorem dX0_newFrame_17 : decode cX0_newFrame 17 = .ok (.iload_n 1, 1) := by decide +kernel
theorem dX0_newFrame_18 : decode cX0_newFrame 18 = .ok (.aload_n 0, 1) := by decide +kernel
theorem dX0_newFrame_19 : decode cX0_newFrame 19 = .ok (.getfield 9, 3) := by decide +kernel
theorem dX0_newFrame_22 : decode cX0_newFrame 22 = .ok (.iload 5, 2) := by decide +kernel
theorem dX0_newFrame_24 : decode cX0_newFrame 24 = .ok (.iaload, 1) := by decide +kernel
theorem dX0_newFrame_25 : decode cX0_newFrame 25 = .ok (.isub, 1) := by decide +kernel
theorem dX0_newFrame_26 : decode cX0_newFrame 26 = .ok (.istore 6, 2) := by decide +kernel
theorem dX0_newFrame_28 : decode cX0_newFrame 28 = .ok (.iload 6, 2) := by decide +kernel
theorem dX0_newFrame_30 : decode cX0_newFrame 30 = .ok (.ifCond .lt 28, 3) := by decide +kernel
theorem dX0_newFrame_33 : decode cX0_newFrame 33 = .ok (.iload 6, 2) := by decide +kernel
theorem dX0_newFrame_35 : decode cX0_newFrame 35 = .ok (.aload_n 0, 1) := by decide +kernel
theorem dX0_newFrame_36 : decode cX0_newFrame 36 = .ok (.getfield 15, 3) := by decide +kernel
theorem dX0_newFrame_39 : decode cX0_newFrame 39 = .ok (.iload 5, 2) := by decide +kernel
theorem dX0_newFrame_41 : decode cX0_newFrame 41 = .ok (.iaload, 1) := by decide +kernel
theorem dX0_newFrame_42 : decode cX0_newFrame 42 = .ok (.if_icmp .ge 16, 3) := by decide +kernel
theorem dX0_newFrame_45 : decode cX0_newFrame 45 = .ok (.iload_n 3, 1) := by decide +kernel
theorem dX0_newFrame_46 : decode cX0_newFrame 46 = .ok (.ifCond .ne 9, 3) := by decide +kernel
theorem dX0_newFrame_49 : decode cX0_newFrame 49 = .ok (.iload 4, 2) := by decide +kernel
theorem dX0_newFrame_51 : decode cX0_newFrame 51 = .ok (.iload 6, 2) := by decide +kernel
theorem dX0_newFrame_53 : decode cX0_newFrame 53 = .ok (.iadd, 1) := by decide +kernel
theorem dX0_newFrame_54 : decode cX0_newFrame 54 = .ok (.ireturn, 1) := by decide +kernel
theorem dX0_newFrame_55 : decode cX0_newFrame 55 = .ok (.iinc 3 (-1), 3) := by decide +kernel
theorem dX0_newFrame_58 : decode cX0_newFrame 58 = .ok (.iload 4, 2) := by decide +kernel
theorem dX0_newFrame_60 : decode cX0_newFrame 60 = .ok (.aload_n 0, 1) := by decide +kernel
theorem dX0_newFrame_61 : decode cX0_newFrame 61 = .ok (.getfield 15, 3) := by decide +kernel
theorem dX0_newFrame_64 : decode cX0_newFrame 64 = .ok (.iload 5, 2) := by decide +kernel
theorem dX0_newFrame_66 : decode cX0_newFrame 66 = .ok (.iaload, 1) := by decide +kernel
theorem dX0_newFrame_67 : decode cX0_newFrame 67 = .ok (.iadd, 1) := by decide +kernel
theorem dX0_newFrame_68 : decode cX0_newFrame 68 = .ok (.istore 4, 2) := by decide +kernel
theorem dX0_newFrame_70 : decode cX0_newFrame 70 = .ok (.iinc 5 1, 3) := by decide +kernel
theorem dX0_newFrame_73 : decode cX0_newFrame 73 = .ok (.goto (-65), 3) := by decide +kernel
theorem dX0_newFrame_76 : decode cX0_newFrame 76 = .ok (.bipush (-9), 2) := by decide +kernel
theorem dX0_newFrame_78 : decode cX0_newFrame 78 = .ok (.ireturn, 1) := by decide +kernel
theorem dX0_oldFrame_0 : decode cX0_oldFrame 0 = .ok (.iload_n 1, 1) := by decide +kernel
theorem dX0_oldFrame_1 : decode cX0_oldFrame 1 = .ok (.istore_n 2, 1) := by decide +kernel
theorem dX0_oldFrame_2 : decode cX0_oldFrame 2 = .ok (.iconst 0, 1) := by decide +kernel
theorem dX0_oldFrame_3 : decode cX0_oldFrame 3 = .ok (.istore_n 3, 1) := by decide +kernel
theorem dX0_oldFrame_4 : decode cX0_oldFrame 4 = .ok (.iload_n 3, 1) := by decide +kernel
theorem dX0_oldFrame_5 : decode cX0_oldFrame 5 = .ok (.aload_n 0, 1) := by decide +kernel
theorem dX0_oldFrame_6 : decode cX0_oldFrame 6 = .ok (.getfield 18, 3) := by decide +kernel
theorem dX0_oldFrame_9 : decode cX0_oldFrame 9 = .ok (.if_icmp .ge 37, 3) := by decide +kernel
theorem dX0_oldFrame_12 : decode cX0_oldFrame 12 = .ok (.iload_n 2, 1) := by decide +kernel
theorem dX0_oldFrame_13 : decode cX0_oldFrame 13 = .ok (.aload_n 0, 1) := by decide +kernel
theorem dX0_oldFrame_14 : decode cX0_oldFrame 14 = .ok (.getfield 15, 3) := by decide +kernel
theorem dX0_oldFrame_17 : decode cX0_oldFrame 17 = .ok (.iload_n 3, 1) := by decide +kernel
theorem dX0_oldFrame_18 : decode cX0_oldFrame 18 = .ok (.iaload, 1) := by decide +kernel
theorem dX0_oldFrame_19 : decode cX0_oldFrame 19 = .ok (.if_icmp .ge 12, 3) := by decide +kernel
theorem dX0_oldFrame_22 : decode cX0_oldFrame 22 = .ok (.aload_n 0, 1) := by decide +kernel
theorem dX0_oldFrame_23 : decode cX0_oldFrame 23 = .ok (.getfield 9, 3) := by decide +kernel
theorem dX0_oldFrame_26 : decode cX0_oldFrame 26 = .ok (.iload_n 3, 1) := by decide +kernel
theorem dX0_oldFrame_27 : decode cX0_oldFrame 27 = .ok (.iaload, 1) := by decide +kernel
theorem dX0_oldFrame_28 : decode cX0_oldFrame 28 = .ok (.iload_n 2, 1) := by decide +kernel
theorem dX0_oldFrame_29 : decode cX0_oldFrame 29 = .ok (.iadd, 1) := by decide +kernel
theorem dX0_oldFrame_30 : decode cX0_oldFrame 30 = .ok (.ireturn, 1) := by decide +kernel
theorem dX0_oldFrame_31 : decode cX0_oldFrame 31 = .ok (.iload_n 2, 1) := by decide +kernel
theorem dX0_oldFrame_32 : decode cX0_oldFrame 32 = .ok (.aload_n 0, 1) := by decide +kernel
theorem dX0_oldFrame_33 : decode cX0_oldFrame 33 = .ok (.getfield 15, 3) := by decide +kernel
theorem dX0_oldFrame_36 : decode cX0_oldFrame 36 = .ok (.iload_n 3, 1) := by decide +kernel
theorem dX0_oldFrame_37 : decode cX0_oldFrame 37 = .ok (.iaload, 1) := by decide +kernel
theorem dX0_oldFrame_38 : decode cX0_oldFrame 38 = .ok (.isub, 1) := by decide +kernel
theorem dX0_oldFrame_39 : decode cX0_oldFrame 39 = .ok (.istore_n 2, 1) := by decide +kernel
theorem dX0_oldFrame_40 : decode cX0_oldFrame 40 = .ok (.iinc 3 1, 3) := by decide +kernel
theorem dX0_oldFrame_43 : decode cX0_oldFrame 43 = .ok (.goto (-39), 3) := by decide +kernel
theorem dX0_oldFrame_46 : decode cX0_oldFrame 46 = .ok (.bipush (-9), 2) := by decide +kernel
theorem dX0_oldFrame_48 : decode cX0_oldFrame 48 = .ok (.ireturn, 1) := by decide +kernel
theorem dX1_init_0 : decode cX1_init 0 = .ok (.aload_n 0, 1) := by decide +kernel
theorem dX1_init_1 : decode cX1_init 1 = .ok (.invokespecial 3, 3) := by decide +kernel
theorem dX1_init_4 : decode cX1_init 4 = .ok (.aload_n 0, 1) := by decide +kernel
theorem dX1_init_5 : decode cX1_init 5 = .ok (.bipush 8, 2) := by decide +kernel
theorem dX1_init_7 : decode cX1_init 7 = .ok (.anewarray 9, 3) := by decide +kernel
theorem dX1_init_10 : decode cX1_init 10 = .ok (.putfield 11, 3) := by decide +kernel
theorem dX1_init_13 : decode cX1_init 13 = .ok (.iconst 0, 1) := by decide +kernel
theorem dX1_init_14 : decode cX1_init 14 = .ok (.istore_n 2, 1) := by decide +kernel
theorem dX1_init_15 : decode cX1_init 15 = .ok (.iload_n 2, 1) := by decide +kernel
theorem dX1_init_16 : decode cX1_init 16 = .ok (.aload_n 0, 1) := by decide +kernel
theorem dX1_init_17 : decode cX1_init 17 = .ok (.getfield 11, 3) := by decide +kernel
theorem dX1_init_20 : decode cX1_init 20 = .ok (.arraylength, 1) := by decide +kernel
theorem dX1_init_21 : decode cX1_init 21 = .ok (.if_icmp .ge 23, 3) := by decide +kernel
theorem dX1_init_24 : decode cX1_init 24 = .ok (.aload_n 0, 1) := by decide +kernel
theorem dX1_init_25 : decode cX1_init 25 = .ok (.getfield 11, 3) := by decide +kernel
theorem dX1_init_28 : decode cX1_init 28 = .ok (.iload_n 2, 1) := by decide +kernel
theorem dX1_init_29 : decode cX1_init 29 = .ok (.new 9, 3) := by decide +kernel
theorem dX1_init_32 : decode cX1_init 32 = .ok (.dup, 1) := by decide +kernel
theorem dX1_init_33 : decode cX1_init 33 = .ok (.aload_n 1, 1) := by decide +kernel
theorem dX1_init_34 : decode cX1_init 34 = .ok (.invokespecial 17, 3) := by decide +kernel
theorem dX1_init_37 : decode cX1_init 37 = .ok (.aastore, 1) := by decide +kernel
theorem dX1_init_38 : decode cX1_init 38 = .ok (.iinc 2 1, 3) := by decide +kernel
theorem dX1_init_41 : decode cX1_init 41 = .ok (.goto (-26), 3) := by decide +kernel
theorem dX1_init_44 : decode cX1_init 44 = .ok (.return_, 1) := by decide +kernel
theorem dX1_size_0 : decode cX1_size 0 = .ok (.aload_n 0, 1) := by decide +kernel
theorem dX1_size_1 : decode cX1_size 1 = .ok (.getfield 20, 3) := by decide +kernel
theorem dX1_size_4 : decode cX1_size 4 = .ok (.ireturn, 1) := by decide +kernel
theorem dX1_record_0 : decode cX1_record 0 = .ok (.aload_n 0, 1) := by decide +kernel
theorem dX1_record_1 : decode cX1_record 1 = .ok (.getfield 20, 3) := by decide +kernel
theorem dX1_record_4 : decode cX1_record 4 = .ok (.aload_n 0, 1) := by decide +kernel
theorem dX1_record_5 : decode cX1_record 5 = .ok (.getfield 11, 3) := by decide +kernel
theorem dX1_record_8 : decode cX1_record 8 = .ok (.arraylength, 1) := by decide +kernel
theorem dX1_record_9 : decode cX1_record 9 = .ok (.if_icmp .lt 7, 3) := by decide +kernel
theorem dX1_record_12 : decode cX1_record 12 = .ok (.aload_n 0, 1) := by decide +kernel
theorem dX1_record_13 : decode cX1_record 13 = .ok (.invokevirtual 24, 3) := by decide +kernel
theorem dX1_record_16 : decode cX1_record 16 = .ok (.aload_n 0, 1) := by decide +kernel
theorem dX1_record_17 : decode cX1_record 17 = .ok (.getfield 11, 3) := by decide +kernel
theorem dX1_record_20 : decode cX1_record 20 = .ok (.aload_n 0, 1) := by decide +kernel
theorem dX1_record_21 : decode cX1_record 21 = .ok (.getfield 20, 3) := by decide +kernel
theorem dX1_record_24 : decode cX1_record 24 = .ok (.aaload, 1) := by decide +kernel
theorem dX1_record_25 : decode cX1_record 25 = .ok (.aload_n 1, 1) := by decide +kernel
theorem dX1_record_26 : decode cX1_record 26 = .ok (.invokevirtual 27, 3) := by decide +kernel
theorem dX1_record_29 : decode cX1_record 29 = .ok (.aload_n 0, 1) := by decide +kernel
theorem dX1_record_30 : decode cX1_record 30 = .ok (.dup, 1) := by decide +kernel
theorem dX1_record_31 : decode cX1_record 31 = .ok (.getfield 20, 3) := by decide +kernel
theorem dX1_record_34 : decode cX1_record 34 = .ok (.iconst 1, 1) := by decide +kernel
theorem dX1_record_35 : decode cX1_record 35 = .ok (.iadd, 1) := by decide +kernel
theorem dX1_record_36 : decode cX1_record 36 = .ok (.putfield 20, 3) := by decide +kernel
theorem dX1_record_39 : decode cX1_record 39 = .ok (.return_, 1) := by decide +kernel
theorem dX1_restore_0 : decode cX1_restore 0 = .ok (.aload_n 0, 1) := by decide +kernel
theorem dX1_restore_1 : decode cX1_restore 1 = .ok (.getfield 20, 3) := by decide +kernel
theorem dX1_restore_4 : decode cX1_restore 4 = .ok (.ifCond .gt 4, 3) := by decide +kernel
theorem dX1_restore_7 : decode cX1_restore 7 = .ok (.return_, 1) := by decide +kernel
theorem dX1_restore_8 : decode cX1_restore 8 = .ok (.aload_n 0, 1) := by decide +kernel
theorem dX1_restore_9 : decode cX1_restore 9 = .ok (.dup, 1) := by decide +kernel
theorem dX1_restore_10 : decode cX1_restore 10 = .ok (.getfield 20, 3) := by decide +kernel
theorem dX1_restore_13 : decode cX1_restore 13 = .ok (.iconst 1, 1) := by decide +kernel
theorem dX1_restore_14 : decode cX1_restore 14 = .ok (.isub, 1) := by decide +kernel
theorem dX1_restore_15 : decode cX1_restore 15 = .ok (.putfield 20, 3) := by decide +kernel
theorem dX1_restore_18 : decode cX1_restore 18 = .ok (.aload_n 1, 1) := by decide +kernel
theorem dX1_restore_19 : decode cX1_restore 19 = .ok (.aload_n 0, 1) := by decide +kernel
theorem dX1_restore_20 : decode cX1_restore 20 = .ok (.getfield 11, 3) := by decide +kernel
theorem dX1_restore_23 : decode cX1_restore 23 = .ok (.aload_n 0, 1) := by decide +kernel
theorem dX1_restore_24 : decode cX1_restore 24 = .ok (.getfield 20, 3) := by decide +kernel
theorem dX1_restore_27 : decode cX1_restore 27 = .ok (.aaload, 1) := by decide +kernel
theorem dX1_restore_28 : decode cX1_restore 28 = .ok (.invokevirtual 27, 3) := by decide +kernel
theorem dX1_restore_31 : decode cX1_restore 31 = .ok (.return_, 1) := by decide +kernel
theorem dX1_forgetOldest_0 : decode cX1_forgetOldest 0 = .ok (.aload_n 0, 1) := by decide +kernel
theorem dX1_forgetOldest_1 : decode cX1_forgetOldest 1 = .ok (.getfield 11, 3) := by decide +kernel
theorem dX1_forgetOldest_4 : decode cX1_forgetOldest 4 = .ok (.iconst 0, 1) := by decide +kernel
theorem dX1_forgetOldest_5 : decode cX1_forgetOldest 5 = .ok (.aaload, 1) := by decide +kernel
theorem dX1_forgetOldest_6 : decode cX1_forgetOldest 6 = .ok (.astore_n 1, 1) := by decide +kernel
theorem dX1_forgetOldest_7 : decode cX1_forgetOldest 7 = .ok (.iconst 0, 1) := by decide +kernel
theorem dX1_forgetOldest_8 : decode cX1_forgetOldest 8 = .ok (.istore_n 2, 1) := by decide +kernel
theorem dX1_forgetOldest_9 : decode cX1_forgetOldest 9 = .ok (.iload_n 2, 1) := by decide +kernel
theorem dX1_forgetOldest_10 : decode cX1_forgetOldest 10 = .ok (.iconst 1, 1) := by decide +kernel
theorem dX1_forgetOldest_11 : decode cX1_forgetOldest 11 = .ok (.iadd, 1) := by decide +kernel
theorem dX1_forgetOldest_12 : decode cX1_forgetOldest 12 = .ok (.aload_n 0, 1) := by decide +kernel
theorem dX1_forgetOldest_13 : decode cX1_forgetOldest 13 = .ok (.getfield 11, 3) := by decide +kernel
theorem dX1_forgetOldest_16 : decode cX1_forgetOldest 16 = .ok (.arraylength, 1) := by decide +kernel
theorem dX1_forgetOldest_17 : decode cX1_forgetOldest 17 = .ok (.if_icmp .ge 23, 3) := by decide +kernel
theorem dX1_forgetOldest_20 : decode cX1_forgetOldest 20 = .ok (.aload_n 0, 1) := by decide +kernel
theorem dX1_forgetOldest_21 : decode cX1_forgetOldest 21 = .ok (.getfield 11, 3) := by decide +kernel
theorem dX1_forgetOldest_24 : decode cX1_forgetOldest 24 = .ok (.iload_n 2, 1) := by decide +kernel
theorem dX1_forgetOldest_25 : decode cX1_forgetOldest 25 = .ok (.aload_n 0, 1) := by decide +kernel
theorem dX1_forgetOldest_26 : decode cX1_forgetOldest 26 = .ok (.getfield 11, 3) := by decide +kernel
theorem dX1_forgetOldest_29 : decode cX1_forgetOldest 29 = .ok (.iload_n 2, 1) := by decide +kernel
theorem dX1_forgetOldest_30 : decode cX1_forgetOldest 30 = .ok (.iconst 1, 1) := by decide +kernel
theorem dX1_forgetOldest_31 : decode cX1_forgetOldest 31 = .ok (.iadd, 1) := by decide +kernel
theorem dX1_forgetOldest_32 : decode cX1_forgetOldest 32 = .ok (.aaload, 1) := by decide +kernel
theorem dX1_forgetOldest_33 : decode cX1_forgetOldest 33 = .ok (.aastore, 1) := by decide +kernel
theorem dX1_forgetOldest_34 : decode cX1_forgetOldest 34 = .ok (.iinc 2 1, 3) := by decide +kernel
theorem dX1_forgetOldest_37 : decode cX1_forgetOldest 37 = .ok (.goto (-28), 3) := by decide +kernel
theorem dX1_forgetOldest_40 : decode cX1_forgetOldest 40 = .ok (.aload_n 0, 1) := by decide +kernel
theorem dX1_forgetOldest_41 : decode cX1_forgetOldest 41 = .ok (.aload_n 0, 1) := by decide +kernel
theorem dX1_forgetOldest_42 : decode cX1_forgetOldest 42 = .ok (.getfield 11, 3) := by decide +kernel
theorem dX1_forgetOldest_45 : decode cX1_forgetOldest 45 = .ok (.arraylength, 1) := by decide +kernel
theorem dX1_forgetOldest_46 : decode cX1_forgetOldest 46 = .ok (.iconst 1, 1) := by decide +kernel
theorem dX1_forgetOldest_47 : decode cX1_forgetOldest 47 = .ok (.isub, 1) := by decide +kernel
theorem dX1_forgetOldest_48 : decode cX1_forgetOldest 48 = .ok (.putfield 20, 3) := by decide +kernel
theorem dX1_forgetOldest_51 : decode cX1_forgetOldest 51 = .ok (.aload_n 0, 1) := by decide +kernel
theorem dX1_forgetOldest_52 : decode cX1_forgetOldest 52 = .ok (.getfield 11, 3) := by decide +kernel
theorem dX1_forgetOldest_55 : decode cX1_forgetOldest 55 = .ok (.aload_n 0, 1) := by decide +kernel
theorem dX1_forgetOldest_56 : decode cX1_forgetOldest 56 = .ok (.getfield 20, 3) := by decide +kernel
theorem dX1_forgetOldest_59 : decode cX1_forgetOldest 59 = .ok (.aload_n 1, 1) := by decide +kernel
theorem dX1_forgetOldest_60 : decode cX1_forgetOldest 60 = .ok (.aastore, 1) := by decide +kernel
theorem dX1_forgetOldest_61 : decode cX1_forgetOldest 61 = .ok (.return_, 1) := by decide +kernel
theorem dX2_init_0 : decode cX2_init 0 = .ok (.aload_n 0, 1) := by decide +kernel
theorem dX2_init_1 : decode cX2_init 1 = .ok (.invokespecial 3, 3) := by decide +kernel
theorem dX2_init_4 : decode cX2_init 4 = .ok (.iconst 0, 1) := by decide +kernel
theorem dX2_init_5 : decode cX2_init 5 = .ok (.iload_n 3, 1) := by decide +kernel
theorem dX2_init_6 : decode cX2_init 6 = .ok (.aload_n 2, 1) := by decide +kernel
theorem dX2_init_7 : decode cX2_init 7 = .ok (.arraylength, 1) := by decide +kernel
theorem dX2_init_8 : decode cX2_init 8 = .ok (.invokestatic 9, 3) := by decide +kernel
theorem dX2_init_11 : decode cX2_init 11 = .ok (.invokestatic 15, 3) := by decide +kernel
theorem dX2_init_14 : decode cX2_init 14 = .ok (.istore 4, 2) := by decide +kernel
theorem dX2_init_16 : decode cX2_init 16 = .ok (.aload_n 0, 1) := by decide +kernel
theorem dX2_init_17 : decode cX2_init 17 = .ok (.iload_n 1, 1) := by decide +kernel
theorem dX2_init_18 : decode cX2_init 18 = .ok (.putfield 18, 3) := by decide +kernel
theorem dX2_init_21 : decode cX2_init 21 = .ok (.aload_n 0, 1) := by decide +kernel
theorem dX2_init_22 : decode cX2_init 22 = .ok (.iload 4, 2) := by decide +kernel
theorem dX2_init_24 : decode cX2_init 24 = .ok (.newarray .byte, 2) := by decide +kernel
theorem dX2_init_26 : decode cX2_init 26 = .ok (.putfield 24, 3) := by decide +kernel
theorem dX2_init_29 : decode cX2_init 29 = .ok (.aload_n 2, 1) := by decide +kernel
theorem dX2_init_30 : decode cX2_init 30 = .ok (.iconst 0, 1) := by decide +kernel
theorem dX2_init_31 : decode cX2_init 31 = .ok (.aload_n 0, 1) := by decide +kernel
theorem dX2_init_32 : decode cX2_init 32 = .ok (.getfield 24, 3) := by decide +kernel
theorem dX2_init_35 : decode cX2_init 35 = .ok (.iconst 0, 1) := by decide +kernel
theorem dX2_init_36 : decode cX2_init 36 = .ok (.iload 4, 2) := by decide +kernel
theorem dX2_init_38 : decode cX2_init 38 = .ok (.invokestatic 28, 3) := by decide +kernel
theorem dX2_init_41 : decode cX2_init 41 = .ok (.return_, 1) := by decide +kernel
theorem dX2_bytes_0 : decode cX2_bytes 0 = .ok (.aload_n 0, 1) := by decide +kernel
theorem dX2_bytes_1 : decode cX2_bytes 1 = .ok (.getfield 24, 3) := by decide +kernel
theorem dX2_bytes_4 : decode cX2_bytes 4 = .ok (.arraylength, 1) := by decide +kernel
theorem dX2_bytes_5 : decode cX2_bytes 5 = .ok (.ireturn, 1) := by decide +kernel
theorem dX2_byteAt_0 : decode cX2_byteAt 0 = .ok (.iload_n 1, 1) := by decide +kernel
theorem dX2_byteAt_1 : decode cX2_byteAt 1 = .ok (.ifCond .lt 21, 3) := by decide +kernel
theorem dX2_byteAt_4 : decode cX2_byteAt 4 = .ok (.iload_n 1, 1) := by decide +kernel
theorem dX2_byteAt_5 : decode cX2_byteAt 5 = .ok (.aload_n 0, 1) := by decide +kernel
theorem dX2_byteAt_6 : decode cX2_byteAt 6 = .ok (.getfield 24, 3) := by decide +kernel
theorem dX2_byteAt_9 : decode cX2_byteAt 9 = .ok (.arraylength, 1) := by decide +kernel
theorem dX2_byteAt_10 : decode cX2_byteAt 10 = .ok (.if_icmp .ge 12, 3) := by decide +kernel
theorem dX2_byteAt_13 : decode cX2_byteAt 13 = .ok (.aload_n 0, 1) := by decide +kernel
theorem dX2_byteAt_14 : decode cX2_byteAt 14 = .ok (.getfield 24, 3) := by decide +kernel
theorem dX2_byteAt_17 : decode cX2_byteAt 17 = .ok (.iload_n 1, 1) := by decide +kernel
theorem dX2_byteAt_18 : decode cX2_byteAt 18 = .ok (.baload, 1) := by decide +kernel
theorem dX2_byteAt_19 : decode cX2_byteAt 19 = .ok (.goto 5, 3) := by decide +kernel
theorem dX2_byteAt_22 : decode cX2_byteAt 22 = .ok (.bipush (-9), 2) := by decide +kernel
theorem dX2_byteAt_24 : decode cX2_byteAt 24 = .ok (.ireturn, 1) := by decide +kernel
theorem dX2_brokenAt_0 : decode cX2_brokenAt 0 = .ok (.bipush (-9), 2) := by decide +kernel
theorem dX2_brokenAt_2 : decode cX2_brokenAt 2 = .ok (.istore_n 2, 1) := by decide +kernel
theorem dX2_brokenAt_3 : decode cX2_brokenAt 3 = .ok (.iconst 0, 1) := by decide +kernel
theorem dX2_brokenAt_4 : decode cX2_brokenAt 4 = .ok (.istore_n 3, 1) := by decide +kernel
theorem dX2_brokenAt_5 : decode cX2_brokenAt 5 = .ok (.aload_n 0, 1) := by decide +kernel
theorem dX2_brokenAt_6 : decode cX2_brokenAt 6 = .ok (.getfield 24, 3) := by decide +kernel
theorem dX2_brokenAt_9 : decode cX2_brokenAt 9 = .ok (.arraylength, 1) := by decide +kernel
theorem dX2_brokenAt_10 : decode cX2_brokenAt 10 = .ok (.iload_n 1, 1) := by decide +kernel
theorem dX2_brokenAt_11 : decode cX2_brokenAt 11 = .ok (.if_icmp .gt 5, 3) := by decide +kernel
theorem dX2_brokenAt_14 : decode cX2_brokenAt 14 = .ok (.iload_n 2, 1) := by decide +kernel
theorem dX2_brokenAt_15 : decode cX2_brokenAt 15 = .ok (.ireturn, 1) := by decide +kernel
theorem dX2_brokenAt_16 : decode cX2_brokenAt 16 = .ok (.iconst 0, 1) := by decide +kernel
theorem dX2_brokenAt_17 : decode cX2_brokenAt 17 = .ok (.istore 4, 2) := by decide +kernel
theorem dX2_brokenAt_19 : decode cX2_brokenAt 19 = .ok (.iload 4, 2) := by decide +kernel
theorem dX2_brokenAt_21 : decode cX2_brokenAt 21 = .ok (.aload_n 0, 1) := by decide +kernel
theorem dX2_brokenAt_22 : decode cX2_brokenAt 22 = .ok (.getfield 24, 3) := by decide +kernel
theorem dX2_brokenAt_25 : decode cX2_brokenAt 25 = .ok (.arraylength, 1) := by decide +kernel
theorem dX2_brokenAt_26 : decode cX2_brokenAt 26 = .ok (.if_icmp .ge 94, 3) := by decide +kernel
theorem dX2_brokenAt_29 : decode cX2_brokenAt 29 = .ok (.aload_n 0, 1) := by decide +kernel
theorem dX2_brokenAt_30 : decode cX2_brokenAt 30 = .ok (.getfield 24, 3) := by decide +kernel
theorem dX2_brokenAt_33 : decode cX2_brokenAt 33 = .ok (.iload 4, 2) := by decide +kernel
theorem dX2_brokenAt_35 : decode cX2_brokenAt 35 = .ok (.baload, 1) := by decide +kernel
theorem dX2_brokenAt_36 : decode cX2_brokenAt 36 = .ok (.bipush 32, 2) := by decide +kernel
theorem dX2_brokenAt_38 : decode cX2_brokenAt 38 = .ok (.if_icmp .eq 6, 3) := by decide +kernel
theorem dX2_brokenAt_41 : decode cX2_brokenAt 41 = .ok (.goto 73, 3) := by decide +kernel
theorem dX2_brokenAt_44 : decode cX2_brokenAt 44 = .ok (.aload_n 0, 1) := by decide +kernel
theorem dX2_brokenAt_45 : decode cX2_brokenAt 45 = .ok (.iload 4, 2) := by decide +kernel
theorem dX2_brokenAt_47 : decode cX2_brokenAt 47 = .ok (.invokevirtual 34, 3) := by decide +kernel
theorem dX2_brokenAt_50 : decode cX2_brokenAt 50 = .ok (.istore 5, 2) := by decide +kernel
theorem dX2_brokenAt_52 : decode cX2_brokenAt 52 = .ok (.aload_n 0, 1) := by decide +kernel
theorem dX2_brokenAt_53 : decode cX2_brokenAt 53 = .ok (.getfield 24, 3) := by decide +kernel
theorem dX2_brokenAt_56 : decode cX2_brokenAt 56 = .ok (.arraylength, 1) := by decide +kernel
theorem dX2_brokenAt_57 : decode cX2_brokenAt 57 = .ok (.iconst 1, 1) := by decide +kernel
theorem dX2_brokenAt_58 : decode cX2_brokenAt 58 = .ok (.isub, 1) := by decide +kernel
theorem dX2_brokenAt_59 : decode cX2_brokenAt 59 = .ok (.iload 5, 2) := by decide +kernel
theorem dX2_brokenAt_61 : decode cX2_brokenAt 61 = .ok (.isub, 1) := by decide +kernel
theorem dX2_brokenAt_62 : decode cX2_brokenAt 62 = .ok (.istore 6, 2) := by decide +kernel
theorem dX2_brokenAt_64 : decode cX2_brokenAt 64 = .ok (.iload 5, 2) := by decide +kernel
theorem dX2_brokenAt_66 : decode cX2_brokenAt 66 = .ok (.iload_n 1, 1) := by decide +kernel
theorem dX2_brokenAt_67 : decode cX2_brokenAt 67 = .ok (.if_icmp .le 12, 3) := by decide +kernel
theorem dX2_brokenAt_70 : decode cX2_brokenAt 70 = .ok (.sipush 1000, 3) := by decide +kernel
theorem dX2_brokenAt_73 : decode cX2_brokenAt 73 = .ok (.iload 5, 2) := by decide +kernel
theorem dX2_brokenAt_75 : decode cX2_brokenAt 75 = .ok (.iadd, 1) := by decide +kernel
theorem dX2_brokenAt_76 : decode cX2_brokenAt 76 = .ok (.goto 18, 3) := by decide +kernel
theorem dX2_brokenAt_79 : decode cX2_brokenAt 79 = .ok (.iload 5, 2) := by decide +kernel
theorem dX2_brokenAt_81 : decode cX2_brokenAt 81 = .ok (.iload 6, 2) := by decide +kernel
theorem dX2_brokenAt_83 : decode cX2_brokenAt 83 = .ok (.isub, 1) := by decide +kernel
theorem dX2_brokenAt_84 : decode cX2_brokenAt 84 = .ok (.bipush 6, 2) := by decide +kernel
theorem dX2_brokenAt_86 : decode cX2_brokenAt 86 = .ok (.aload_n 0, 1) := by decide +kernel
theorem dX2_brokenAt_87 : decode cX2_brokenAt 87 = .ok (.iload 4, 2) := by decide +kernel
theorem dX2_brokenAt_89 : decode cX2_brokenAt 89 = .ok (.invokevirtual 38, 3) := by decide +kernel
theorem dX2_brokenAt_92 : decode cX2_brokenAt 92 = .ok (.imul, 1) := by decide +kernel
theorem dX2_brokenAt_93 : decode cX2_brokenAt 93 = .ok (.iadd, 1) := by decide +kernel
theorem dX2_brokenAt_94 : decode cX2_brokenAt 94 = .ok (.istore 7, 2) := by decide +kernel
theorem dX2_brokenAt_96 : decode cX2_brokenAt 96 = .ok (.iload_n 2, 1) := by decide +kernel
theorem dX2_brokenAt_97 : decode cX2_brokenAt 97 = .ok (.bipush (-9), 2) := by decide +kernel
theorem dX2_brokenAt_99 : decode cX2_brokenAt 99 = .ok (.if_icmp .eq 9, 3) := by decide +kernel
theorem dX2_brokenAt_102 : decode cX2_brokenAt 102 = .ok (.iload 7, 2) := by decide +kernel
theorem dX2_brokenAt_104 : decode cX2_brokenAt 104 = .ok (.iload_n 3, 1) := by decide +kernel
theorem dX2_brokenAt_105 : decode cX2_brokenAt 105 = .ok (.if_icmp .ge 9, 3) := by decide +kernel
theorem dX2_brokenAt_108 : decode cX2_brokenAt 108 = .ok (.iload 4, 2) := by decide +kernel
theorem dX2_brokenAt_110 : decode cX2_brokenAt 110 = .ok (.istore_n 2, 1) := by decide +kernel
theorem dX2_brokenAt_111 : decode cX2_brokenAt 111 = .ok (.iload 7, 2) := by decide +kernel
theorem dX2_brokenAt_113 : decode cX2_brokenAt 113 = .ok (.istore_n 3, 1) := by decide +kernel
theorem dX2_brokenAt_114 : decode cX2_brokenAt 114 = .ok (.iinc 4 1, 3) := by decide +kernel
theorem dX2_brokenAt_117 : decode cX2_brokenAt 117 = .ok (.goto (-98), 3) := by decide +kernel
theorem dX2_brokenAt_120 : decode cX2_brokenAt 120 = .ok (.iload_n 2, 1) := by decide +kernel
theorem dX2_brokenAt_121 : decode cX2_brokenAt 121 = .ok (.ireturn, 1) := by decide +kernel
theorem dX2_isTooWide_0 : decode cX2_isTooWide 0 = .ok (.aload_n 0, 1) := by decide +kernel
theorem dX2_isTooWide_1 : decode cX2_isTooWide 1 = .ok (.getfield 24, 3) := by decide +kernel
theorem dX2_isTooWide_4 : decode cX2_isTooWide 4 = .ok (.arraylength, 1) := by decide +kernel
theorem dX2_isTooWide_5 : decode cX2_isTooWide 5 = .ok (.iload_n 1, 1) := by decide +kernel
theorem dX2_isTooWide_6 : decode cX2_isTooWide 6 = .ok (.if_icmp .le 7, 3) := by decide +kernel
theorem dX2_isTooWide_9 : decode cX2_isTooWide 9 = .ok (.iconst 1, 1) := by decide +kernel
theorem dX2_isTooWide_10 : decode cX2_isTooWide 10 = .ok (.goto 4, 3) := by decide +kernel
theorem dX2_isTooWide_13 : decode cX2_isTooWide 13 = .ok (.iconst 0, 1) := by decide +kernel
theorem dX2_isTooWide_14 : decode cX2_isTooWide 14 = .ok (.istore_n 2, 1) := by decide +kernel
theorem dX2_isTooWide_15 : decode cX2_isTooWide 15 = .ok (.iconst 0, 1) := by decide +kernel
theorem dX2_isTooWide_16 : decode cX2_isTooWide 16 = .ok (.istore_n 3, 1) := by decide +kernel
theorem dX2_isTooWide_17 : decode cX2_isTooWide 17 = .ok (.iload_n 2, 1) := by decide +kernel
theorem dX2_isTooWide_18 : decode cX2_isTooWide 18 = .ok (.ifCond .eq 40, 3) := by decide +kernel
theorem dX2_isTooWide_21 : decode cX2_isTooWide 21 = .ok (.iload_n 3, 1) := by decide +kernel
theorem dX2_isTooWide_22 : decode cX2_isTooWide 22 = .ok (.aload_n 0, 1) := by decide +kernel
theorem dX2_isTooWide_23 : decode cX2_isTooWide 23 = .ok (.getfield 24, 3) := by decide +kernel
theorem dX2_isTooWide_26 : decode cX2_isTooWide 26 = .ok (.arraylength, 1) := by decide +kernel
theorem dX2_isTooWide_27 : decode cX2_isTooWide 27 = .ok (.if_icmp .ge 31, 3) := by decide +kernel
theorem dX2_isTooWide_30 : decode cX2_isTooWide 30 = .ok (.aload_n 0, 1) := by decide +kernel
theorem dX2_isTooWide_31 : decode cX2_isTooWide 31 = .ok (.getfield 24, 3) := by decide +kernel
theorem dX2_isTooWide_34 : decode cX2_isTooWide 34 = .ok (.iload_n 3, 1) := by decide +kernel
theorem dX2_isTooWide_35 : decode cX2_isTooWide 35 = .ok (.baload, 1) := by decide +kernel
theorem dX2_isTooWide_36 : decode cX2_isTooWide 36 = .ok (.bipush 32, 2) := by decide +kernel
theorem dX2_isTooWide_38 : decode cX2_isTooWide 38 = .ok (.if_icmp .ne 14, 3) := by decide +kernel
theorem dX2_isTooWide_41 : decode cX2_isTooWide 41 = .ok (.aload_n 0, 1) := by decide +kernel
theorem dX2_isTooWide_42 : decode cX2_isTooWide 42 = .ok (.iload_n 3, 1) := by decide +kernel
theorem dX2_isTooWide_43 : decode cX2_isTooWide 43 = .ok (.invokevirtual 34, 3) := by decide +kernel
theorem dX2_isTooWide_46 : decode cX2_isTooWide 46 = .ok (.iload_n 1, 1) := by decide +kernel
theorem dX2_isTooWide_47 : decode cX2_isTooWide 47 = .ok (.if_icmp .gt 5, 3) := by decide +kernel
theorem dX2_isTooWide_50 : decode cX2_isTooWide 50 = .ok (.iconst 0, 1) := by decide +kernel
theorem dX2_isTooWide_51 : decode cX2_isTooWide 51 = .ok (.istore_n 2, 1) := by decide +kernel
theorem dX2_isTooWide_52 : decode cX2_isTooWide 52 = .ok (.iinc 3 1, 3) := by decide +kernel
theorem dX2_isTooWide_55 : decode cX2_isTooWide 55 = .ok (.goto (-38), 3) := by decide +kernel
theorem dX2_isTooWide_58 : decode cX2_isTooWide 58 = .ok (.iload_n 2, 1) := by decide +kernel
theorem dX2_isTooWide_59 : decode cX2_isTooWide 59 = .ok (.ireturn, 1) := by decide +kernel
theorem dX2_rankOf_0 : decode cX2_rankOf 0 = .ok (.aload_n 0, 1) := by decide +kernel
theorem dX2_rankOf_1 : decode cX2_rankOf 1 = .ok (.iload_n 1, 1) := by decide +kernel
theorem dX2_rankOf_2 : decode cX2_rankOf 2 = .ok (.iconst 1, 1) := by decide +kernel
theorem dX2_rankOf_3 : decode cX2_rankOf 3 = .ok (.isub, 1) := by decide +kernel
theorem dX2_rankOf_4 : decode cX2_rankOf 4 = .ok (.invokevirtual 41, 3) := by decide +kernel
theorem dX2_rankOf_7 : decode cX2_rankOf 7 = .ok (.istore_n 2, 1) := by decide +kernel
theorem dX2_rankOf_8 : decode cX2_rankOf 8 = .ok (.iload_n 2, 1) := by decide +kernel
theorem dX2_rankOf_9 : decode cX2_rankOf 9 = .ok (.bipush 46, 2) := by decide +kernel
theorem dX2_rankOf_11 : decode cX2_rankOf 11 = .ok (.if_icmp .eq 15, 3) := by decide +kernel
theorem dX2_rankOf_14 : decode cX2_rankOf 14 = .ok (.iload_n 2, 1) := by decide +kernel
theorem dX2_rankOf_15 : decode cX2_rankOf 15 = .ok (.bipush 33, 2) := by decide +kernel
theorem dX2_rankOf_17 : decode cX2_rankOf 17 = .ok (.if_icmp .eq 9, 3) := by decide +kernel
theorem dX2_rankOf_20 : decode cX2_rankOf 20 = .ok (.iload_n 2, 1) := by decide +kernel
theorem dX2_rankOf_21 : decode cX2_rankOf 21 = .ok (.bipush 63, 2) := by decide +kernel
theorem dX2_rankOf_23 : decode cX2_rankOf 23 = .ok (.if_icmp .ne 5, 3) := by decide +kernel
theorem dX2_rankOf_26 : decode cX2_rankOf 26 = .ok (.iconst 0, 1) := by decide +kernel
theorem dX2_rankOf_27 : decode cX2_rankOf 27 = .ok (.ireturn, 1) := by decide +kernel
theorem dX2_rankOf_28 : decode cX2_rankOf 28 = .ok (.iload_n 2, 1) := by decide +kernel
theorem dX2_rankOf_29 : decode cX2_rankOf 29 = .ok (.bipush 44, 2) := by decide +kernel
theorem dX2_rankOf_31 : decode cX2_rankOf 31 = .ok (.if_icmp .eq 9, 3) := by decide +kernel
theorem dX2_rankOf_34 : decode cX2_rankOf 34 = .ok (.iload_n 2, 1) := by decide +kernel
theorem dX2_rankOf_35 : decode cX2_rankOf 35 = .ok (.bipush 58, 2) := by decide +kernel
theorem dX2_rankOf_37 : decode cX2_rankOf 37 = .ok (.if_icmp .ne 5, 3) := by decide +kernel
theorem dX2_rankOf_40 : decode cX2_rankOf 40 = .ok (.iconst 1, 1) := by decide +kernel
theorem dX2_rankOf_41 : decode cX2_rankOf 41 = .ok (.ireturn, 1) := by decide +kernel
theorem dX2_rankOf_42 : decode cX2_rankOf 42 = .ok (.iload_n 1, 1) := by decide +kernel
theorem dX2_rankOf_43 : decode cX2_rankOf 43 = .ok (.iconst 1, 1) := by decide +kernel
theorem dX2_rankOf_44 : decode cX2_rankOf 44 = .ok (.iadd, 1) := by decide +kernel
theorem dX2_rankOf_45 : decode cX2_rankOf 45 = .ok (.istore_n 3, 1) := by decide +kernel
theorem dX2_rankOf_46 : decode cX2_rankOf 46 = .ok (.aload_n 0, 1) := by decide +kernel
theorem dX2_rankOf_47 : decode cX2_rankOf 47 = .ok (.iload_n 3, 1) := by decide +kernel
theorem dX2_rankOf_48 : decode cX2_rankOf 48 = .ok (.ldc 44, 2) := by decide +kernel
theorem dX2_rankOf_50 : decode cX2_rankOf 50 = .ok (.invokevirtual 46, 3) := by decide +kernel
theorem dX2_rankOf_53 : decode cX2_rankOf 53 = .ok (.ifCond .ne 23, 3) := by decide +kernel
theorem dX2_rankOf_56 : decode cX2_rankOf 56 = .ok (.aload_n 0, 1) := by decide +kernel
theorem dX2_rankOf_57 : decode cX2_rankOf 57 = .ok (.iload_n 3, 1) := by decide +kernel
theorem dX2_rankOf_58 : decode cX2_rankOf 58 = .ok (.ldc 50, 2) := by decide +kernel
theorem dX2_rankOf_60 : decode cX2_rankOf 60 = .ok (.invokevirtual 46, 3) := by decide +kernel
theorem dX2_rankOf_63 : decode cX2_rankOf 63 = .ok (.ifCond .ne 13, 3) := by decide +kernel
theorem dX2_rankOf_66 : decode cX2_rankOf 66 = .ok (.aload_n 0, 1) := by decide +kernel
theorem dX2_rankOf_67 : decode cX2_rankOf 67 = .ok (.iload_n 3, 1) := by decide +kernel
theorem dX2_rankOf_68 : decode cX2_rankOf 68 = .ok (.ldc 52, 2) := by decide +kernel
theorem dX2_rankOf_70 : decode cX2_rankOf 70 = .ok (.invokevirtual 46, 3) := by decide +kernel
theorem dX2_rankOf_73 : decode cX2_rankOf 73 = .ok (.ifCond .eq 7, 3) := by decide +kernel
theorem dX2_rankOf_76 : decode cX2_rankOf 76 = .ok (.iconst 2, 1) := by decide +kernel
theorem dX2_rankOf_77 : decode cX2_rankOf 77 = .ok (.goto 4, 3) := by decide +kernel
theorem dX2_rankOf_80 : decode cX2_rankOf 80 = .ok (.iconst 3, 1) := by decide +kernel
theorem dX2_rankOf_81 : decode cX2_rankOf 81 = .ok (.ireturn, 1) := by decide +kernel
theorem dX2_longerLine_0 : decode cX2_longerLine 0 = .ok (.aload_n 0, 1) := by decide +kernel
theorem dX2_longerLine_1 : decode cX2_longerLine 1 = .ok (.getfield 24, 3) := by decide +kernel
theorem dX2_longerLine_4 : decode cX2_longerLine 4 = .ok (.arraylength, 1) := by decide +kernel
theorem dX2_longerLine_5 : decode cX2_longerLine 5 = .ok (.iconst 1, 1) := by decide +kernel
theorem dX2_longerLine_6 : decode cX2_longerLine 6 = .ok (.isub, 1) := by decide +kernel
theorem dX2_longerLine_7 : decode cX2_longerLine 7 = .ok (.iload_n 1, 1) := by decide +kernel
theorem dX2_longerLine_8 : decode cX2_longerLine 8 = .ok (.isub, 1) := by decide +kernel
theorem dX2_longerLine_9 : decode cX2_longerLine 9 = .ok (.istore_n 2, 1) := by decide +kernel
theorem dX2_longerLine_10 : decode cX2_longerLine 10 = .ok (.iload_n 1, 1) := by decide +kernel
theorem dX2_longerLine_11 : decode cX2_longerLine 11 = .ok (.iload_n 2, 1) := by decide +kernel
theorem dX2_longerLine_12 : decode cX2_longerLine 12 = .ok (.if_icmp .le 7, 3) := by decide +kernel
theorem dX2_longerLine_15 : decode cX2_longerLine 15 = .ok (.iload_n 1, 1) := by decide +kernel
theorem dX2_longerLine_16 : decode cX2_longerLine 16 = .ok (.goto 4, 3) := by decide +kernel
theorem dX2_longerLine_19 : decode cX2_longerLine 19 = .ok (.iload_n 2, 1) := by decide +kernel
theorem dX2_longerLine_20 : decode cX2_longerLine 20 = .ok (.ireturn, 1) := by decide +kernel
theorem dX2_isWord_0 : decode cX2_isWord 0 = .ok (.iconst 0, 1) := by decide +kernel
theorem dX2_isWord_1 : decode cX2_isWord 1 = .ok (.istore_n 3, 1) := by decide +kernel
theorem dX2_isWord_2 : decode cX2_isWord 2 = .ok (.iload_n 3, 1) := by decide +kernel
theorem dX2_isWord_3 : decode cX2_isWord 3 = .ok (.aload_n 2, 1) := by decide +kernel
theorem dX2_isWord_4 : decode cX2_isWord 4 = .ok (.invokevirtual 54, 3) := by decide +kernel
theorem dX2_isWord_7 : decode cX2_isWord 7 = .ok (.if_icmp .ge 26, 3) := by decide +kernel
theorem dX2_isWord_10 : decode cX2_isWord 10 = .ok (.aload_n 0, 1) := by decide +kernel
theorem dX2_isWord_11 : decode cX2_isWord 11 = .ok (.iload_n 1, 1) := by decide +kernel
theorem dX2_isWord_12 : decode cX2_isWord 12 = .ok (.iload_n 3, 1) := by decide +kernel
theorem dX2_isWord_13 : decode cX2_isWord 13 = .ok (.iadd, 1) := by decide +kernel
theorem dX2_isWord_14 : decode cX2_isWord 14 = .ok (.invokevirtual 41, 3) := by decide +kernel
theorem dX2_isWord_17 : decode cX2_isWord 17 = .ok (.aload_n 2, 1) := by decide +kernel
theorem dX2_isWord_18 : decode cX2_isWord 18 = .ok (.iload_n 3, 1) := by decide +kernel
theorem dX2_isWord_19 : decode cX2_isWord 19 = .ok (.invokevirtual 60, 3) := by decide +kernel
theorem dX2_isWord_22 : decode cX2_isWord 22 = .ok (.if_icmp .eq 5, 3) := by decide +kernel
theorem dX2_isWord_25 : decode cX2_isWord 25 = .ok (.iconst 0, 1) := by decide +kernel
theorem dX2_isWord_26 : decode cX2_isWord 26 = .ok (.ireturn, 1) := by decide +kernel
theorem dX2_isWord_27 : decode cX2_isWord 27 = .ok (.iinc 3 1, 3) := by decide +kernel
theorem dX2_isWord_30 : decode cX2_isWord 30 = .ok (.goto (-28), 3) := by decide +kernel
theorem dX2_isWord_33 : decode cX2_isWord 33 = .ok (.aload_n 0, 1) := by decide +kernel
theorem dX2_isWord_34 : decode cX2_isWord 34 = .ok (.iload_n 1, 1) := by decide +kernel
theorem dX2_isWord_35 : decode cX2_isWord 35 = .ok (.aload_n 2, 1) := by decide +kernel
theorem dX2_isWord_36 : decode cX2_isWord 36 = .ok (.invokevirtual 54, 3) := by decide +kernel
theorem dX2_isWord_39 : decode cX2_isWord 39 = .ok (.iadd, 1) := by decide +kernel
theorem dX2_isWord_40 : decode cX2_isWord 40 = .ok (.invokevirtual 41, 3) := by decide +kernel
theorem dX2_isWord_43 : decode cX2_isWord 43 = .ok (.istore_n 3, 1) := by decide +kernel
theorem dX2_isWord_44 : decode cX2_isWord 44 = .ok (.iload_n 3, 1) := by decide +kernel
theorem dX2_isWord_45 : decode cX2_isWord 45 = .ok (.bipush 32, 2) := by decide +kernel
theorem dX2_isWord_47 : decode cX2_isWord 47 = .ok (.if_icmp .eq 9, 3) := by decide +kernel
theorem dX2_isWord_50 : decode cX2_isWord 50 = .ok (.iload_n 3, 1) := by decide +kernel
theorem dX2_isWord_51 : decode cX2_isWord 51 = .ok (.bipush (-9), 2) := by decide +kernel
theorem dX2_isWord_53 : decode cX2_isWord 53 = .ok (.if_icmp .ne 7, 3) := by decide +kernel
theorem dX2_isWord_56 : decode cX2_isWord 56 = .ok (.iconst 1, 1) := by decide +kernel
theorem dX2_isWord_57 : decode cX2_isWord 57 = .ok (.goto 4, 3) := by decide +kernel
theorem dX2_isWord_60 : decode cX2_isWord 60 = .ok (.iconst 0, 1) := by decide +kernel
theorem dX2_isWord_61 : decode cX2_isWord 61 = .ok (.ireturn, 1) := by decide +kernel
theorem dX3_init_0 : decode cX3_init 0 = .ok (.aload_n 0, 1) := by decide +kernel
theorem dX3_init_1 : decode cX3_init 1 = .ok (.invokespecial 1, 3) := by decide +kernel
theorem dX3_init_4 : decode cX3_init 4 = .ok (.aload_n 0, 1) := by decide +kernel
theorem dX3_init_5 : decode cX3_init 5 = .ok (.getstatic 7, 3) := by decide +kernel
theorem dX3_init_8 : decode cX3_init 8 = .ok (.arraylength, 1) := by decide +kernel
theorem dX3_init_9 : decode cX3_init 9 = .ok (.newarray .int, 2) := by decide +kernel
theorem dX3_init_11 : decode cX3_init 11 = .ok (.putfield 13, 3) := by decide +kernel
theorem dX3_init_14 : decode cX3_init 14 = .ok (.getstatic 7, 3) := by decide +kernel
theorem dX3_init_17 : decode cX3_init 17 = .ok (.iconst 0, 1) := by decide +kernel
theorem dX3_init_18 : decode cX3_init 18 = .ok (.aload_n 0, 1) := by decide +kernel
theorem dX3_init_19 : decode cX3_init 19 = .ok (.getfield 13, 3) := by decide +kernel
theorem dX3_init_22 : decode cX3_init 22 = .ok (.iconst 0, 1) := by decide +kernel
theorem dX3_init_23 : decode cX3_init 23 = .ok (.aload_n 0, 1) := by decide +kernel
theorem dX3_init_24 : decode cX3_init 24 = .ok (.getfield 13, 3) := by decide +kernel
theorem dX3_init_27 : decode cX3_init 27 = .ok (.arraylength, 1) := by decide +kernel
theorem dX3_init_28 : decode cX3_init 28 = .ok (.invokestatic 18, 3) := by decide +kernel
theorem dX3_init_31 : decode cX3_init 31 = .ok (.return_, 1) := by decide +kernel
theorem dX3_become_0 : decode cX3_become 0 = .ok (.aload_n 1, 1) := by decide +kernel
theorem dX3_become_1 : decode cX3_become 1 = .ok (.getfield 13, 3) := by decide +kernel
theorem dX3_become_4 : decode cX3_become 4 = .ok (.iconst 0, 1) := by decide +kernel
theorem dX3_become_5 : decode cX3_become 5 = .ok (.aload_n 0, 1) := by decide +kernel
theorem dX3_become_6 : decode cX3_become 6 = .ok (.getfield 13, 3) := by decide +kernel
theorem dX3_become_9 : decode cX3_become 9 = .ok (.iconst 0, 1) := by decide +kernel
theorem dX3_become_10 : decode cX3_become 10 = .ok (.aload_n 0, 1) := by decide +kernel
theorem dX3_become_11 : decode cX3_become 11 = .ok (.getfield 13, 3) := by decide +kernel
theorem dX3_become_14 : decode cX3_become 14 = .ok (.arraylength, 1) := by decide +kernel
theorem dX3_become_15 : decode cX3_become 15 = .ok (.invokestatic 18, 3) := by decide +kernel
theorem dX3_become_18 : decode cX3_become 18 = .ok (.return_, 1) := by decide +kernel
theorem dX3_at_0 : decode cX3_at 0 = .ok (.iload_n 1, 1) := by decide +kernel
theorem dX3_at_1 : decode cX3_at 1 = .ok (.ifCond .lt 21, 3) := by decide +kernel
theorem dX3_at_4 : decode cX3_at 4 = .ok (.iload_n 1, 1) := by decide +kernel
theorem dX3_at_5 : decode cX3_at 5 = .ok (.aload_n 0, 1) := by decide +kernel
theorem dX3_at_6 : decode cX3_at 6 = .ok (.getfield 13, 3) := by decide +kernel
theorem dX3_at_9 : decode cX3_at 9 = .ok (.arraylength, 1) := by decide +kernel
theorem dX3_at_10 : decode cX3_at 10 = .ok (.if_icmp .ge 12, 3) := by decide +kernel
theorem dX3_at_13 : decode cX3_at 13 = .ok (.aload_n 0, 1) := by decide +kernel
theorem dX3_at_14 : decode cX3_at 14 = .ok (.getfield 13, 3) := by decide +kernel
theorem dX3_at_17 : decode cX3_at 17 = .ok (.iload_n 1, 1) := by decide +kernel
theorem dX3_at_18 : decode cX3_at 18 = .ok (.iaload, 1) := by decide +kernel
theorem dX3_at_19 : decode cX3_at 19 = .ok (.goto 4, 3) := by decide +kernel
theorem dX3_at_22 : decode cX3_at 22 = .ok (.iconst 0, 1) := by decide +kernel
theorem dX3_at_23 : decode cX3_at 23 = .ok (.ireturn, 1) := by decide +kernel
theorem dX3_takes_0 : decode cX3_takes 0 = .ok (.iload_n 1, 1) := by decide +kernel
theorem dX3_takes_1 : decode cX3_takes 1 = .ok (.ifCond .lt 19, 3) := by decide +kernel
theorem dX3_takes_4 : decode cX3_takes 4 = .ok (.iload_n 1, 1) := by decide +kernel
theorem dX3_takes_5 : decode cX3_takes 5 = .ok (.getstatic 24, 3) := by decide +kernel
theorem dX3_takes_8 : decode cX3_takes 8 = .ok (.arraylength, 1) := by decide +kernel
theorem dX3_takes_9 : decode cX3_takes 9 = .ok (.if_icmp .ge 11, 3) := by decide +kernel
theorem dX3_takes_12 : decode cX3_takes 12 = .ok (.iload_n 1, 1) := by decide +kernel
theorem dX3_takes_13 : decode cX3_takes 13 = .ok (.getstatic 27, 3) := by decide +kernel
theorem dX3_takes_16 : decode cX3_takes 16 = .ok (.arraylength, 1) := by decide +kernel
theorem dX3_takes_17 : decode cX3_takes 17 = .ok (.if_icmp .lt 5, 3) := by decide +kernel
theorem dX3_takes_20 : decode cX3_takes 20 = .ok (.iconst 0, 1) := by decide +kernel
theorem dX3_takes_21 : decode cX3_takes 21 = .ok (.ireturn, 1) := by decide +kernel
theorem dX3_takes_22 : decode cX3_takes 22 = .ok (.iload_n 2, 1) := by decide +kernel
theorem dX3_takes_23 : decode cX3_takes 23 = .ok (.getstatic 24, 3) := by decide +kernel
theorem dX3_takes_26 : decode cX3_takes 26 = .ok (.iload_n 1, 1) := by decide +kernel
theorem dX3_takes_27 : decode cX3_takes 27 = .ok (.iaload, 1) := by decide +kernel
theorem dX3_takes_28 : decode cX3_takes 28 = .ok (.if_icmp .lt 16, 3) := by decide +kernel
theorem dX3_takes_31 : decode cX3_takes 31 = .ok (.iload_n 2, 1) := by decide +kernel
theorem dX3_takes_32 : decode cX3_takes 32 = .ok (.getstatic 27, 3) := by decide +kernel
theorem dX3_takes_35 : decode cX3_takes 35 = .ok (.iload_n 1, 1) := by decide +kernel
theorem dX3_takes_36 : decode cX3_takes 36 = .ok (.iaload, 1) := by decide +kernel
theorem dX3_takes_37 : decode cX3_takes 37 = .ok (.if_icmp .gt 7, 3) := by decide +kernel
theorem dX3_takes_40 : decode cX3_takes 40 = .ok (.iconst 1, 1) := by decide +kernel
theorem dX3_takes_41 : decode cX3_takes 41 = .ok (.goto 4, 3) := by decide +kernel
theorem dX3_takes_44 : decode cX3_takes 44 = .ok (.iconst 0, 1) := by decide +kernel
theorem dX3_takes_45 : decode cX3_takes 45 = .ok (.ireturn, 1) := by decide +kernel
theorem dX3_put_0 : decode cX3_put 0 = .ok (.iload_n 1, 1) := by decide +kernel
theorem dX3_put_1 : decode cX3_put 1 = .ok (.ifCond .lt 19, 3) := by decide +kernel
theorem dX3_put_4 : decode cX3_put 4 = .ok (.iload_n 1, 1) := by decide +kernel
theorem dX3_put_5 : decode cX3_put 5 = .ok (.aload_n 0, 1) := by decide +kernel
theorem dX3_put_6 : decode cX3_put 6 = .ok (.getfield 13, 3) := by decide +kernel
theorem dX3_put_9 : decode cX3_put 9 = .ok (.arraylength, 1) := by decide +kernel
theorem dX3_put_10 : decode cX3_put 10 = .ok (.if_icmp .ge 10, 3) := by decide +kernel
theorem dX3_put_13 : decode cX3_put 13 = .ok (.aload_n 0, 1) := by decide +kernel
theorem dX3_put_14 : decode cX3_put 14 = .ok (.getfield 13, 3) := by decide +kernel
theorem dX3_put_17 : decode cX3_put 17 = .ok (.iload_n 1, 1) := by decide +kernel
theorem dX3_put_18 : decode cX3_put 18 = .ok (.iload_n 2, 1) := by decide +kernel
theorem dX3_put_19 : decode cX3_put 19 = .ok (.iastore, 1) := by decide +kernel
theorem dX3_put_20 : decode cX3_put 20 = .ok (.return_, 1) := by decide +kernel
theorem dX4_init_0 : decode cX4_init 0 = .ok (.aload_n 0, 1) := by decide +kernel
theorem dX4_init_1 : decode cX4_init 1 = .ok (.invokespecial 3, 3) := by decide +kernel
theorem dX4_init_4 : decode cX4_init 4 = .ok (.aload_n 0, 1) := by decide +kernel
theorem dX4_init_5 : decode cX4_init 5 = .ok (.bipush 20, 2) := by decide +kernel
theorem dX4_init_7 : decode cX4_init 7 = .ok (.newarray .int, 2) := by decide +kernel
theorem dX4_init_9 : decode cX4_init 9 = .ok (.putfield 9, 3) := by decide +kernel
theorem dX4_init_12 : decode cX4_init 12 = .ok (.return_, 1) := by decide +kernel
theorem dX4_become_0 : decode cX4_become 0 = .ok (.aload_n 0, 1) := by decide +kernel
theorem dX4_become_1 : decode cX4_become 1 = .ok (.aload_n 1, 1) := by decide +kernel
theorem dX4_become_2 : decode cX4_become 2 = .ok (.getfield 15, 3) := by decide +kernel
theorem dX4_become_5 : decode cX4_become 5 = .ok (.putfield 15, 3) := by decide +kernel
theorem dX4_become_8 : decode cX4_become 8 = .ok (.aload_n 1, 1) := by decide +kernel
theorem dX4_become_9 : decode cX4_become 9 = .ok (.getfield 9, 3) := by decide +kernel
theorem dX4_become_12 : decode cX4_become 12 = .ok (.iconst 0, 1) := by decide +kernel
theorem dX4_become_13 : decode cX4_become 13 = .ok (.aload_n 0, 1) := by decide +kernel
theorem dX4_become_14 : decode cX4_become 14 = .ok (.getfield 9, 3) := by decide +kernel
theorem dX4_become_17 : decode cX4_become 17 = .ok (.iconst 0, 1) := by decide +kernel
theorem dX4_become_18 : decode cX4_become 18 = .ok (.bipush 20, 2) := by decide +kernel
theorem dX4_become_20 : decode cX4_become 20 = .ok (.invokestatic 19, 3) := by decide +kernel
theorem dX4_become_23 : decode cX4_become 23 = .ok (.return_, 1) := by decide +kernel
theorem dX4_size_0 : decode cX4_size 0 = .ok (.aload_n 0, 1) := by decide +kernel
theorem dX4_size_1 : decode cX4_size 1 = .ok (.getfield 15, 3) := by decide +kernel
theorem dX4_size_4 : decode cX4_size 4 = .ok (.ireturn, 1) := by decide +kernel
theorem dX4_at_0 : decode cX4_at 0 = .ok (.iload_n 1, 1) := by decide +kernel
theorem dX4_at_1 : decode cX4_at 1 = .ok (.ifCond .lt 20, 3) := by decide +kernel
theorem dX4_at_4 : decode cX4_at 4 = .ok (.iload_n 1, 1) := by decide +kernel
theorem dX4_at_5 : decode cX4_at 5 = .ok (.aload_n 0, 1) := by decide +kernel
theorem dX4_at_6 : decode cX4_at 6 = .ok (.getfield 15, 3) := by decide +kernel
theorem dX4_at_9 : decode cX4_at 9 = .ok (.if_icmp .ge 12, 3) := by decide +kernel
theorem dX4_at_12 : decode cX4_at 12 = .ok (.aload_n 0, 1) := by decide +kernel
theorem dX4_at_13 : decode cX4_at 13 = .ok (.getfield 9, 3) := by decide +kernel
theorem dX4_at_16 : decode cX4_at 16 = .ok (.iload_n 1, 1) := by decide +kernel
theorem dX4_at_17 : decode cX4_at 17 = .ok (.iaload, 1) := by decide +kernel
theorem dX4_at_18 : decode cX4_at 18 = .ok (.goto 5, 3) := by decide +kernel
theorem dX4_at_21 : decode cX4_at 21 = .ok (.bipush (-9), 2) := by decide +kernel
theorem dX4_at_23 : decode cX4_at 23 = .ok (.ireturn, 1) := by decide +kernel
theorem dX4_has_0 : decode cX4_has 0 = .ok (.aload_n 0, 1) := by decide +kernel
theorem dX4_has_1 : decode cX4_has 1 = .ok (.iload_n 1, 1) := by decide +kernel
theorem dX4_has_2 : decode cX4_has 2 = .ok (.iconst 0, 1) := by decide +kernel
theorem dX4_has_3 : decode cX4_has 3 = .ok (.invokevirtual 25, 3) := by decide +kernel
theorem dX4_has_6 : decode cX4_has 6 = .ok (.bipush (-9), 2) := by decide +kernel
theorem dX4_has_8 : decode cX4_has 8 = .ok (.if_icmp .eq 7, 3) := by decide +kernel
theorem dX4_has_11 : decode cX4_has 11 = .ok (.iconst 1, 1) := by decide +kernel
theorem dX4_has_12 : decode cX4_has 12 = .ok (.goto 4, 3) := by decide +kernel
theorem dX4_has_15 : decode cX4_has 15 = .ok (.iconst 0, 1) := by decide +kernel
theorem dX4_has_16 : decode cX4_has 16 = .ok (.ireturn, 1) := by decide +kernel
theorem dX4_nearest_0 : decode cX4_nearest 0 = .ok (.bipush (-9), 2) := by decide +kernel
theorem dX4_nearest_2 : decode cX4_nearest 2 = .ok (.istore_n 3, 1) := by decide +kernel
theorem dX4_nearest_3 : decode cX4_nearest 3 = .ok (.iload_n 2, 1) := by decide +kernel
theorem dX4_nearest_4 : decode cX4_nearest 4 = .ok (.iconst 1, 1) := by decide +kernel
theorem dX4_nearest_5 : decode cX4_nearest 5 = .ok (.iadd, 1) := by decide +kernel
theorem dX4_nearest_6 : decode cX4_nearest 6 = .ok (.istore 4, 2) := by decide +kernel
theorem dX4_nearest_8 : decode cX4_nearest 8 = .ok (.iconst 0, 1) := by decide +kernel
theorem dX4_nearest_9 : decode cX4_nearest 9 = .ok (.istore 5, 2) := by decide +kernel
theorem dX4_nearest_11 : decode cX4_nearest 11 = .ok (.iload 5, 2) := by decide +kernel
theorem dX4_nearest_13 : decode cX4_nearest 13 = .ok (.aload_n 0, 1) := by decide +kernel
theorem dX4_nearest_14 : decode cX4_nearest 14 = .ok (.getfield 15, 3) := by decide +kernel
theorem dX4_nearest_17 : decode cX4_nearest 17 = .ok (.if_icmp .ge 42, 3) := by decide +kernel
theorem dX4_nearest_20 : decode cX4_nearest 20 = .ok (.aload_n 0, 1) := by decide +kernel
theorem dX4_nearest_21 : decode cX4_nearest 21 = .ok (.getfield 9, 3) := by decide +kernel
theorem dX4_nearest_24 : decode cX4_nearest 24 = .ok (.iload 5, 2) := by decide +kernel
theorem dX4_nearest_26 : decode cX4_nearest 26 = .ok (.iaload, 1) := by decide +kernel
theorem dX4_nearest_27 : decode cX4_nearest 27 = .ok (.iload_n 1, 1) := by decide +kernel
theorem dX4_nearest_28 : decode cX4_nearest 28 = .ok (.isub, 1) := by decide +kernel
theorem dX4_nearest_29 : decode cX4_nearest 29 = .ok (.invokestatic 29, 3) := by decide +kernel
theorem dX4_nearest_32 : decode cX4_nearest 32 = .ok (.istore 6, 2) := by decide +kernel
theorem dX4_nearest_34 : decode cX4_nearest 34 = .ok (.iload 6, 2) := by decide +kernel
theorem dX4_nearest_36 : decode cX4_nearest 36 = .ok (.iload 4, 2) := by decide +kernel
theorem dX4_nearest_38 : decode cX4_nearest 38 = .ok (.if_icmp .ge 15, 3) := by decide +kernel
theorem dX4_nearest_41 : decode cX4_nearest 41 = .ok (.aload_n 0, 1) := by decide +kernel
theorem dX4_nearest_42 : decode cX4_nearest 42 = .ok (.getfield 9, 3) := by decide +kernel
theorem dX4_nearest_45 : decode cX4_nearest 45 = .ok (.iload 5, 2) := by decide +kernel
theorem dX4_nearest_47 : decode cX4_nearest 47 = .ok (.iaload, 1) := by decide +kernel
theorem dX4_nearest_48 : decode cX4_nearest 48 = .ok (.istore_n 3, 1) := by decide +kernel
theorem dX4_nearest_49 : decode cX4_nearest 49 = .ok (.iload 6, 2) := by decide +kernel
theorem dX4_nearest_51 : decode cX4_nearest 51 = .ok (.istore 4, 2) := by decide +kernel
theorem dX4_nearest_53 : decode cX4_nearest 53 = .ok (.iinc 5 1, 3) := by decide +kernel
theorem dX4_nearest_56 : decode cX4_nearest 56 = .ok (.goto (-45), 3) := by decide +kernel
theorem dX4_nearest_59 : decode cX4_nearest 59 = .ok (.iload_n 3, 1) := by decide +kernel
theorem dX4_nearest_60 : decode cX4_nearest 60 = .ok (.ireturn, 1) := by decide +kernel
theorem dX4_isMissed_0 : decode cX4_isMissed 0 = .ok (.aload_n 0, 1) := by decide +kernel
theorem dX4_isMissed_1 : decode cX4_isMissed 1 = .ok (.iload_n 1, 1) := by decide +kernel
theorem dX4_isMissed_2 : decode cX4_isMissed 2 = .ok (.iload_n 2, 1) := by decide +kernel
theorem dX4_isMissed_3 : decode cX4_isMissed 3 = .ok (.invokevirtual 25, 3) := by decide +kernel
theorem dX4_isMissed_6 : decode cX4_isMissed 6 = .ok (.istore_n 3, 1) := by decide +kernel
theorem dX4_isMissed_7 : decode cX4_isMissed 7 = .ok (.iload_n 3, 1) := by decide +kernel
theorem dX4_isMissed_8 : decode cX4_isMissed 8 = .ok (.bipush (-9), 2) := by decide +kernel
theorem dX4_isMissed_10 : decode cX4_isMissed 10 = .ok (.if_icmp .eq 12, 3) := by decide +kernel
theorem dX4_isMissed_13 : decode cX4_isMissed 13 = .ok (.iload_n 3, 1) := by decide +kernel
theorem dX4_isMissed_14 : decode cX4_isMissed 14 = .ok (.iload_n 1, 1) := by decide +kernel
theorem dX4_isMissed_15 : decode cX4_isMissed 15 = .ok (.if_icmp .eq 7, 3) := by decide +kernel
theorem dX4_isMissed_18 : decode cX4_isMissed 18 = .ok (.iconst 1, 1) := by decide +kernel
theorem dX4_isMissed_19 : decode cX4_isMissed 19 = .ok (.goto 4, 3) := by decide +kernel
theorem dX4_isMissed_22 : decode cX4_isMissed 22 = .ok (.iconst 0, 1) := by decide +kernel
theorem dX4_isMissed_23 : decode cX4_isMissed 23 = .ok (.ireturn, 1) := by decide +kernel
theorem dX4_insert_0 : decode cX4_insert 0 = .ok (.aload_n 0, 1) := by decide +kernel
theorem dX4_insert_1 : decode cX4_insert 1 = .ok (.getfield 15, 3) := by decide +kernel
theorem dX4_insert_4 : decode cX4_insert 4 = .ok (.bipush 20, 2) := by decide +kernel
theorem dX4_insert_6 : decode cX4_insert 6 = .ok (.if_icmp .ge 11, 3) := by decide +kernel
theorem dX4_insert_9 : decode cX4_insert 9 = .ok (.aload_n 0, 1) := by decide +kernel
theorem dX4_insert_10 : decode cX4_insert 10 = .ok (.iload_n 1, 1) := by decide +kernel
theorem dX4_insert_11 : decode cX4_insert 11 = .ok (.invokevirtual 35, 3) := by decide +kernel
theorem dX4_insert_14 : decode cX4_insert 14 = .ok (.ifCond .eq 4, 3) := by decide +kernel
theorem dX4_insert_17 : decode cX4_insert 17 = .ok (.return_, 1) := by decide +kernel
theorem dX4_insert_18 : decode cX4_insert 18 = .ok (.aload_n 0, 1) := by decide +kernel
theorem dX4_insert_19 : decode cX4_insert 19 = .ok (.getfield 15, 3) := by decide +kernel
theorem dX4_insert_22 : decode cX4_insert 22 = .ok (.istore_n 2, 1) := by decide +kernel
theorem dX4_insert_23 : decode cX4_insert 23 = .ok (.iload_n 2, 1) := by decide +kernel
theorem dX4_insert_24 : decode cX4_insert 24 = .ok (.ifCond .le 35, 3) := by decide +kernel
theorem dX4_insert_27 : decode cX4_insert 27 = .ok (.aload_n 0, 1) := by decide +kernel
theorem dX4_insert_28 : decode cX4_insert 28 = .ok (.getfield 9, 3) := by decide +kernel
theorem dX4_insert_31 : decode cX4_insert 31 = .ok (.iload_n 2, 1) := by decide +kernel
theorem dX4_insert_32 : decode cX4_insert 32 = .ok (.iconst 1, 1) := by decide +kernel
theorem dX4_insert_33 : decode cX4_insert 33 = .ok (.isub, 1) := by decide +kernel
theorem dX4_insert_34 : decode cX4_insert 34 = .ok (.iaload, 1) := by decide +kernel
theorem dX4_insert_35 : decode cX4_insert 35 = .ok (.iload_n 1, 1) := by decide +kernel
theorem dX4_insert_36 : decode cX4_insert 36 = .ok (.if_icmp .le 23, 3) := by decide +kernel
theorem dX4_insert_39 : decode cX4_insert 39 = .ok (.aload_n 0, 1) := by decide +kernel
theorem dX4_insert_40 : decode cX4_insert 40 = .ok (.getfield 9, 3) := by decide +kernel
theorem dX4_insert_43 : decode cX4_insert 43 = .ok (.iload_n 2, 1) := by decide +kernel
theorem dX4_insert_44 : decode cX4_insert 44 = .ok (.aload_n 0, 1) := by decide +kernel
theorem dX4_insert_45 : decode cX4_insert 45 = .ok (.getfield 9, 3) := by decide +kernel
theorem dX4_insert_48 : decode cX4_insert 48 = .ok (.iload_n 2, 1) := by decide +kernel
theorem dX4_insert_49 : decode cX4_insert 49 = .ok (.iconst 1, 1) := by decide +kernel
theorem dX4_insert_50 : decode cX4_insert 50 = .ok (.isub, 1) := by decide +kernel
theorem dX4_insert_51 : decode cX4_insert 51 = .ok (.iaload, 1) := by decide +kernel
theorem dX4_insert_52 : decode cX4_insert 52 = .ok (.iastore, 1) := by decide +kernel
theorem dX4_insert_53 : decode cX4_insert 53 = .ok (.iinc 2 (-1), 3) := by decide +kernel
theorem dX4_insert_56 : decode cX4_insert 56 = .ok (.goto (-33), 3) := by decide +kernel
theorem dX4_insert_59 : decode cX4_insert 59 = .ok (.aload_n 0, 1) := by decide +kernel
theorem dX4_insert_60 : decode cX4_insert 60 = .ok (.getfield 9, 3) := by decide +kernel
theorem dX4_insert_63 : decode cX4_insert 63 = .ok (.iload_n 2, 1) := by decide +kernel
theorem dX4_insert_64 : decode cX4_insert 64 = .ok (.iload_n 1, 1) := by decide +kernel
theorem dX4_insert_65 : decode cX4_insert 65 = .ok (.iastore, 1) := by decide +kernel
theorem dX4_insert_66 : decode cX4_insert 66 = .ok (.aload_n 0, 1) := by decide +kernel
theorem dX4_insert_67 : decode cX4_insert 67 = .ok (.dup, 1) := by decide +kernel
theorem dX4_insert_68 : decode cX4_insert 68 = .ok (.getfield 15, 3) := by decide +kernel
theorem dX4_insert_71 : decode cX4_insert 71 = .ok (.iconst 1, 1) := by decide +kernel
theorem dX4_insert_72 : decode cX4_insert 72 = .ok (.iadd, 1) := by decide +kernel
theorem dX4_insert_73 : decode cX4_insert 73 = .ok (.putfield 15, 3) := by decide +kernel
theorem dX4_insert_76 : decode cX4_insert 76 = .ok (.return_, 1) := by decide +kernel
theorem dX4_remove_0 : decode cX4_remove 0 = .ok (.iconst 0, 1) := by decide +kernel
theorem dX4_remove_1 : decode cX4_remove 1 = .ok (.istore_n 2, 1) := by decide +kernel
theorem dX4_remove_2 : decode cX4_remove 2 = .ok (.iconst 0, 1) := by decide +kernel
theorem dX4_remove_3 : decode cX4_remove 3 = .ok (.istore_n 3, 1) := by decide +kernel
theorem dX4_remove_4 : decode cX4_remove 4 = .ok (.iload_n 3, 1) := by decide +kernel
theorem dX4_remove_5 : decode cX4_remove 5 = .ok (.aload_n 0, 1) := by decide +kernel
theorem dX4_remove_6 : decode cX4_remove 6 = .ok (.getfield 15, 3) := by decide +kernel
theorem dX4_remove_9 : decode cX4_remove 9 = .ok (.if_icmp .ge 34, 3) := by decide +kernel
theorem dX4_remove_12 : decode cX4_remove 12 = .ok (.aload_n 0, 1) := by decide +kernel
theorem dX4_remove_13 : decode cX4_remove 13 = .ok (.getfield 9, 3) := by decide +kernel
theorem dX4_remove_16 : decode cX4_remove 16 = .ok (.iload_n 2, 1) := by decide +kernel
theorem dX4_remove_17 : decode cX4_remove 17 = .ok (.aload_n 0, 1) := by decide +kernel
theorem dX4_remove_18 : decode cX4_remove 18 = .ok (.getfield 9, 3) := by decide +kernel
theorem dX4_remove_21 : decode cX4_remove 21 = .ok (.iload_n 3, 1) := by decide +kernel
theorem dX4_remove_22 : decode cX4_remove 22 = .ok (.iaload, 1) := by decide +kernel
theorem dX4_remove_23 : decode cX4_remove 23 = .ok (.iastore, 1) := by decide +kernel
theorem dX4_remove_24 : decode cX4_remove 24 = .ok (.aload_n 0, 1) := by decide +kernel
theorem dX4_remove_25 : decode cX4_remove 25 = .ok (.getfield 9, 3) := by decide +kernel
theorem dX4_remove_28 : decode cX4_remove 28 = .ok (.iload_n 3, 1) := by decide +kernel
theorem dX4_remove_29 : decode cX4_remove 29 = .ok (.iaload, 1) := by decide +kernel
theorem dX4_remove_30 : decode cX4_remove 30 = .ok (.iload_n 1, 1) := by decide +kernel
theorem dX4_remove_31 : decode cX4_remove 31 = .ok (.if_icmp .eq 6, 3) := by decide +kernel
theorem dX4_remove_34 : decode cX4_remove 34 = .ok (.iinc 2 1, 3) := by decide +kernel
theorem dX4_remove_37 : decode cX4_remove 37 = .ok (.iinc 3 1, 3) := by decide +kernel
theorem dX4_remove_40 : decode cX4_remove 40 = .ok (.goto (-36), 3) := by decide +kernel
theorem dX4_remove_43 : decode cX4_remove 43 = .ok (.aload_n 0, 1) := by decide +kernel
theorem dX4_remove_44 : decode cX4_remove 44 = .ok (.iload_n 2, 1) := by decide +kernel
theorem dX4_remove_45 : decode cX4_remove 45 = .ok (.putfield 15, 3) := by decide +kernel
theorem dX4_remove_48 : decode cX4_remove 48 = .ok (.return_, 1) := by decide +kernel
theorem dX5_init_0 : decode cX5_init 0 = .ok (.aload_n 0, 1) := by decide +kernel
theorem dX5_init_1 : decode cX5_init 1 = .ok (.invokespecial 3, 3) := by decide +kernel
theorem dX5_init_4 : decode cX5_init 4 = .ok (.aload_n 0, 1) := by decide +kernel
theorem dX5_init_5 : decode cX5_init 5 = .ok (.new 9, 3) := by decide +kernel
theorem dX5_init_8 : decode cX5_init 8 = .ok (.dup, 1) := by decide +kernel
theorem dX5_init_9 : decode cX5_init 9 = .ok (.invokespecial 11, 3) := by decide +kernel
theorem dX5_init_12 : decode cX5_init 12 = .ok (.putfield 12, 3) := by decide +kernel
theorem dX5_init_15 : decode cX5_init 15 = .ok (.aload_n 0, 1) := by decide +kernel
theorem dX5_init_16 : decode cX5_init 16 = .ok (.new 18, 3) := by decide +kernel
theorem dX5_init_19 : decode cX5_init 19 = .ok (.dup, 1) := by decide +kernel
theorem dX5_init_20 : decode cX5_init 20 = .ok (.invokespecial 20, 3) := by decide +kernel
theorem dX5_init_23 : decode cX5_init 23 = .ok (.putfield 21, 3) := by decide +kernel
theorem dX5_init_26 : decode cX5_init 26 = .ok (.aload_n 0, 1) := by decide +kernel
theorem dX5_init_27 : decode cX5_init 27 = .ok (.new 25, 3) := by decide +kernel
theorem dX5_init_30 : decode cX5_init 30 = .ok (.dup, 1) := by decide +kernel
theorem dX5_init_31 : decode cX5_init 31 = .ok (.invokespecial 27, 3) := by decide +kernel
theorem dX5_init_34 : decode cX5_init 34 = .ok (.putfield 28, 3) := by decide +kernel
theorem dX5_init_37 : decode cX5_init 37 = .ok (.aload_n 0, 1) := by decide +kernel
theorem dX5_init_38 : decode cX5_init 38 = .ok (.new 32, 3) := by decide +kernel
theorem dX5_init_41 : decode cX5_init 41 = .ok (.dup, 1) := by decide +kernel
theorem dX5_init_42 : decode cX5_init 42 = .ok (.aload_n 1, 1) := by decide +kernel
theorem dX5_init_43 : decode cX5_init 43 = .ok (.invokespecial 34, 3) := by decide +kernel
theorem dX5_init_46 : decode cX5_init 46 = .ok (.putfield 37, 3) := by decide +kernel
theorem dX5_init_49 : decode cX5_init 49 = .ok (.return_, 1) := by decide +kernel
theorem dX5_become_0 : decode cX5_become 0 = .ok (.aload_n 0, 1) := by decide +kernel
theorem dX5_become_1 : decode cX5_become 1 = .ok (.getfield 12, 3) := by decide +kernel
theorem dX5_become_4 : decode cX5_become 4 = .ok (.aload_n 1, 1) := by decide +kernel
theorem dX5_become_5 : decode cX5_become 5 = .ok (.getfield 12, 3) := by decide +kernel
theorem dX5_become_8 : decode cX5_become 8 = .ok (.invokevirtual 41, 3) := by decide +kernel
theorem dX5_become_11 : decode cX5_become 11 = .ok (.aload_n 0, 1) := by decide +kernel
theorem dX5_become_12 : decode cX5_become 12 = .ok (.getfield 21, 3) := by decide +kernel
theorem dX5_become_15 : decode cX5_become 15 = .ok (.aload_n 1, 1) := by decide +kernel
theorem dX5_become_16 : decode cX5_become 16 = .ok (.getfield 21, 3) := by decide +kernel
theorem dX5_become_19 : decode cX5_become 19 = .ok (.invokevirtual 45, 3) := by decide +kernel
theorem dX5_become_22 : decode cX5_become 22 = .ok (.aload_n 0, 1) := by decide +kernel
theorem dX5_become_23 : decode cX5_become 23 = .ok (.getfield 28, 3) := by decide +kernel
theorem dX5_become_26 : decode cX5_become 26 = .ok (.aload_n 1, 1) := by decide +kernel
theorem dX5_become_27 : decode cX5_become 27 = .ok (.getfield 28, 3) := by decide +kernel
theorem dX5_become_30 : decode cX5_become 30 = .ok (.invokevirtual 48, 3) := by decide +kernel
theorem dX5_become_33 : decode cX5_become 33 = .ok (.aload_n 0, 1) := by decide +kernel
theorem dX5_become_34 : decode cX5_become 34 = .ok (.getfield 37, 3) := by decide +kernel
theorem dX5_become_37 : decode cX5_become 37 = .ok (.aload_n 1, 1) := by decide +kernel
theorem dX5_become_38 : decode cX5_become 38 = .ok (.getfield 37, 3) := by decide +kernel
theorem dX5_become_41 : decode cX5_become 41 = .ok (.invokevirtual 51, 3) := by decide +kernel
theorem dX5_become_44 : decode cX5_become 44 = .ok (.return_, 1) := by decide +kernel
theorem dX5_readingLength_0 : decode cX5_readingLength 0 = .ok (.aload_n 0, 1) := by decide +kernel
theorem dX5_readingLength_1 : decode cX5_readingLength 1 = .ok (.getfield 28, 3) := by decide +kernel
theorem dX5_readingLength_4 : decode cX5_readingLength 4 = .ok (.iconst 0, 1) := by decide +kernel
theorem dX5_readingLength_5 : decode cX5_readingLength 5 = .ok (.invokevirtual 54, 3) := by decide +kernel
theorem dX5_readingLength_8 : decode cX5_readingLength 8 = .ok (.aload_n 1, 1) := by decide +kernel
theorem dX5_readingLength_9 : decode cX5_readingLength 9 = .ok (.invokevirtual 58, 3) := by decide +kernel
theorem dX5_readingLength_12 : decode cX5_readingLength 12 = .ok (.imul, 1) := by decide +kernel
theorem dX5_readingLength_13 : decode cX5_readingLength 13 = .ok (.istore_n 2, 1) := by decide +kernel
theorem dX5_readingLength_14 : decode cX5_readingLength 14 = .ok (.aload_n 0, 1) := by decide +kernel
theorem dX5_readingLength_15 : decode cX5_readingLength 15 = .ok (.getfield 28, 3) := by decide +kernel
theorem dX5_readingLength_18 : decode cX5_readingLength 18 = .ok (.iconst 1, 1) := by decide +kernel
theorem dX5_readingLength_19 : decode cX5_readingLength 19 = .ok (.invokevirtual 54, 3) := by decide +kernel
theorem dX5_readingLength_22 : decode cX5_readingLength 22 = .ok (.iload_n 2, 1) := by decide +kernel
theorem dX5_readingLength_23 : decode cX5_readingLength 23 = .ok (.invokestatic 64, 3) := by decide +kernel
theorem dX5_readingLength_26 : decode cX5_readingLength 26 = .ok (.ireturn, 1) := by decide +kernel
theorem dX5_latestEnd_0 : decode cX5_latestEnd 0 = .ok (.aload_n 0, 1) := by decide +kernel
theorem dX5_latestEnd_1 : decode cX5_latestEnd 1 = .ok (.getfield 37, 3) := by decide +kernel
theorem dX5_latestEnd_4 : decode cX5_latestEnd 4 = .ok (.iload_n 1, 1) := by decide +kernel
theorem dX5_latestEnd_5 : decode cX5_latestEnd 5 = .ok (.invokevirtual 70, 3) := by decide +kernel
theorem dX5_latestEnd_8 : decode cX5_latestEnd 8 = .ok (.istore_n 2, 1) := by decide +kernel
theorem dX5_latestEnd_9 : decode cX5_latestEnd 9 = .ok (.iload_n 2, 1) := by decide +kernel
theorem dX5_latestEnd_10 : decode cX5_latestEnd 10 = .ok (.bipush (-9), 2) := by decide +kernel
theorem dX5_latestEnd_12 : decode cX5_latestEnd 12 = .ok (.if_icmp .ne 9, 3) := by decide +kernel
theorem dX5_latestEnd_15 : decode cX5_latestEnd 15 = .ok (.sipush 9999, 3) := by decide +kernel
theorem dX5_latestEnd_18 : decode cX5_latestEnd 18 = .ok (.goto 23, 3) := by decide +kernel
theorem dX5_latestEnd_21 : decode cX5_latestEnd 21 = .ok (.aload_n 0, 1) := by decide +kernel
theorem dX5_latestEnd_22 : decode cX5_latestEnd 22 = .ok (.getfield 37, 3) := by decide +kernel
theorem dX5_latestEnd_25 : decode cX5_latestEnd 25 = .ok (.iload_n 2, 1) := by decide +kernel
theorem dX5_latestEnd_26 : decode cX5_latestEnd 26 = .ok (.invokevirtual 73, 3) := by decide +kernel
theorem dX5_latestEnd_29 : decode cX5_latestEnd 29 = .ok (.getfield 76, 3) := by decide +kernel
theorem dX5_latestEnd_32 : decode cX5_latestEnd 32 = .ok (.aload_n 0, 1) := by decide +kernel
theorem dX5_latestEnd_33 : decode cX5_latestEnd 33 = .ok (.getfield 28, 3) := by decide +kernel
theorem dX5_latestEnd_36 : decode cX5_latestEnd 36 = .ok (.iconst 2, 1) := by decide +kernel
theorem dX5_latestEnd_37 : decode cX5_latestEnd 37 = .ok (.invokevirtual 54, 3) := by decide +kernel
theorem dX5_latestEnd_40 : decode cX5_latestEnd 40 = .ok (.isub, 1) := by decide +kernel
theorem dX5_latestEnd_41 : decode cX5_latestEnd 41 = .ok (.ireturn, 1) := by decide +kernel
theorem dX5_faultsOf_0 : decode cX5_faultsOf 0 = .ok (.aload_n 0, 1) := by decide +kernel
theorem dX5_faultsOf_1 : decode cX5_faultsOf 1 = .ok (.getfield 37, 3) := by decide +kernel
theorem dX5_faultsOf_4 : decode cX5_faultsOf 4 = .ok (.iload_n 1, 1) := by decide +kernel
theorem dX5_faultsOf_5 : decode cX5_faultsOf 5 = .ok (.invokevirtual 73, 3) := by decide +kernel
theorem dX5_faultsOf_8 : decode cX5_faultsOf 8 = .ok (.astore_n 2, 1) := by decide +kernel
theorem dX5_faultsOf_9 : decode cX5_faultsOf 9 = .ok (.aload_n 0, 1) := by decide +kernel
theorem dX5_faultsOf_10 : decode cX5_faultsOf 10 = .ok (.getfield 28, 3) := by decide +kernel
theorem dX5_faultsOf_13 : decode cX5_faultsOf 13 = .ok (.iconst 3, 1) := by decide +kernel
theorem dX5_faultsOf_14 : decode cX5_faultsOf 14 = .ok (.invokevirtual 54, 3) := by decide +kernel
theorem dX5_faultsOf_17 : decode cX5_faultsOf 17 = .ok (.istore_n 3, 1) := by decide +kernel
theorem dX5_faultsOf_18 : decode cX5_faultsOf 18 = .ok (.iconst 0, 1) := by decide +kernel
theorem dX5_faultsOf_19 : decode cX5_faultsOf 19 = .ok (.istore 4, 2) := by decide +kernel
theorem dX5_faultsOf_21 : decode cX5_faultsOf 21 = .ok (.aload_n 2, 1) := by decide +kernel
theorem dX5_faultsOf_22 : decode cX5_faultsOf 22 = .ok (.invokevirtual 80, 3) := by decide +kernel
theorem dX5_faultsOf_25 : decode cX5_faultsOf 25 = .ok (.aload_n 0, 1) := by decide +kernel
theorem dX5_faultsOf_26 : decode cX5_faultsOf 26 = .ok (.aload_n 2, 1) := by decide +kernel
theorem dX5_faultsOf_27 : decode cX5_faultsOf 27 = .ok (.invokevirtual 83, 3) := by decide +kernel
theorem dX5_faultsOf_30 : decode cX5_faultsOf 30 = .ok (.if_icmp .ge 6, 3) := by decide +kernel
theorem dX5_faultsOf_33 : decode cX5_faultsOf 33 = .ok (.iinc 4 1, 3) := by decide +kernel
theorem dX5_faultsOf_36 : decode cX5_faultsOf 36 = .ok (.aload_n 2, 1) := by decide +kernel
theorem dX5_faultsOf_37 : decode cX5_faultsOf 37 = .ok (.getfield 87, 3) := by decide +kernel
theorem dX5_faultsOf_40 : decode cX5_faultsOf 40 = .ok (.aload_n 0, 1) := by decide +kernel
theorem dX5_faultsOf_41 : decode cX5_faultsOf 41 = .ok (.iload_n 1, 1) := by decide +kernel
theorem dX5_faultsOf_42 : decode cX5_faultsOf 42 = .ok (.invokevirtual 90, 3) := by decide +kernel
theorem dX5_faultsOf_45 : decode cX5_faultsOf 45 = .ok (.if_icmp .le 6, 3) := by decide +kernel
theorem dX5_faultsOf_48 : decode cX5_faultsOf 48 = .ok (.iinc 4 2, 3) := by decide +kernel
theorem dX5_faultsOf_51 : decode cX5_faultsOf 51 = .ok (.aload_n 0, 1) := by decide +kernel
theorem dX5_faultsOf_52 : decode cX5_faultsOf 52 = .ok (.getfield 37, 3) := by decide +kernel
theorem dX5_faultsOf_55 : decode cX5_faultsOf 55 = .ok (.iload_n 1, 1) := by decide +kernel
theorem dX5_faultsOf_56 : decode cX5_faultsOf 56 = .ok (.invokevirtual 93, 3) := by decide +kernel
theorem dX5_faultsOf_59 : decode cX5_faultsOf 59 = .ok (.ifCond .eq 6, 3) := by decide +kernel
theorem dX5_faultsOf_62 : decode cX5_faultsOf 62 = .ok (.iinc 4 4, 3) := by decide +kernel
theorem dX5_faultsOf_65 : decode cX5_faultsOf 65 = .ok (.aload_n 0, 1) := by decide +kernel
theorem dX5_faultsOf_66 : decode cX5_faultsOf 66 = .ok (.getfield 21, 3) := by decide +kernel
theorem dX5_faultsOf_69 : decode cX5_faultsOf 69 = .ok (.aload_n 2, 1) := by decide +kernel
theorem dX5_faultsOf_70 : decode cX5_faultsOf 70 = .ok (.getfield 76, 3) := by decide +kernel
theorem dX5_faultsOf_73 : decode cX5_faultsOf 73 = .ok (.iload_n 3, 1) := by decide +kernel
theorem dX5_faultsOf_74 : decode cX5_faultsOf 74 = .ok (.invokevirtual 97, 3) := by decide +kernel
theorem dX5_faultsOf_77 : decode cX5_faultsOf 77 = .ok (.ifCond .ne 18, 3) := by decide +kernel
theorem dX5_faultsOf_80 : decode cX5_faultsOf 80 = .ok (.aload_n 0, 1) := by decide +kernel
theorem dX5_faultsOf_81 : decode cX5_faultsOf 81 = .ok (.getfield 21, 3) := by decide +kernel
theorem dX5_faultsOf_84 : decode cX5_faultsOf 84 = .ok (.aload_n 2, 1) := by decide +kernel
theorem dX5_faultsOf_85 : decode cX5_faultsOf 85 = .ok (.getfield 87, 3) := by decide +kernel
theorem dX5_faultsOf_88 : decode cX5_faultsOf 88 = .ok (.iload_n 3, 1) := by decide +kernel
theorem dX5_faultsOf_89 : decode cX5_faultsOf 89 = .ok (.invokevirtual 97, 3) := by decide +kernel
theorem dX5_faultsOf_92 : decode cX5_faultsOf 92 = .ok (.ifCond .eq 6, 3) := by decide +kernel
theorem dX5_faultsOf_95 : decode cX5_faultsOf 95 = .ok (.iinc 4 8, 3) := by decide +kernel
theorem dX5_faultsOf_98 : decode cX5_faultsOf 98 = .ok (.aload_n 2, 1) := by decide +kernel
theorem dX5_faultsOf_99 : decode cX5_faultsOf 99 = .ok (.aload_n 0, 1) := by decide +kernel
theorem dX5_faultsOf_100 : decode cX5_faultsOf 100 = .ok (.getfield 28, 3) := by decide +kernel
theorem dX5_faultsOf_103 : decode cX5_faultsOf 103 = .ok (.iconst 4, 1) := by decide +kernel
theorem dX5_faultsOf_104 : decode cX5_faultsOf 104 = .ok (.invokevirtual 54, 3) := by decide +kernel
theorem dX5_faultsOf_107 : decode cX5_faultsOf 107 = .ok (.invokevirtual 101, 3) := by decide +kernel
theorem dX5_faultsOf_110 : decode cX5_faultsOf 110 = .ok (.ifCond .eq 6, 3) := by decide +kernel
theorem dX5_faultsOf_113 : decode cX5_faultsOf 113 = .ok (.iinc 4 16, 3) := by decide +kernel
theorem dX5_faultsOf_116 : decode cX5_faultsOf 116 = .ok (.aload_n 2, 1) := by decide +kernel
theorem dX5_faultsOf_117 : decode cX5_faultsOf 117 = .ok (.getfield 87, 3) := by decide +kernel
theorem dX5_faultsOf_120 : decode cX5_faultsOf 120 = .ok (.aload_n 0, 1) := by decide +kernel
theorem dX5_faultsOf_121 : decode cX5_faultsOf 121 = .ok (.getfield 12, 3) := by decide +kernel
theorem dX5_faultsOf_124 : decode cX5_faultsOf 124 = .ok (.invokevirtual 104, 3) := by decide +kernel
theorem dX5_faultsOf_127 : decode cX5_faultsOf 127 = .ok (.if_icmp .le 6, 3) := by decide +kernel
theorem dX5_faultsOf_130 : decode cX5_faultsOf 130 = .ok (.iinc 4 32, 3) := by decide +kernel
theorem dX5_faultsOf_133 : decode cX5_faultsOf 133 = .ok (.iload 4, 2) := by decide +kernel
theorem dX5_faultsOf_135 : decode cX5_faultsOf 135 = .ok (.ireturn, 1) := by decide +kernel
theorem dX5_countFaulty_0 : decode cX5_countFaulty 0 = .ok (.iload_n 1, 1) := by decide +kernel
theorem dX5_countFaulty_1 : decode cX5_countFaulty 1 = .ok (.ifCond .ne 7, 3) := by decide +kernel
theorem dX5_countFaulty_4 : decode cX5_countFaulty 4 = .ok (.iconst (-1), 1) := by decide +kernel
theorem dX5_countFaulty_5 : decode cX5_countFaulty 5 = .ok (.goto 4, 3) := by decide +kernel
theorem dX5_countFaulty_8 : decode cX5_countFaulty 8 = .ok (.iload_n 1, 1) := by decide +kernel
theorem dX5_countFaulty_9 : decode cX5_countFaulty 9 = .ok (.istore_n 2, 1) := by decide +kernel
theorem dX5_countFaulty_10 : decode cX5_countFaulty 10 = .ok (.iconst 0, 1) := by decide +kernel
theorem dX5_countFaulty_11 : decode cX5_countFaulty 11 = .ok (.istore_n 3, 1) := by decide +kernel
theorem dX5_countFaulty_12 : decode cX5_countFaulty 12 = .ok (.iconst 0, 1) := by decide +kernel
theorem dX5_countFaulty_13 : decode cX5_countFaulty 13 = .ok (.istore 4, 2) := by decide +kernel
theorem dX5_countFaulty_15 : decode cX5_countFaulty 15 = .ok (.iload 4, 2) := by decide +kernel
theorem dX5_countFaulty_17 : decode cX5_countFaulty 17 = .ok (.aload_n 0, 1) := by decide +kernel
theorem dX5_countFaulty_18 : decode cX5_countFaulty 18 = .ok (.getfield 37, 3) := by decide +kernel
theorem dX5_countFaulty_21 : decode cX5_countFaulty 21 = .ok (.invokevirtual 107, 3) := by decide +kernel
theorem dX5_countFaulty_24 : decode cX5_countFaulty 24 = .ok (.if_icmp .ge 23, 3) := by decide +kernel
theorem dX5_countFaulty_27 : decode cX5_countFaulty 27 = .ok (.aload_n 0, 1) := by decide +kernel
theorem dX5_countFaulty_28 : decode cX5_countFaulty 28 = .ok (.iload 4, 2) := by decide +kernel
theorem dX5_countFaulty_30 : decode cX5_countFaulty 30 = .ok (.invokevirtual 110, 3) := by decide +kernel
theorem dX5_countFaulty_33 : decode cX5_countFaulty 33 = .ok (.iload_n 2, 1) := by decide +kernel
theorem dX5_countFaulty_34 : decode cX5_countFaulty 34 = .ok (.iand, 1) := by decide +kernel
theorem dX5_countFaulty_35 : decode cX5_countFaulty 35 = .ok (.ifCond .eq 6, 3) := by decide +kernel
theorem dX5_countFaulty_38 : decode cX5_countFaulty 38 = .ok (.iinc 3 1, 3) := by decide +kernel
theorem dX5_countFaulty_41 : decode cX5_countFaulty 41 = .ok (.iinc 4 1, 3) := by decide +kernel
theorem dX5_countFaulty_44 : decode cX5_countFaulty 44 = .ok (.goto (-29), 3) := by decide +kernel
theorem dX5_countFaulty_47 : decode cX5_countFaulty 47 = .ok (.iload_n 3, 1) := by decide +kernel
theorem dX5_countFaulty_48 : decode cX5_countFaulty 48 = .ok (.ireturn, 1) := by decide +kernel
theorem dX6_init_0 : decode cX6_init 0 = .ok (.aload_n 0, 1) := by decide +kernel
theorem dX6_init_1 : decode cX6_init 1 = .ok (.invokespecial 1, 3) := by decide +kernel
theorem dX6_init_4 : decode cX6_init 4 = .ok (.aload_n 0, 1) := by decide +kernel
theorem dX6_init_5 : decode cX6_init 5 = .ok (.aload_n 1, 1) := by decide +kernel
theorem dX6_init_6 : decode cX6_init 6 = .ok (.putfield 7, 3) := by decide +kernel
theorem dX6_init_9 : decode cX6_init 9 = .ok (.aload_n 0, 1) := by decide +kernel
theorem dX6_init_10 : decode cX6_init 10 = .ok (.aload_n 1, 1) := by decide +kernel
theorem dX6_init_11 : decode cX6_init 11 = .ok (.putfield 13, 3) := by decide +kernel
theorem dX6_init_14 : decode cX6_init 14 = .ok (.return_, 1) := by decide +kernel
theorem dX6_become_0 : decode cX6_become 0 = .ok (.aload_n 0, 1) := by decide +kernel
theorem dX6_become_1 : decode cX6_become 1 = .ok (.aload_n 1, 1) := by decide +kernel
theorem dX6_become_2 : decode cX6_become 2 = .ok (.getfield 16, 3) := by decide +kernel
theorem dX6_become_5 : decode cX6_become 5 = .ok (.putfield 16, 3) := by decide +kernel
theorem dX6_become_8 : decode cX6_become 8 = .ok (.aload_n 0, 1) := by decide +kernel
theorem dX6_become_9 : decode cX6_become 9 = .ok (.aload_n 1, 1) := by decide +kernel
theorem dX6_become_10 : decode cX6_become 10 = .ok (.getfield 20, 3) := by decide +kernel
theorem dX6_become_13 : decode cX6_become 13 = .ok (.putfield 20, 3) := by decide +kernel
theorem dX6_become_16 : decode cX6_become 16 = .ok (.aload_n 0, 1) := by decide +kernel
theorem dX6_become_17 : decode cX6_become 17 = .ok (.aload_n 1, 1) := by decide +kernel
theorem dX6_become_18 : decode cX6_become 18 = .ok (.getfield 23, 3) := by decide +kernel
theorem dX6_become_21 : decode cX6_become 21 = .ok (.putfield 23, 3) := by decide +kernel
theorem dX6_become_24 : decode cX6_become 24 = .ok (.aload_n 0, 1) := by decide +kernel
theorem dX6_become_25 : decode cX6_become 25 = .ok (.aload_n 1, 1) := by decide +kernel
theorem dX6_become_26 : decode cX6_become 26 = .ok (.getfield 7, 3) := by decide +kernel
theorem dX6_become_29 : decode cX6_become 29 = .ok (.putfield 7, 3) := by decide +kernel
theorem dX6_become_32 : decode cX6_become 32 = .ok (.aload_n 0, 1) := by decide +kernel
theorem dX6_become_33 : decode cX6_become 33 = .ok (.aload_n 1, 1) := by decide +kernel
theorem dX6_become_34 : decode cX6_become 34 = .ok (.getfield 13, 3) := by decide +kernel
theorem dX6_become_37 : decode cX6_become 37 = .ok (.putfield 13, 3) := by decide +kernel
theorem dX6_become_40 : decode cX6_become 40 = .ok (.return_, 1) := by decide +kernel
theorem dX6_length_0 : decode cX6_length 0 = .ok (.aload_n 0, 1) := by decide +kernel
theorem dX6_length_1 : decode cX6_length 1 = .ok (.getfield 20, 3) := by decide +kernel
theorem dX6_length_4 : decode cX6_length 4 = .ok (.aload_n 0, 1) := by decide +kernel
theorem dX6_length_5 : decode cX6_length 5 = .ok (.getfield 16, 3) := by decide +kernel
theorem dX6_length_8 : decode cX6_length 8 = .ok (.isub, 1) := by decide +kernel
theorem dX6_length_9 : decode cX6_length 9 = .ok (.ireturn, 1) := by decide +kernel
theorem dX6_characters_0 : decode cX6_characters 0 = .ok (.aload_n 0, 1) := by decide +kernel
theorem dX6_characters_1 : decode cX6_characters 1 = .ok (.getfield 23, 3) := by decide +kernel
theorem dX6_characters_4 : decode cX6_characters 4 = .ok (.iconst 2, 1) := by decide +kernel
theorem dX6_characters_5 : decode cX6_characters 5 = .ok (.if_icmp .ne 23, 3) := by decide +kernel
theorem dX6_characters_8 : decode cX6_characters 8 = .ok (.aload_n 0, 1) := by decide +kernel
theorem dX6_characters_9 : decode cX6_characters 9 = .ok (.getfield 7, 3) := by decide +kernel
theorem dX6_characters_12 : decode cX6_characters 12 = .ok (.invokevirtual 26, 3) := by decide +kernel
theorem dX6_characters_15 : decode cX6_characters 15 = .ok (.aload_n 0, 1) := by decide +kernel
theorem dX6_characters_16 : decode cX6_characters 16 = .ok (.getfield 13, 3) := by decide +kernel
theorem dX6_characters_19 : decode cX6_characters 19 = .ok (.invokevirtual 26, 3) := by decide +kernel
theorem dX6_characters_22 : decode cX6_characters 22 = .ok (.iadd, 1) := by decide +kernel
theorem dX6_characters_23 : decode cX6_characters 23 = .ok (.iconst 4, 1) := by decide +kernel
theorem dX6_characters_24 : decode cX6_characters 24 = .ok (.iadd, 1) := by decide +kernel
theorem dX6_characters_25 : decode cX6_characters 25 = .ok (.goto 10, 3) := by decide +kernel
theorem dX6_characters_28 : decode cX6_characters 28 = .ok (.aload_n 0, 1) := by decide +kernel
theorem dX6_characters_29 : decode cX6_characters 29 = .ok (.getfield 7, 3) := by decide +kernel
theorem dX6_characters_32 : decode cX6_characters 32 = .ok (.invokevirtual 26, 3) := by decide +kernel
theorem dX6_characters_35 : decode cX6_characters 35 = .ok (.ireturn, 1) := by decide +kernel
theorem dX6_isTooWide_0 : decode cX6_isTooWide 0 = .ok (.aload_n 0, 1) := by decide +kernel
theorem dX6_isTooWide_1 : decode cX6_isTooWide 1 = .ok (.getfield 7, 3) := by decide +kernel
theorem dX6_isTooWide_4 : decode cX6_isTooWide 4 = .ok (.iload_n 1, 1) := by decide +kernel
theorem dX6_isTooWide_5 : decode cX6_isTooWide 5 = .ok (.invokevirtual 32, 3) := by decide +kernel
theorem dX6_isTooWide_8 : decode cX6_isTooWide 8 = .ok (.ifCond .ne 22, 3) := by decide +kernel
theorem dX6_isTooWide_11 : decode cX6_isTooWide 11 = .ok (.aload_n 0, 1) := by decide +kernel
theorem dX6_isTooWide_12 : decode cX6_isTooWide 12 = .ok (.getfield 23, 3) := by decide +kernel
theorem dX6_isTooWide_15 : decode cX6_isTooWide 15 = .ok (.iconst 2, 1) := by decide +kernel
theorem dX6_isTooWide_16 : decode cX6_isTooWide 16 = .ok (.if_icmp .ne 18, 3) := by decide +kernel
theorem dX6_isTooWide_19 : decode cX6_isTooWide 19 = .ok (.aload_n 0, 1) := by decide +kernel
theorem dX6_isTooWide_20 : decode cX6_isTooWide 20 = .ok (.getfield 13, 3) := by decide +kernel
theorem dX6_isTooWide_23 : decode cX6_isTooWide 23 = .ok (.iload_n 1, 1) := by decide +kernel
theorem dX6_isTooWide_24 : decode cX6_isTooWide 24 = .ok (.invokevirtual 32, 3) := by decide +kernel
theorem dX6_isTooWide_27 : decode cX6_isTooWide 27 = .ok (.ifCond .eq 7, 3) := by decide +kernel
theorem dX6_isTooWide_30 : decode cX6_isTooWide 30 = .ok (.iconst 1, 1) := by decide +kernel
theorem dX6_isTooWide_31 : decode cX6_isTooWide 31 = .ok (.goto 4, 3) := by decide +kernel
theorem dX6_isTooWide_34 : decode cX6_isTooWide 34 = .ok (.iconst 0, 1) := by decide +kernel
theorem dX6_isTooWide_35 : decode cX6_isTooWide 35 = .ok (.ireturn, 1) := by decide +kernel
theorem dX6_overlaps_0 : decode cX6_overlaps 0 = .ok (.aload_n 0, 1) := by decide +kernel
theorem dX6_overlaps_1 : decode cX6_overlaps 1 = .ok (.getfield 23, 3) := by decide +kernel
theorem dX6_overlaps_4 : decode cX6_overlaps 4 = .ok (.iconst 1, 1) := by decide +kernel
theorem dX6_overlaps_5 : decode cX6_overlaps 5 = .ok (.if_icmp .ne 28, 3) := by decide +kernel
theorem dX6_overlaps_8 : decode cX6_overlaps 8 = .ok (.aload_n 1, 1) := by decide +kernel
theorem dX6_overlaps_9 : decode cX6_overlaps 9 = .ok (.getfield 23, 3) := by decide +kernel
theorem dX6_overlaps_12 : decode cX6_overlaps 12 = .ok (.iconst 1, 1) := by decide +kernel
theorem dX6_overlaps_13 : decode cX6_overlaps 13 = .ok (.if_icmp .ne 20, 3) := by decide +kernel
theorem dX6_overlaps_16 : decode cX6_overlaps 16 = .ok (.aload_n 0, 1) := by decide +kernel
theorem dX6_overlaps_17 : decode cX6_overlaps 17 = .ok (.getfield 7, 3) := by decide +kernel
theorem dX6_overlaps_20 : decode cX6_overlaps 20 = .ok (.getfield 36, 3) := by decide +kernel
theorem dX6_overlaps_23 : decode cX6_overlaps 23 = .ok (.aload_n 1, 1) := by decide +kernel
theorem dX6_overlaps_24 : decode cX6_overlaps 24 = .ok (.getfield 7, 3) := by decide +kernel
theorem dX6_overlaps_27 : decode cX6_overlaps 27 = .ok (.getfield 36, 3) := by decide +kernel
theorem dX6_overlaps_30 : decode cX6_overlaps 30 = .ok (.if_icmp .ne 5, 3) := by decide +kernel
theorem dX6_overlaps_33 : decode cX6_overlaps 33 = .ok (.iconst 0, 1) := by decide +kernel
theorem dX6_overlaps_34 : decode cX6_overlaps 34 = .ok (.ireturn, 1) := by decide +kernel
theorem dX6_overlaps_35 : decode cX6_overlaps 35 = .ok (.aload_n 0, 1) := by decide +kernel
theorem dX6_overlaps_36 : decode cX6_overlaps 36 = .ok (.getfield 20, 3) := by decide +kernel
theorem dX6_overlaps_39 : decode cX6_overlaps 39 = .ok (.aload_n 1, 1) := by decide +kernel
theorem dX6_overlaps_40 : decode cX6_overlaps 40 = .ok (.getfield 20, 3) := by decide +kernel
theorem dX6_overlaps_43 : decode cX6_overlaps 43 = .ok (.invokestatic 39, 3) := by decide +kernel
theorem dX6_overlaps_46 : decode cX6_overlaps 46 = .ok (.aload_n 0, 1) := by decide +kernel
theorem dX6_overlaps_47 : decode cX6_overlaps 47 = .ok (.getfield 16, 3) := by decide +kernel
theorem dX6_overlaps_50 : decode cX6_overlaps 50 = .ok (.aload_n 1, 1) := by decide +kernel
theorem dX6_overlaps_51 : decode cX6_overlaps 51 = .ok (.getfield 16, 3) := by decide +kernel
theorem dX6_overlaps_54 : decode cX6_overlaps 54 = .ok (.invokestatic 45, 3) := by decide +kernel
theorem dX6_overlaps_57 : decode cX6_overlaps 57 = .ok (.isub, 1) := by decide +kernel
theorem dX6_overlaps_58 : decode cX6_overlaps 58 = .ok (.istore_n 2, 1) := by decide +kernel
theorem dX6_overlaps_59 : decode cX6_overlaps 59 = .ok (.iload_n 2, 1) := by decide +kernel
theorem dX6_overlaps_60 : decode cX6_overlaps 60 = .ok (.ifCond .le 24, 3) := by decide +kernel
theorem dX6_overlaps_63 : decode cX6_overlaps 63 = .ok (.iconst 2, 1) := by decide +kernel
theorem dX6_overlaps_64 : decode cX6_overlaps 64 = .ok (.iload_n 2, 1) := by decide +kernel
theorem dX6_overlaps_65 : decode cX6_overlaps 65 = .ok (.imul, 1) := by decide +kernel
theorem dX6_overlaps_66 : decode cX6_overlaps 66 = .ok (.aload_n 0, 1) := by decide +kernel
theorem dX6_overlaps_67 : decode cX6_overlaps 67 = .ok (.invokevirtual 48, 3) := by decide +kernel
theorem dX6_overlaps_70 : decode cX6_overlaps 70 = .ok (.aload_n 1, 1) := by decide +kernel
theorem dX6_overlaps_71 : decode cX6_overlaps 71 = .ok (.invokevirtual 48, 3) := by decide +kernel
theorem dX6_overlaps_74 : decode cX6_overlaps 74 = .ok (.invokestatic 39, 3) := by decide +kernel
theorem dX6_overlaps_77 : decode cX6_overlaps 77 = .ok (.if_icmp .lt 7, 3) := by decide +kernel
theorem dX6_overlaps_80 : decode cX6_overlaps 80 = .ok (.iconst 1, 1) := by decide +kernel
theorem dX6_overlaps_81 : decode cX6_overlaps 81 = .ok (.goto 4, 3) := by decide +kernel
theorem dX6_overlaps_84 : decode cX6_overlaps 84 = .ok (.iconst 0, 1) := by decide +kernel
theorem dX6_overlaps_85 : decode cX6_overlaps 85 = .ok (.ireturn, 1) := by decide +kernel
theorem dX6_takeIn_0 : decode cX6_takeIn 0 = .ok (.aload_n 0, 1) := by decide +kernel
theorem dX6_takeIn_1 : decode cX6_takeIn 1 = .ok (.aload_n 1, 1) := by decide +kernel
theorem dX6_takeIn_2 : decode cX6_takeIn 2 = .ok (.getfield 7, 3) := by decide +kernel
theorem dX6_takeIn_5 : decode cX6_takeIn 5 = .ok (.putfield 13, 3) := by decide +kernel
theorem dX6_takeIn_8 : decode cX6_takeIn 8 = .ok (.aload_n 0, 1) := by decide +kernel
theorem dX6_takeIn_9 : decode cX6_takeIn 9 = .ok (.iconst 2, 1) := by decide +kernel
theorem dX6_takeIn_10 : decode cX6_takeIn 10 = .ok (.putfield 23, 3) := by decide +kernel
theorem dX6_takeIn_13 : decode cX6_takeIn 13 = .ok (.aload_n 0, 1) := by decide +kernel
theorem dX6_takeIn_14 : decode cX6_takeIn 14 = .ok (.aload_n 0, 1) := by decide +kernel
theorem dX6_takeIn_15 : decode cX6_takeIn 15 = .ok (.getfield 20, 3) := by decide +kernel
theorem dX6_takeIn_18 : decode cX6_takeIn 18 = .ok (.aload_n 1, 1) := by decide +kernel
theorem dX6_takeIn_19 : decode cX6_takeIn 19 = .ok (.getfield 20, 3) := by decide +kernel
theorem dX6_takeIn_22 : decode cX6_takeIn 22 = .ok (.invokestatic 45, 3) := by decide +kernel
theorem dX6_takeIn_25 : decode cX6_takeIn 25 = .ok (.putfield 20, 3) := by decide +kernel
theorem dX6_takeIn_28 : decode cX6_takeIn 28 = .ok (.return_, 1) := by decide +kernel
theorem dX7_init_0 : decode cX7_init 0 = .ok (.aload_n 0, 1) := by decide +kernel
theorem dX7_init_1 : decode cX7_init 1 = .ok (.invokespecial 3, 3) := by decide +kernel
theorem dX7_init_4 : decode cX7_init 4 = .ok (.aload_n 0, 1) := by decide +kernel
theorem dX7_init_5 : decode cX7_init 5 = .ok (.bipush 16, 2) := by decide +kernel
theorem dX7_init_7 : decode cX7_init 7 = .ok (.anewarray 9, 3) := by decide +kernel
theorem dX7_init_10 : decode cX7_init 10 = .ok (.putfield 11, 3) := by decide +kernel
theorem dX7_init_13 : decode cX7_init 13 = .ok (.iconst 0, 1) := by decide +kernel
theorem dX7_init_14 : decode cX7_init 14 = .ok (.istore_n 2, 1) := by decide +kernel
theorem dX7_init_15 : decode cX7_init 15 = .ok (.iload_n 2, 1) := by decide +kernel
theorem dX7_init_16 : decode cX7_init 16 = .ok (.aload_n 0, 1) := by decide +kernel
theorem dX7_init_17 : decode cX7_init 17 = .ok (.getfield 11, 3) := by decide +kernel
theorem dX7_init_20 : decode cX7_init 20 = .ok (.arraylength, 1) := by decide +kernel
theorem dX7_init_21 : decode cX7_init 21 = .ok (.if_icmp .ge 23, 3) := by decide +kernel
theorem dX7_init_24 : decode cX7_init 24 = .ok (.aload_n 0, 1) := by decide +kernel
theorem dX7_init_25 : decode cX7_init 25 = .ok (.getfield 11, 3) := by decide +kernel
theorem dX7_init_28 : decode cX7_init 28 = .ok (.iload_n 2, 1) := by decide +kernel
theorem dX7_init_29 : decode cX7_init 29 = .ok (.new 9, 3) := by decide +kernel
theorem dX7_init_32 : decode cX7_init 32 = .ok (.dup, 1) := by decide +kernel
theorem dX7_init_33 : decode cX7_init 33 = .ok (.aload_n 1, 1) := by decide +kernel
theorem dX7_init_34 : decode cX7_init 34 = .ok (.invokespecial 17, 3) := by decide +kernel
theorem dX7_init_37 : decode cX7_init 37 = .ok (.aastore, 1) := by decide +kernel
theorem dX7_init_38 : decode cX7_init 38 = .ok (.iinc 2 1, 3) := by decide +kernel
theorem dX7_init_41 : decode cX7_init 41 = .ok (.goto (-26), 3) := by decide +kernel
theorem dX7_init_44 : decode cX7_init 44 = .ok (.aload_n 0, 1) := by decide +kernel
theorem dX7_init_45 : decode cX7_init 45 = .ok (.new 9, 3) := by decide +kernel
theorem dX7_init_48 : decode cX7_init 48 = .ok (.dup, 1) := by decide +kernel
theorem dX7_init_49 : decode cX7_init 49 = .ok (.aload_n 1, 1) := by decide +kernel
theorem dX7_init_50 : decode cX7_init 50 = .ok (.invokespecial 17, 3) := by decide +kernel
theorem dX7_init_53 : decode cX7_init 53 = .ok (.putfield 20, 3) := by decide +kernel
theorem dX7_init_56 : decode cX7_init 56 = .ok (.return_, 1) := by decide +kernel
theorem dX7_become_0 : decode cX7_become 0 = .ok (.aload_n 0, 1) := by decide +kernel
theorem dX7_become_1 : decode cX7_become 1 = .ok (.aload_n 1, 1) := by decide +kernel
theorem dX7_become_2 : decode cX7_become 2 = .ok (.getfield 24, 3) := by decide +kernel
theorem dX7_become_5 : decode cX7_become 5 = .ok (.putfield 24, 3) := by decide +kernel
theorem dX7_become_8 : decode cX7_become 8 = .ok (.iconst 0, 1) := by decide +kernel
theorem dX7_become_9 : decode cX7_become 9 = .ok (.istore_n 2, 1) := by decide +kernel
theorem dX7_become_10 : decode cX7_become 10 = .ok (.iload_n 2, 1) := by decide +kernel
theorem dX7_become_11 : decode cX7_become 11 = .ok (.aload_n 0, 1) := by decide +kernel
theorem dX7_become_12 : decode cX7_become 12 = .ok (.getfield 24, 3) := by decide +kernel
theorem dX7_become_15 : decode cX7_become 15 = .ok (.if_icmp .ge 24, 3) := by decide +kernel
theorem dX7_become_18 : decode cX7_become 18 = .ok (.aload_n 0, 1) := by decide +kernel
theorem dX7_become_19 : decode cX7_become 19 = .ok (.getfield 11, 3) := by decide +kernel
theorem dX7_become_22 : decode cX7_become 22 = .ok (.iload_n 2, 1) := by decide +kernel
theorem dX7_become_23 : decode cX7_become 23 = .ok (.aaload, 1) := by decide +kernel
theorem dX7_become_24 : decode cX7_become 24 = .ok (.aload_n 1, 1) := by decide +kernel
theorem dX7_become_25 : decode cX7_become 25 = .ok (.getfield 11, 3) := by decide +kernel
theorem dX7_become_28 : decode cX7_become 28 = .ok (.iload_n 2, 1) := by decide +kernel
theorem dX7_become_29 : decode cX7_become 29 = .ok (.aaload, 1) := by decide +kernel
theorem dX7_become_30 : decode cX7_become 30 = .ok (.invokevirtual 28, 3) := by decide +kernel
theorem dX7_become_33 : decode cX7_become 33 = .ok (.iinc 2 1, 3) := by decide +kernel
theorem dX7_become_36 : decode cX7_become 36 = .ok (.goto (-26), 3) := by decide +kernel
theorem dX7_become_39 : decode cX7_become 39 = .ok (.return_, 1) := by decide +kernel
theorem dX7_size_0 : decode cX7_size 0 = .ok (.aload_n 0, 1) := by decide +kernel
theorem dX7_size_1 : decode cX7_size 1 = .ok (.getfield 24, 3) := by decide +kernel
theorem dX7_size_4 : decode cX7_size 4 = .ok (.ireturn, 1) := by decide +kernel
theorem dX7_isFull_0 : decode cX7_isFull 0 = .ok (.aload_n 0, 1) := by decide +kernel
theorem dX7_isFull_1 : decode cX7_isFull 1 = .ok (.getfield 24, 3) := by decide +kernel
theorem dX7_isFull_4 : decode cX7_isFull 4 = .ok (.bipush 16, 2) := by decide +kernel
theorem dX7_isFull_6 : decode cX7_isFull 6 = .ok (.if_icmp .lt 7, 3) := by decide +kernel
theorem dX7_isFull_9 : decode cX7_isFull 9 = .ok (.iconst 1, 1) := by decide +kernel
theorem dX7_isFull_10 : decode cX7_isFull 10 = .ok (.goto 4, 3) := by decide +kernel
theorem dX7_isFull_13 : decode cX7_isFull 13 = .ok (.iconst 0, 1) := by decide +kernel
theorem dX7_isFull_14 : decode cX7_isFull 14 = .ok (.ireturn, 1) := by decide +kernel
theorem dX7_has_0 : decode cX7_has 0 = .ok (.iload_n 1, 1) := by decide +kernel
theorem dX7_has_1 : decode cX7_has 1 = .ok (.ifCond .lt 15, 3) := by decide +kernel
theorem dX7_has_4 : decode cX7_has 4 = .ok (.iload_n 1, 1) := by decide +kernel
theorem dX7_has_5 : decode cX7_has 5 = .ok (.aload_n 0, 1) := by decide +kernel
theorem dX7_has_6 : decode cX7_has 6 = .ok (.getfield 24, 3) := by decide +kernel
theorem dX7_has_9 : decode cX7_has 9 = .ok (.if_icmp .ge 7, 3) := by decide +kernel
theorem dX7_has_12 : decode cX7_has 12 = .ok (.iconst 1, 1) := by decide +kernel
theorem dX7_has_13 : decode cX7_has 13 = .ok (.goto 4, 3) := by decide +kernel
theorem dX7_has_16 : decode cX7_has 16 = .ok (.iconst 0, 1) := by decide +kernel
theorem dX7_has_17 : decode cX7_has 17 = .ok (.ireturn, 1) := by decide +kernel
theorem dX7_at_0 : decode cX7_at 0 = .ok (.aload_n 0, 1) := by decide +kernel
theorem dX7_at_1 : decode cX7_at 1 = .ok (.iload_n 1, 1) := by decide +kernel
theorem dX7_at_2 : decode cX7_at 2 = .ok (.invokevirtual 32, 3) := by decide +kernel
theorem dX7_at_5 : decode cX7_at 5 = .ok (.ifCond .eq 12, 3) := by decide +kernel
theorem dX7_at_8 : decode cX7_at 8 = .ok (.aload_n 0, 1) := by decide +kernel
theorem dX7_at_9 : decode cX7_at 9 = .ok (.getfield 11, 3) := by decide +kernel
theorem dX7_at_12 : decode cX7_at 12 = .ok (.iload_n 1, 1) := by decide +kernel
theorem dX7_at_13 : decode cX7_at 13 = .ok (.aaload, 1) := by decide +kernel
theorem dX7_at_14 : decode cX7_at 14 = .ok (.goto 7, 3) := by decide +kernel
theorem dX7_at_17 : decode cX7_at 17 = .ok (.aload_n 0, 1) := by decide +kernel
theorem dX7_at_18 : decode cX7_at 18 = .ok (.getfield 20, 3) := by decide +kernel
theorem dX7_at_21 : decode cX7_at 21 = .ok (.areturn, 1) := by decide +kernel
theorem dX7_empty_0 : decode cX7_empty 0 = .ok (.aload_n 0, 1) := by decide +kernel
theorem dX7_empty_1 : decode cX7_empty 1 = .ok (.iconst 0, 1) := by decide +kernel
theorem dX7_empty_2 : decode cX7_empty 2 = .ok (.putfield 24, 3) := by decide +kernel
theorem dX7_empty_5 : decode cX7_empty 5 = .ok (.return_, 1) := by decide +kernel
theorem dX7_insert_0 : decode cX7_insert 0 = .ok (.aload_n 0, 1) := by decide +kernel
theorem dX7_insert_1 : decode cX7_insert 1 = .ok (.invokevirtual 36, 3) := by decide +kernel
theorem dX7_insert_4 : decode cX7_insert 4 = .ok (.ifCond .eq 6, 3) := by decide +kernel
theorem dX7_insert_7 : decode cX7_insert 7 = .ok (.bipush (-9), 2) := by decide +kernel
theorem dX7_insert_9 : decode cX7_insert 9 = .ok (.ireturn, 1) := by decide +kernel
theorem dX7_insert_10 : decode cX7_insert 10 = .ok (.aload_n 0, 1) := by decide +kernel
theorem dX7_insert_11 : decode cX7_insert 11 = .ok (.getfield 11, 3) := by decide +kernel
theorem dX7_insert_14 : decode cX7_insert 14 = .ok (.aload_n 0, 1) := by decide +kernel
theorem dX7_insert_15 : decode cX7_insert 15 = .ok (.getfield 24, 3) := by decide +kernel
theorem dX7_insert_18 : decode cX7_insert 18 = .ok (.aaload, 1) := by decide +kernel
theorem dX7_insert_19 : decode cX7_insert 19 = .ok (.astore 4, 2) := by decide +kernel
theorem dX7_insert_21 : decode cX7_insert 21 = .ok (.aload 4, 2) := by decide +kernel
theorem dX7_insert_23 : decode cX7_insert 23 = .ok (.iload_n 1, 1) := by decide +kernel
theorem dX7_insert_24 : decode cX7_insert 24 = .ok (.putfield 40, 3) := by decide +kernel
theorem dX7_insert_27 : decode cX7_insert 27 = .ok (.aload 4, 2) := by decide +kernel
theorem dX7_insert_29 : decode cX7_insert 29 = .ok (.iload_n 2, 1) := by decide +kernel
theorem dX7_insert_30 : decode cX7_insert 30 = .ok (.putfield 43, 3) := by decide +kernel
theorem dX7_insert_33 : decode cX7_insert 33 = .ok (.aload 4, 2) := by decide +kernel
theorem dX7_insert_35 : decode cX7_insert 35 = .ok (.iconst 1, 1) := by decide +kernel
theorem dX7_insert_36 : decode cX7_insert 36 = .ok (.putfield 46, 3) := by decide +kernel
theorem dX7_insert_39 : decode cX7_insert 39 = .ok (.aload 4, 2) := by decide +kernel
theorem dX7_insert_41 : decode cX7_insert 41 = .ok (.aload_n 3, 1) := by decide +kernel
theorem dX7_insert_42 : decode cX7_insert 42 = .ok (.putfield 49, 3) := by decide +kernel
theorem dX7_insert_45 : decode cX7_insert 45 = .ok (.aload_n 0, 1) := by decide +kernel
theorem dX7_insert_46 : decode cX7_insert 46 = .ok (.dup, 1) := by decide +kernel
theorem dX7_insert_47 : decode cX7_insert 47 = .ok (.getfield 24, 3) := by decide +kernel
theorem dX7_insert_50 : decode cX7_insert 50 = .ok (.iconst 1, 1) := by decide +kernel
theorem dX7_insert_51 : decode cX7_insert 51 = .ok (.iadd, 1) := by decide +kernel
theorem dX7_insert_52 : decode cX7_insert 52 = .ok (.putfield 24, 3) := by decide +kernel
theorem dX7_insert_55 : decode cX7_insert 55 = .ok (.aload_n 0, 1) := by decide +kernel
theorem dX7_insert_56 : decode cX7_insert 56 = .ok (.aload_n 0, 1) := by decide +kernel
theorem dX7_insert_57 : decode cX7_insert 57 = .ok (.getfield 24, 3) := by decide +kernel
theorem dX7_insert_60 : decode cX7_insert 60 = .ok (.iconst 1, 1) := by decide +kernel
theorem dX7_insert_61 : decode cX7_insert 61 = .ok (.isub, 1) := by decide +kernel
theorem dX7_insert_62 : decode cX7_insert 62 = .ok (.invokevirtual 53, 3) := by decide +kernel
theorem dX7_insert_65 : decode cX7_insert 65 = .ok (.ireturn, 1) := by decide +kernel
theorem dX7_insertLike_0 : decode cX7_insertLike 0 = .ok (.aload_n 0, 1) := by decide +kernel
theorem dX7_insertLike_1 : decode cX7_insertLike 1 = .ok (.invokevirtual 36, 3) := by decide +kernel
theorem dX7_insertLike_4 : decode cX7_insertLike 4 = .ok (.ifCond .eq 4, 3) := by decide +kernel
theorem dX7_insertLike_7 : decode cX7_insertLike 7 = .ok (.return_, 1) := by decide +kernel
theorem dX7_insertLike_8 : decode cX7_insertLike 8 = .ok (.aload_n 0, 1) := by decide +kernel
theorem dX7_insertLike_9 : decode cX7_insertLike 9 = .ok (.getfield 11, 3) := by decide +kernel
theorem dX7_insertLike_12 : decode cX7_insertLike 12 = .ok (.aload_n 0, 1) := by decide +kernel
theorem dX7_insertLike_13 : decode cX7_insertLike 13 = .ok (.getfield 24, 3) := by decide +kernel
theorem dX7_insertLike_16 : decode cX7_insertLike 16 = .ok (.aaload, 1) := by decide +kernel
theorem dX7_insertLike_17 : decode cX7_insertLike 17 = .ok (.astore 4, 2) := by decide +kernel
theorem dX7_insertLike_19 : decode cX7_insertLike 19 = .ok (.aload 4, 2) := by decide +kernel
theorem dX7_insertLike_21 : decode cX7_insertLike 21 = .ok (.aload_n 1, 1) := by decide +kernel
theorem dX7_insertLike_22 : decode cX7_insertLike 22 = .ok (.invokevirtual 28, 3) := by decide +kernel
theorem dX7_insertLike_25 : decode cX7_insertLike 25 = .ok (.aload 4, 2) := by decide +kernel
theorem dX7_insertLike_27 : decode cX7_insertLike 27 = .ok (.iload_n 2, 1) := by decide +kernel
theorem dX7_insertLike_28 : decode cX7_insertLike 28 = .ok (.putfield 40, 3) := by decide +kernel
theorem dX7_insertLike_31 : decode cX7_insertLike 31 = .ok (.aload 4, 2) := by decide +kernel
theorem dX7_insertLike_33 : decode cX7_insertLike 33 = .ok (.iload_n 3, 1) := by decide +kernel
theorem dX7_insertLike_34 : decode cX7_insertLike 34 = .ok (.putfield 43, 3) := by decide +kernel
theorem dX7_insertLike_37 : decode cX7_insertLike 37 = .ok (.aload_n 0, 1) := by decide +kernel
theorem dX7_insertLike_38 : decode cX7_insertLike 38 = .ok (.dup, 1) := by decide +kernel
theorem dX7_insertLike_39 : decode cX7_insertLike 39 = .ok (.getfield 24, 3) := by decide +kernel
theorem dX7_insertLike_42 : decode cX7_insertLike 42 = .ok (.iconst 1, 1) := by decide +kernel
theorem dX7_insertLike_43 : decode cX7_insertLike 43 = .ok (.iadd, 1) := by decide +kernel
theorem dX7_insertLike_44 : decode cX7_insertLike 44 = .ok (.putfield 24, 3) := by decide +kernel
theorem dX7_insertLike_47 : decode cX7_insertLike 47 = .ok (.aload_n 0, 1) := by decide +kernel
theorem dX7_insertLike_48 : decode cX7_insertLike 48 = .ok (.aload_n 0, 1) := by decide +kernel
theorem dX7_insertLike_49 : decode cX7_insertLike 49 = .ok (.getfield 24, 3) := by decide +kernel
theorem dX7_insertLike_52 : decode cX7_insertLike 52 = .ok (.iconst 1, 1) := by decide +kernel
theorem dX7_insertLike_53 : decode cX7_insertLike 53 = .ok (.isub, 1) := by decide +kernel
theorem dX7_insertLike_54 : decode cX7_insertLike 54 = .ok (.invokevirtual 53, 3) := by decide +kernel
theorem dX7_insertLike_57 : decode cX7_insertLike 57 = .ok (.pop, 1) := by decide +kernel
theorem dX7_insertLike_58 : decode cX7_insertLike 58 = .ok (.return_, 1) := by decide +kernel
theorem dX7_remove_0 : decode cX7_remove 0 = .ok (.aload_n 0, 1) := by decide +kernel
theorem dX7_remove_1 : decode cX7_remove 1 = .ok (.iload_n 1, 1) := by decide +kernel
theorem dX7_remove_2 : decode cX7_remove 2 = .ok (.invokevirtual 32, 3) := by decide +kernel
theorem dX7_remove_5 : decode cX7_remove 5 = .ok (.ifCond .ne 4, 3) := by decide +kernel
theorem dX7_remove_8 : decode cX7_remove 8 = .ok (.return_, 1) := by decide +kernel
theorem dX7_remove_9 : decode cX7_remove 9 = .ok (.aload_n 0, 1) := by decide +kernel
theorem dX7_remove_10 : decode cX7_remove 10 = .ok (.getfield 11, 3) := by decide +kernel
theorem dX7_remove_13 : decode cX7_remove 13 = .ok (.iload_n 1, 1) := by decide +kernel
theorem dX7_remove_14 : decode cX7_remove 14 = .ok (.aaload, 1) := by decide +kernel
theorem dX7_remove_15 : decode cX7_remove 15 = .ok (.astore_n 2, 1) := by decide +kernel
theorem dX7_remove_16 : decode cX7_remove 16 = .ok (.iload_n 1, 1) := by decide +kernel
theorem dX7_remove_17 : decode cX7_remove 17 = .ok (.istore_n 3, 1) := by decide +kernel
theorem dX7_remove_18 : decode cX7_remove 18 = .ok (.iload_n 3, 1) := by decide +kernel
theorem dX7_remove_19 : decode cX7_remove 19 = .ok (.iconst 1, 1) := by decide +kernel
theorem dX7_remove_20 : decode cX7_remove 20 = .ok (.iadd, 1) := by decide +kernel
theorem dX7_remove_21 : decode cX7_remove 21 = .ok (.aload_n 0, 1) := by decide +kernel
theorem dX7_remove_22 : decode cX7_remove 22 = .ok (.getfield 24, 3) := by decide +kernel
theorem dX7_remove_25 : decode cX7_remove 25 = .ok (.if_icmp .ge 23, 3) := by decide +kernel
theorem dX7_remove_28 : decode cX7_remove 28 = .ok (.aload_n 0, 1) := by decide +kernel
theorem dX7_remove_29 : decode cX7_remove 29 = .ok (.getfield 11, 3) := by decide +kernel
theorem dX7_remove_32 : decode cX7_remove 32 = .ok (.iload_n 3, 1) := by decide +kernel
theorem dX7_remove_33 : decode cX7_remove 33 = .ok (.aload_n 0, 1) := by decide +kernel
theorem dX7_remove_34 : decode cX7_remove 34 = .ok (.getfield 11, 3) := by decide +kernel
theorem dX7_remove_37 : decode cX7_remove 37 = .ok (.iload_n 3, 1) := by decide +kernel
theorem dX7_remove_38 : decode cX7_remove 38 = .ok (.iconst 1, 1) := by decide +kernel
theorem dX7_remove_39 : decode cX7_remove 39 = .ok (.iadd, 1) := by decide +kernel
theorem dX7_remove_40 : decode cX7_remove 40 = .ok (.aaload, 1) := by decide +kernel
theorem dX7_remove_41 : decode cX7_remove 41 = .ok (.aastore, 1) := by decide +kernel
theorem dX7_remove_42 : decode cX7_remove 42 = .ok (.iinc 3 1, 3) := by decide +kernel
theorem dX7_remove_45 : decode cX7_remove 45 = .ok (.goto (-27), 3) := by decide +kernel
theorem dX7_remove_48 : decode cX7_remove 48 = .ok (.aload_n 0, 1) := by decide +kernel
theorem dX7_remove_49 : decode cX7_remove 49 = .ok (.dup, 1) := by decide +kernel
theorem dX7_remove_50 : decode cX7_remove 50 = .ok (.getfield 24, 3) := by decide +kernel
theorem dX7_remove_53 : decode cX7_remove 53 = .ok (.iconst 1, 1) := by decide +kernel
theorem dX7_remove_54 : decode cX7_remove 54 = .ok (.isub, 1) := by decide +kernel
theorem dX7_remove_55 : decode cX7_remove 55 = .ok (.putfield 24, 3) := by decide +kernel
theorem dX7_remove_58 : decode cX7_remove 58 = .ok (.aload_n 0, 1) := by decide +kernel
theorem dX7_remove_59 : decode cX7_remove 59 = .ok (.getfield 11, 3) := by decide +kernel
theorem dX7_remove_62 : decode cX7_remove 62 = .ok (.aload_n 0, 1) := by decide +kernel
theorem dX7_remove_63 : decode cX7_remove 63 = .ok (.getfield 24, 3) := by decide +kernel
theorem dX7_remove_66 : decode cX7_remove 66 = .ok (.aload_n 2, 1) := by decide +kernel
theorem dX7_remove_67 : decode cX7_remove 67 = .ok (.aastore, 1) := by decide +kernel
theorem dX7_remove_68 : decode cX7_remove 68 = .ok (.return_, 1) := by decide +kernel
theorem dX7_retime_0 : decode cX7_retime 0 = .ok (.aload_n 0, 1) := by decide +kernel
theorem dX7_retime_1 : decode cX7_retime 1 = .ok (.iload_n 1, 1) := by decide +kernel
theorem dX7_retime_2 : decode cX7_retime 2 = .ok (.invokevirtual 32, 3) := by decide +kernel
theorem dX7_retime_5 : decode cX7_retime 5 = .ok (.ifCond .ne 6, 3) := by decide +kernel
theorem dX7_retime_8 : decode cX7_retime 8 = .ok (.bipush (-9), 2) := by decide +kernel
theorem dX7_retime_10 : decode cX7_retime 10 = .ok (.ireturn, 1) := by decide +kernel
theorem dX7_retime_11 : decode cX7_retime 11 = .ok (.aload_n 0, 1) := by decide +kernel
theorem dX7_retime_12 : decode cX7_retime 12 = .ok (.iload_n 1, 1) := by decide +kernel
theorem dX7_retime_13 : decode cX7_retime 13 = .ok (.invokevirtual 57, 3) := by decide +kernel
theorem dX7_retime_16 : decode cX7_retime 16 = .ok (.aload_n 0, 1) := by decide +kernel
theorem dX7_retime_17 : decode cX7_retime 17 = .ok (.getfield 11, 3) := by decide +kernel
theorem dX7_retime_20 : decode cX7_retime 20 = .ok (.aload_n 0, 1) := by decide +kernel
theorem dX7_retime_21 : decode cX7_retime 21 = .ok (.getfield 24, 3) := by decide +kernel
theorem dX7_retime_24 : decode cX7_retime 24 = .ok (.aaload, 1) := by decide +kernel
theorem dX7_retime_25 : decode cX7_retime 25 = .ok (.iload_n 2, 1) := by decide +kernel
theorem dX7_retime_26 : decode cX7_retime 26 = .ok (.putfield 40, 3) := by decide +kernel
theorem dX7_retime_29 : decode cX7_retime 29 = .ok (.aload_n 0, 1) := by decide +kernel
theorem dX7_retime_30 : decode cX7_retime 30 = .ok (.getfield 11, 3) := by decide +kernel
theorem dX7_retime_33 : decode cX7_retime 33 = .ok (.aload_n 0, 1) := by decide +kernel
theorem dX7_retime_34 : decode cX7_retime 34 = .ok (.getfield 24, 3) := by decide +kernel
theorem dX7_retime_37 : decode cX7_retime 37 = .ok (.aaload, 1) := by decide +kernel
theorem dX7_retime_38 : decode cX7_retime 38 = .ok (.iload_n 3, 1) := by decide +kernel
theorem dX7_retime_39 : decode cX7_retime 39 = .ok (.putfield 43, 3) := by decide +kernel
theorem dX7_retime_42 : decode cX7_retime 42 = .ok (.aload_n 0, 1) := by decide +kernel
theorem dX7_retime_43 : decode cX7_retime 43 = .ok (.dup, 1) := by decide +kernel
theorem dX7_retime_44 : decode cX7_retime 44 = .ok (.getfield 24, 3) := by decide +kernel
theorem dX7_retime_47 : decode cX7_retime 47 = .ok (.iconst 1, 1) := by decide +kernel
theorem dX7_retime_48 : decode cX7_retime 48 = .ok (.iadd, 1) := by decide +kernel
theorem dX7_retime_49 : decode cX7_retime 49 = .ok (.putfield 24, 3) := by decide +kernel
theorem dX7_retime_52 : decode cX7_retime 52 = .ok (.aload_n 0, 1) := by decide +kernel
theorem dX7_retime_53 : decode cX7_retime 53 = .ok (.aload_n 0, 1) := by decide +kernel
theorem dX7_retime_54 : decode cX7_retime 54 = .ok (.getfield 24, 3) := by decide +kernel
theorem dX7_retime_57 : decode cX7_retime 57 = .ok (.iconst 1, 1) := by decide +kernel
theorem dX7_retime_58 : decode cX7_retime 58 = .ok (.isub, 1) := by decide +kernel
theorem dX7_retime_59 : decode cX7_retime 59 = .ok (.invokevirtual 53, 3) := by decide +kernel
theorem dX7_retime_62 : decode cX7_retime 62 = .ok (.ireturn, 1) := by decide +kernel
theorem dX7_settleAll_0 : decode cX7_settleAll 0 = .ok (.iconst 1, 1) := by decide +kernel
theorem dX7_settleAll_1 : decode cX7_settleAll 1 = .ok (.istore_n 1, 1) := by decide +kernel
theorem dX7_settleAll_2 : decode cX7_settleAll 2 = .ok (.iload_n 1, 1) := by decide +kernel
theorem dX7_settleAll_3 : decode cX7_settleAll 3 = .ok (.aload_n 0, 1) := by decide +kernel
theorem dX7_settleAll_4 : decode cX7_settleAll 4 = .ok (.getfield 24, 3) := by decide +kernel
theorem dX7_settleAll_7 : decode cX7_settleAll 7 = .ok (.if_icmp .ge 15, 3) := by decide +kernel
theorem dX7_settleAll_10 : decode cX7_settleAll 10 = .ok (.aload_n 0, 1) := by decide +kernel
theorem dX7_settleAll_11 : decode cX7_settleAll 11 = .ok (.iload_n 1, 1) := by decide +kernel
theorem dX7_settleAll_12 : decode cX7_settleAll 12 = .ok (.invokevirtual 53, 3) := by decide +kernel
theorem dX7_settleAll_15 : decode cX7_settleAll 15 = .ok (.pop, 1) := by decide +kernel
theorem dX7_settleAll_16 : decode cX7_settleAll 16 = .ok (.iinc 1 1, 3) := by decide +kernel
theorem dX7_settleAll_19 : decode cX7_settleAll 19 = .ok (.goto (-17), 3) := by decide +kernel
theorem dX7_settleAll_22 : decode cX7_settleAll 22 = .ok (.return_, 1) := by decide +kernel
theorem dX7_settle_0 : decode cX7_settle 0 = .ok (.aload_n 0, 1) := by decide +kernel
theorem dX7_settle_1 : decode cX7_settle 1 = .ok (.iload_n 1, 1) := by decide +kernel
theorem dX7_settle_2 : decode cX7_settle 2 = .ok (.invokevirtual 32, 3) := by decide +kernel
theorem dX7_settle_5 : decode cX7_settle 5 = .ok (.ifCond .eq 7, 3) := by decide +kernel
theorem dX7_settle_8 : decode cX7_settle 8 = .ok (.iload_n 1, 1) := by decide +kernel
theorem dX7_settle_9 : decode cX7_settle 9 = .ok (.goto 4, 3) := by decide +kernel
theorem dX7_settle_12 : decode cX7_settle 12 = .ok (.iconst 0, 1) := by decide +kernel
theorem dX7_settle_13 : decode cX7_settle 13 = .ok (.istore_n 2, 1) := by decide +kernel
theorem dX7_settle_14 : decode cX7_settle 14 = .ok (.iload_n 2, 1) := by decide +kernel
theorem dX7_settle_15 : decode cX7_settle 15 = .ok (.ifCond .le 62, 3) := by decide +kernel
theorem dX7_settle_18 : decode cX7_settle 18 = .ok (.aload_n 0, 1) := by decide +kernel
theorem dX7_settle_19 : decode cX7_settle 19 = .ok (.getfield 11, 3) := by decide +kernel
theorem dX7_settle_22 : decode cX7_settle 22 = .ok (.iload_n 2, 1) := by decide +kernel
theorem dX7_settle_23 : decode cX7_settle 23 = .ok (.iconst 1, 1) := by decide +kernel
theorem dX7_settle_24 : decode cX7_settle 24 = .ok (.isub, 1) := by decide +kernel
theorem dX7_settle_25 : decode cX7_settle 25 = .ok (.aaload, 1) := by decide +kernel
theorem dX7_settle_26 : decode cX7_settle 26 = .ok (.getfield 40, 3) := by decide +kernel
theorem dX7_settle_29 : decode cX7_settle 29 = .ok (.aload_n 0, 1) := by decide +kernel
theorem dX7_settle_30 : decode cX7_settle 30 = .ok (.getfield 11, 3) := by decide +kernel
theorem dX7_settle_33 : decode cX7_settle 33 = .ok (.iload_n 2, 1) := by decide +kernel
theorem dX7_settle_34 : decode cX7_settle 34 = .ok (.aaload, 1) := by decide +kernel
theorem dX7_settle_35 : decode cX7_settle 35 = .ok (.getfield 40, 3) := by decide +kernel
theorem dX7_settle_38 : decode cX7_settle 38 = .ok (.if_icmp .le 39, 3) := by decide +kernel
theorem dX7_settle_41 : decode cX7_settle 41 = .ok (.aload_n 0, 1) := by decide +kernel
theorem dX7_settle_42 : decode cX7_settle 42 = .ok (.getfield 11, 3) := by decide +kernel
theorem dX7_settle_45 : decode cX7_settle 45 = .ok (.iload_n 2, 1) := by decide +kernel
theorem dX7_settle_46 : decode cX7_settle 46 = .ok (.iconst 1, 1) := by decide +kernel
theorem dX7_settle_47 : decode cX7_settle 47 = .ok (.isub, 1) := by decide +kernel
theorem dX7_settle_48 : decode cX7_settle 48 = .ok (.aaload, 1) := by decide +kernel
theorem dX7_settle_49 : decode cX7_settle 49 = .ok (.astore_n 3, 1) := by decide +kernel
theorem dX7_settle_50 : decode cX7_settle 50 = .ok (.aload_n 0, 1) := by decide +kernel
theorem dX7_settle_51 : decode cX7_settle 51 = .ok (.getfield 11, 3) := by decide +kernel
theorem dX7_settle_54 : decode cX7_settle 54 = .ok (.iload_n 2, 1) := by decide +kernel
theorem dX7_settle_55 : decode cX7_settle 55 = .ok (.iconst 1, 1) := by decide +kernel
theorem dX7_settle_56 : decode cX7_settle 56 = .ok (.isub, 1) := by decide +kernel
theorem dX7_settle_57 : decode cX7_settle 57 = .ok (.aload_n 0, 1) := by decide +kernel
theorem dX7_settle_58 : decode cX7_settle 58 = .ok (.getfield 11, 3) := by decide +kernel
theorem dX7_settle_61 : decode cX7_settle 61 = .ok (.iload_n 2, 1) := by decide +kernel
theorem dX7_settle_62 : decode cX7_settle 62 = .ok (.aaload, 1) := by decide +kernel
theorem dX7_settle_63 : decode cX7_settle 63 = .ok (.aastore, 1) := by decide +kernel
theorem dX7_settle_64 : decode cX7_settle 64 = .ok (.aload_n 0, 1) := by decide +kernel
theorem dX7_settle_65 : decode cX7_settle 65 = .ok (.getfield 11, 3) := by decide +kernel
theorem dX7_settle_68 : decode cX7_settle 68 = .ok (.iload_n 2, 1) := by decide +kernel
theorem dX7_settle_69 : decode cX7_settle 69 = .ok (.aload_n 3, 1) := by decide +kernel
theorem dX7_settle_70 : decode cX7_settle 70 = .ok (.aastore, 1) := by decide +kernel
theorem dX7_settle_71 : decode cX7_settle 71 = .ok (.iinc 2 (-1), 3) := by decide +kernel
theorem dX7_settle_74 : decode cX7_settle 74 = .ok (.goto (-60), 3) := by decide +kernel
theorem dX7_settle_77 : decode cX7_settle 77 = .ok (.iload_n 2, 1) := by decide +kernel
theorem dX7_settle_78 : decode cX7_settle 78 = .ok (.ireturn, 1) := by decide +kernel
theorem dX7_next_0 : decode cX7_next 0 = .ok (.iload_n 1, 1) := by decide +kernel
theorem dX7_next_1 : decode cX7_next 1 = .ok (.iconst 1, 1) := by decide +kernel
theorem dX7_next_2 : decode cX7_next 2 = .ok (.iadd, 1) := by decide +kernel
theorem dX7_next_3 : decode cX7_next 3 = .ok (.istore_n 2, 1) := by decide +kernel
theorem dX7_next_4 : decode cX7_next 4 = .ok (.aload_n 0, 1) := by decide +kernel
theorem dX7_next_5 : decode cX7_next 5 = .ok (.iload_n 1, 1) := by decide +kernel
theorem dX7_next_6 : decode cX7_next 6 = .ok (.invokevirtual 32, 3) := by decide +kernel
theorem dX7_next_9 : decode cX7_next 9 = .ok (.ifCond .eq 40, 3) := by decide +kernel
theorem dX7_next_12 : decode cX7_next 12 = .ok (.iload_n 2, 1) := by decide +kernel
theorem dX7_next_13 : decode cX7_next 13 = .ok (.aload_n 0, 1) := by decide +kernel
theorem dX7_next_14 : decode cX7_next 14 = .ok (.getfield 24, 3) := by decide +kernel
theorem dX7_next_17 : decode cX7_next 17 = .ok (.if_icmp .ge 32, 3) := by decide +kernel
theorem dX7_next_20 : decode cX7_next 20 = .ok (.aload_n 0, 1) := by decide +kernel
theorem dX7_next_21 : decode cX7_next 21 = .ok (.getfield 11, 3) := by decide +kernel
theorem dX7_next_24 : decode cX7_next 24 = .ok (.iload_n 2, 1) := by decide +kernel
theorem dX7_next_25 : decode cX7_next 25 = .ok (.aaload, 1) := by decide +kernel
theorem dX7_next_26 : decode cX7_next 26 = .ok (.getfield 40, 3) := by decide +kernel
theorem dX7_next_29 : decode cX7_next 29 = .ok (.aload_n 0, 1) := by decide +kernel
theorem dX7_next_30 : decode cX7_next 30 = .ok (.getfield 11, 3) := by decide +kernel
theorem dX7_next_33 : decode cX7_next 33 = .ok (.iload_n 1, 1) := by decide +kernel
theorem dX7_next_34 : decode cX7_next 34 = .ok (.aaload, 1) := by decide +kernel
theorem dX7_next_35 : decode cX7_next 35 = .ok (.getfield 40, 3) := by decide +kernel
theorem dX7_next_38 : decode cX7_next 38 = .ok (.if_icmp .le 5, 3) := by decide +kernel
theorem dX7_next_41 : decode cX7_next 41 = .ok (.iload_n 2, 1) := by decide +kernel
theorem dX7_next_42 : decode cX7_next 42 = .ok (.ireturn, 1) := by decide +kernel
theorem dX7_next_43 : decode cX7_next 43 = .ok (.iinc 2 1, 3) := by decide +kernel
theorem dX7_next_46 : decode cX7_next 46 = .ok (.goto (-42), 3) := by decide +kernel
theorem dX7_next_49 : decode cX7_next 49 = .ok (.bipush (-9), 2) := by decide +kernel
theorem dX7_next_51 : decode cX7_next 51 = .ok (.ireturn, 1) := by decide +kernel
theorem dX7_sharesFirst_0 : decode cX7_sharesFirst 0 = .ok (.aload_n 0, 1) := by decide +kernel
theorem dX7_sharesFirst_1 : decode cX7_sharesFirst 1 = .ok (.iload_n 1, 1) := by decide +kernel
theorem dX7_sharesFirst_2 : decode cX7_sharesFirst 2 = .ok (.invokevirtual 61, 3) := by decide +kernel
theorem dX7_sharesFirst_5 : decode cX7_sharesFirst 5 = .ok (.getfield 40, 3) := by decide +kernel
theorem dX7_sharesFirst_8 : decode cX7_sharesFirst 8 = .ok (.istore_n 2, 1) := by decide +kernel
theorem dX7_sharesFirst_9 : decode cX7_sharesFirst 9 = .ok (.aload_n 0, 1) := by decide +kernel
theorem dX7_sharesFirst_10 : decode cX7_sharesFirst 10 = .ok (.iload_n 1, 1) := by decide +kernel
theorem dX7_sharesFirst_11 : decode cX7_sharesFirst 11 = .ok (.iconst 1, 1) := by decide +kernel
theorem dX7_sharesFirst_12 : decode cX7_sharesFirst 12 = .ok (.isub, 1) := by decide +kernel
theorem dX7_sharesFirst_13 : decode cX7_sharesFirst 13 = .ok (.invokevirtual 32, 3) := by decide +kernel
theorem dX7_sharesFirst_16 : decode cX7_sharesFirst 16 = .ok (.ifCond .eq 17, 3) := by decide +kernel
theorem dX7_sharesFirst_19 : decode cX7_sharesFirst 19 = .ok (.aload_n 0, 1) := by decide +kernel
theorem dX7_sharesFirst_20 : decode cX7_sharesFirst 20 = .ok (.iload_n 1, 1) := by decide +kernel
theorem dX7_sharesFirst_21 : decode cX7_sharesFirst 21 = .ok (.iconst 1, 1) := by decide +kernel
theorem dX7_sharesFirst_22 : decode cX7_sharesFirst 22 = .ok (.isub, 1) := by decide +kernel
theorem dX7_sharesFirst_23 : decode cX7_sharesFirst 23 = .ok (.invokevirtual 61, 3) := by decide +kernel
theorem dX7_sharesFirst_26 : decode cX7_sharesFirst 26 = .ok (.getfield 40, 3) := by decide +kernel
theorem dX7_sharesFirst_29 : decode cX7_sharesFirst 29 = .ok (.iload_n 2, 1) := by decide +kernel
theorem dX7_sharesFirst_30 : decode cX7_sharesFirst 30 = .ok (.if_icmp .eq 27, 3) := by decide +kernel
theorem dX7_sharesFirst_33 : decode cX7_sharesFirst 33 = .ok (.aload_n 0, 1) := by decide +kernel
theorem dX7_sharesFirst_34 : decode cX7_sharesFirst 34 = .ok (.iload_n 1, 1) := by decide +kernel
theorem dX7_sharesFirst_35 : decode cX7_sharesFirst 35 = .ok (.iconst 1, 1) := by decide +kernel
theorem dX7_sharesFirst_36 : decode cX7_sharesFirst 36 = .ok (.iadd, 1) := by decide +kernel
theorem dX7_sharesFirst_37 : decode cX7_sharesFirst 37 = .ok (.invokevirtual 32, 3) := by decide +kernel
theorem dX7_sharesFirst_40 : decode cX7_sharesFirst 40 = .ok (.ifCond .eq 21, 3) := by decide +kernel
theorem dX7_sharesFirst_43 : decode cX7_sharesFirst 43 = .ok (.aload_n 0, 1) := by decide +kernel
theorem dX7_sharesFirst_44 : decode cX7_sharesFirst 44 = .ok (.iload_n 1, 1) := by decide +kernel
theorem dX7_sharesFirst_45 : decode cX7_sharesFirst 45 = .ok (.iconst 1, 1) := by decide +kernel
theorem dX7_sharesFirst_46 : decode cX7_sharesFirst 46 = .ok (.iadd, 1) := by decide +kernel
theorem dX7_sharesFirst_47 : decode cX7_sharesFirst 47 = .ok (.invokevirtual 61, 3) := by decide +kernel
theorem dX7_sharesFirst_50 : decode cX7_sharesFirst 50 = .ok (.getfield 40, 3) := by decide +kernel
theorem dX7_sharesFirst_53 : decode cX7_sharesFirst 53 = .ok (.iload_n 2, 1) := by decide +kernel
theorem dX7_sharesFirst_54 : decode cX7_sharesFirst 54 = .ok (.if_icmp .ne 7, 3) := by decide +kernel
theorem dX7_sharesFirst_57 : decode cX7_sharesFirst 57 = .ok (.iconst 1, 1) := by decide +kernel
theorem dX7_sharesFirst_58 : decode cX7_sharesFirst 58 = .ok (.goto 4, 3) := by decide +kernel
theorem dX7_sharesFirst_61 : decode cX7_sharesFirst 61 = .ok (.iconst 0, 1) := by decide +kernel
theorem dX7_sharesFirst_62 : decode cX7_sharesFirst 62 = .ok (.ireturn, 1) := by decide +kernel
theorem dX7_allLengths_0 : decode cX7_allLengths 0 = .ok (.iconst 0, 1) := by decide +kernel
theorem dX7_allLengths_1 : decode cX7_allLengths 1 = .ok (.istore_n 1, 1) := by decide +kernel
theorem dX7_allLengths_2 : decode cX7_allLengths 2 = .ok (.iconst 0, 1) := by decide +kernel
theorem dX7_allLengths_3 : decode cX7_allLengths 3 = .ok (.istore_n 2, 1) := by decide +kernel
theorem dX7_allLengths_4 : decode cX7_allLengths 4 = .ok (.iload_n 2, 1) := by decide +kernel
theorem dX7_allLengths_5 : decode cX7_allLengths 5 = .ok (.aload_n 0, 1) := by decide +kernel
theorem dX7_allLengths_6 : decode cX7_allLengths 6 = .ok (.getfield 24, 3) := by decide +kernel
theorem dX7_allLengths_9 : decode cX7_allLengths 9 = .ok (.if_icmp .ge 21, 3) := by decide +kernel
theorem dX7_allLengths_12 : decode cX7_allLengths 12 = .ok (.iload_n 1, 1) := by decide +kernel
theorem dX7_allLengths_13 : decode cX7_allLengths 13 = .ok (.aload_n 0, 1) := by decide +kernel
theorem dX7_allLengths_14 : decode cX7_allLengths 14 = .ok (.getfield 11, 3) := by decide +kernel
theorem dX7_allLengths_17 : decode cX7_allLengths 17 = .ok (.iload_n 2, 1) := by decide +kernel
theorem dX7_allLengths_18 : decode cX7_allLengths 18 = .ok (.aaload, 1) := by decide +kernel
theorem dX7_allLengths_19 : decode cX7_allLengths 19 = .ok (.invokevirtual 65, 3) := by decide +kernel
theorem dX7_allLengths_22 : decode cX7_allLengths 22 = .ok (.iadd, 1) := by decide +kernel
theorem dX7_allLengths_23 : decode cX7_allLengths 23 = .ok (.istore_n 1, 1) := by decide +kernel
theorem dX7_allLengths_24 : decode cX7_allLengths 24 = .ok (.iinc 2 1, 3) := by decide +kernel
theorem dX7_allLengths_27 : decode cX7_allLengths 27 = .ok (.goto (-23), 3) := by decide +kernel
theorem dX7_allLengths_30 : decode cX7_allLengths 30 = .ok (.iload_n 1, 1) := by decide +kernel
theorem dX7_allLengths_31 : decode cX7_allLengths 31 = .ok (.ireturn, 1) := by decide +kernel
theorem dX7_greatestEnd_0 : decode cX7_greatestEnd 0 = .ok (.iconst 0, 1) := by decide +kernel
theorem dX7_greatestEnd_1 : decode cX7_greatestEnd 1 = .ok (.istore_n 1, 1) := by decide +kernel
theorem dX7_greatestEnd_2 : decode cX7_greatestEnd 2 = .ok (.iconst 0, 1) := by decide +kernel
theorem dX7_greatestEnd_3 : decode cX7_greatestEnd 3 = .ok (.istore_n 2, 1) := by decide +kernel
theorem dX7_greatestEnd_4 : decode cX7_greatestEnd 4 = .ok (.iload_n 2, 1) := by decide +kernel
theorem dX7_greatestEnd_5 : decode cX7_greatestEnd 5 = .ok (.aload_n 0, 1) := by decide +kernel
theorem dX7_greatestEnd_6 : decode cX7_greatestEnd 6 = .ok (.getfield 24, 3) := by decide +kernel
theorem dX7_greatestEnd_9 : decode cX7_greatestEnd 9 = .ok (.if_icmp .ge 23, 3) := by decide +kernel
theorem dX7_greatestEnd_12 : decode cX7_greatestEnd 12 = .ok (.iload_n 1, 1) := by decide +kernel
theorem dX7_greatestEnd_13 : decode cX7_greatestEnd 13 = .ok (.aload_n 0, 1) := by decide +kernel
theorem dX7_greatestEnd_14 : decode cX7_greatestEnd 14 = .ok (.getfield 11, 3) := by decide +kernel
theorem dX7_greatestEnd_17 : decode cX7_greatestEnd 17 = .ok (.iload_n 2, 1) := by decide +kernel
theorem dX7_greatestEnd_18 : decode cX7_greatestEnd 18 = .ok (.aaload, 1) := by decide +kernel
theorem dX7_greatestEnd_19 : decode cX7_greatestEnd 19 = .ok (.getfield 43, 3) := by decide +kernel
theorem dX7_greatestEnd_22 : decode cX7_greatestEnd 22 = .ok (.invokestatic 69, 3) := by decide +kernel
theorem dX7_greatestEnd_25 : decode cX7_greatestEnd 25 = .ok (.istore_n 1, 1) := by decide +kernel
theorem dX7_greatestEnd_26 : decode cX7_greatestEnd 26 = .ok (.iinc 2 1, 3) := by decide +kernel
theorem dX7_greatestEnd_29 : decode cX7_greatestEnd 29 = .ok (.goto (-25), 3) := by decide +kernel
theorem dX7_greatestEnd_32 : decode cX7_greatestEnd 32 = .ok (.iload_n 1, 1) := by decide +kernel
theorem dX7_greatestEnd_33 : decode cX7_greatestEnd 33 = .ok (.ireturn, 1) := by decide +kernel
theorem dX7_countPairs_0 : decode cX7_countPairs 0 = .ok (.iconst 0, 1) := by decide +kernel
theorem dX7_countPairs_1 : decode cX7_countPairs 1 = .ok (.istore_n 1, 1) := by decide +kernel
theorem dX7_countPairs_2 : decode cX7_countPairs 2 = .ok (.iconst 0, 1) := by decide +kernel
theorem dX7_countPairs_3 : decode cX7_countPairs 3 = .ok (.istore_n 2, 1) := by decide +kernel
theorem dX7_countPairs_4 : decode cX7_countPairs 4 = .ok (.iload_n 2, 1) := by decide +kernel
theorem dX7_countPairs_5 : decode cX7_countPairs 5 = .ok (.aload_n 0, 1) := by decide +kernel
theorem dX7_countPairs_6 : decode cX7_countPairs 6 = .ok (.getfield 24, 3) := by decide +kernel
theorem dX7_countPairs_9 : decode cX7_countPairs 9 = .ok (.if_icmp .ge 25, 3) := by decide +kernel
theorem dX7_countPairs_12 : decode cX7_countPairs 12 = .ok (.aload_n 0, 1) := by decide +kernel
theorem dX7_countPairs_13 : decode cX7_countPairs 13 = .ok (.getfield 11, 3) := by decide +kernel
theorem dX7_countPairs_16 : decode cX7_countPairs 16 = .ok (.iload_n 2, 1) := by decide +kernel
theorem dX7_countPairs_17 : decode cX7_countPairs 17 = .ok (.aaload, 1) := by decide +kernel
theorem dX7_countPairs_18 : decode cX7_countPairs 18 = .ok (.getfield 46, 3) := by decide +kernel
theorem dX7_countPairs_21 : decode cX7_countPairs 21 = .ok (.iconst 2, 1) := by decide +kernel
theorem dX7_countPairs_22 : decode cX7_countPairs 22 = .ok (.if_icmp .ne 6, 3) := by decide +kernel
theorem dX7_countPairs_25 : decode cX7_countPairs 25 = .ok (.iinc 1 1, 3) := by decide +kernel
theorem dX7_countPairs_28 : decode cX7_countPairs 28 = .ok (.iinc 2 1, 3) := by decide +kernel
theorem dX7_countPairs_31 : decode cX7_countPairs 31 = .ok (.goto (-27), 3) := by decide +kernel
theorem dX7_countPairs_34 : decode cX7_countPairs 34 = .ok (.iload_n 1, 1) := by decide +kernel
theorem dX7_countPairs_35 : decode cX7_countPairs 35 = .ok (.ireturn, 1) := by decide +kernel
theorem dX7_shownAt_0 : decode cX7_shownAt 0 = .ok (.iconst 0, 1) := by decide +kernel
theorem dX7_shownAt_1 : decode cX7_shownAt 1 = .ok (.istore_n 2, 1) := by decide +kernel
theorem dX7_shownAt_2 : decode cX7_shownAt 2 = .ok (.iconst 0, 1) := by decide +kernel
theorem dX7_shownAt_3 : decode cX7_shownAt 3 = .ok (.istore_n 3, 1) := by decide +kernel
theorem dX7_shownAt_4 : decode cX7_shownAt 4 = .ok (.iload_n 3, 1) := by decide +kernel
theorem dX7_shownAt_5 : decode cX7_shownAt 5 = .ok (.aload_n 0, 1) := by decide +kernel
theorem dX7_shownAt_6 : decode cX7_shownAt 6 = .ok (.getfield 24, 3) := by decide +kernel
theorem dX7_shownAt_9 : decode cX7_shownAt 9 = .ok (.if_icmp .ge 41, 3) := by decide +kernel
theorem dX7_shownAt_12 : decode cX7_shownAt 12 = .ok (.aload_n 0, 1) := by decide +kernel
theorem dX7_shownAt_13 : decode cX7_shownAt 13 = .ok (.getfield 11, 3) := by decide +kernel
theorem dX7_shownAt_16 : decode cX7_shownAt 16 = .ok (.iload_n 3, 1) := by decide +kernel
theorem dX7_shownAt_17 : decode cX7_shownAt 17 = .ok (.aaload, 1) := by decide +kernel
theorem dX7_shownAt_18 : decode cX7_shownAt 18 = .ok (.getfield 40, 3) := by decide +kernel
theorem dX7_shownAt_21 : decode cX7_shownAt 21 = .ok (.iload_n 1, 1) := by decide +kernel
theorem dX7_shownAt_22 : decode cX7_shownAt 22 = .ok (.if_icmp .gt 22, 3) := by decide +kernel
theorem dX7_shownAt_25 : decode cX7_shownAt 25 = .ok (.iload_n 1, 1) := by decide +kernel
theorem dX7_shownAt_26 : decode cX7_shownAt 26 = .ok (.aload_n 0, 1) := by decide +kernel
theorem dX7_shownAt_27 : decode cX7_shownAt 27 = .ok (.getfield 11, 3) := by decide +kernel
theorem dX7_shownAt_30 : decode cX7_shownAt 30 = .ok (.iload_n 3, 1) := by decide +kernel
theorem dX7_shownAt_31 : decode cX7_shownAt 31 = .ok (.aaload, 1) := by decide +kernel
theorem dX7_shownAt_32 : decode cX7_shownAt 32 = .ok (.getfield 43, 3) := by decide +kernel
theorem dX7_shownAt_35 : decode cX7_shownAt 35 = .ok (.if_icmp .ge 9, 3) := by decide +kernel
theorem dX7_shownAt_38 : decode cX7_shownAt 38 = .ok (.iload_n 2, 1) := by decide +kernel
theorem dX7_shownAt_39 : decode cX7_shownAt 39 = .ok (.iconst 1, 1) := by decide +kernel
theorem dX7_shownAt_40 : decode cX7_shownAt 40 = .ok (.iload_n 3, 1) := by decide +kernel
theorem dX7_shownAt_41 : decode cX7_shownAt 41 = .ok (.ishl, 1) := by decide +kernel
theorem dX7_shownAt_42 : decode cX7_shownAt 42 = .ok (.ior, 1) := by decide +kernel
theorem dX7_shownAt_43 : decode cX7_shownAt 43 = .ok (.istore_n 2, 1) := by decide +kernel
theorem dX7_shownAt_44 : decode cX7_shownAt 44 = .ok (.iinc 3 1, 3) := by decide +kernel
theorem dX7_shownAt_47 : decode cX7_shownAt 47 = .ok (.goto (-43), 3) := by decide +kernel
theorem dX7_shownAt_50 : decode cX7_shownAt 50 = .ok (.iload_n 2, 1) := by decide +kernel
theorem dX7_shownAt_51 : decode cX7_shownAt 51 = .ok (.ireturn, 1) := by decide +kernel
theorem dX8_init_0 : decode cX8_init 0 = .ok (.aload_n 0, 1) := by decide +kernel
theorem dX8_init_1 : decode cX8_init 1 = .ok (.invokespecial 3, 3) := by decide +kernel
theorem dX8_init_4 : decode cX8_init 4 = .ok (.aload_n 0, 1) := by decide +kernel
theorem dX8_init_5 : decode cX8_init 5 = .ok (.bipush 10, 2) := by decide +kernel
theorem dX8_init_7 : decode cX8_init 7 = .ok (.newarray .int, 2) := by decide +kernel
theorem dX8_init_9 : decode cX8_init 9 = .ok (.putfield 9, 3) := by decide +kernel
theorem dX8_init_12 : decode cX8_init 12 = .ok (.aload_n 0, 1) := by decide +kernel
theorem dX8_init_13 : decode cX8_init 13 = .ok (.bipush 10, 2) := by decide +kernel
theorem dX8_init_15 : decode cX8_init 15 = .ok (.newarray .int, 2) := by decide +kernel
theorem dX8_init_17 : decode cX8_init 17 = .ok (.putfield 15, 3) := by decide +kernel
theorem dX8_init_20 : decode cX8_init 20 = .ok (.aload_n 0, 1) := by decide +kernel
theorem dX8_init_21 : decode cX8_init 21 = .ok (.new 18, 3) := by decide +kernel
theorem dX8_init_24 : decode cX8_init 24 = .ok (.dup, 1) := by decide +kernel
theorem dX8_init_25 : decode cX8_init 25 = .ok (.aload_n 1, 1) := by decide +kernel
theorem dX8_init_26 : decode cX8_init 26 = .ok (.invokespecial 20, 3) := by decide +kernel
theorem dX8_init_29 : decode cX8_init 29 = .ok (.putfield 23, 3) := by decide +kernel
theorem dX8_init_32 : decode cX8_init 32 = .ok (.return_, 1) := by decide +kernel
theorem dX8_carryOut_0 : decode cX8_carryOut 0 = .ok (.aload_n 0, 1) := by decide +kernel
theorem dX8_carryOut_1 : decode cX8_carryOut 1 = .ok (.getfield 23, 3) := by decide +kernel
theorem dX8_carryOut_4 : decode cX8_carryOut 4 = .ok (.aload_n 1, 1) := by decide +kernel
theorem dX8_carryOut_5 : decode cX8_carryOut 5 = .ok (.invokevirtual 27, 3) := by decide +kernel
theorem dX8_carryOut_8 : decode cX8_carryOut 8 = .ok (.aload_n 0, 1) := by decide +kernel
theorem dX8_carryOut_9 : decode cX8_carryOut 9 = .ok (.iconst 0, 1) := by decide +kernel
theorem dX8_carryOut_10 : decode cX8_carryOut 10 = .ok (.putfield 31, 3) := by decide +kernel
theorem dX8_carryOut_13 : decode cX8_carryOut 13 = .ok (.iload_n 2, 1) := by decide +kernel
theorem dX8_carryOut_14 : decode cX8_carryOut 14 = .ok (.iconst 1, 1) := by decide +kernel
theorem dX8_carryOut_15 : decode cX8_carryOut 15 = .ok (.iand, 1) := by decide +kernel
theorem dX8_carryOut_16 : decode cX8_carryOut 16 = .ok (.ifCond .eq 13, 3) := by decide +kernel
theorem dX8_carryOut_19 : decode cX8_carryOut 19 = .ok (.aload_n 0, 1) := by decide +kernel
theorem dX8_carryOut_20 : decode cX8_carryOut 20 = .ok (.aload_n 1, 1) := by decide +kernel
theorem dX8_carryOut_21 : decode cX8_carryOut 21 = .ok (.invokevirtual 35, 3) := by decide +kernel
theorem dX8_carryOut_24 : decode cX8_carryOut 24 = .ok (.ifCond .ne 5, 3) := by decide +kernel
theorem dX8_carryOut_27 : decode cX8_carryOut 27 = .ok (.iconst 0, 1) := by decide +kernel
theorem dX8_carryOut_28 : decode cX8_carryOut 28 = .ok (.ireturn, 1) := by decide +kernel
theorem dX8_carryOut_29 : decode cX8_carryOut 29 = .ok (.iload_n 2, 1) := by decide +kernel
theorem dX8_carryOut_30 : decode cX8_carryOut 30 = .ok (.iconst 2, 1) := by decide +kernel
theorem dX8_carryOut_31 : decode cX8_carryOut 31 = .ok (.iand, 1) := by decide +kernel
theorem dX8_carryOut_32 : decode cX8_carryOut 32 = .ok (.ifCond .eq 7, 3) := by decide +kernel
theorem dX8_carryOut_35 : decode cX8_carryOut 35 = .ok (.aload_n 0, 1) := by decide +kernel
theorem dX8_carryOut_36 : decode cX8_carryOut 36 = .ok (.invokevirtual 39, 3) := by decide +kernel
theorem dX8_carryOut_39 : decode cX8_carryOut 39 = .ok (.iload_n 2, 1) := by decide +kernel
theorem dX8_carryOut_40 : decode cX8_carryOut 40 = .ok (.iconst 4, 1) := by decide +kernel
theorem dX8_carryOut_41 : decode cX8_carryOut 41 = .ok (.iand, 1) := by decide +kernel
theorem dX8_carryOut_42 : decode cX8_carryOut 42 = .ok (.ifCond .eq 7, 3) := by decide +kernel
theorem dX8_carryOut_45 : decode cX8_carryOut 45 = .ok (.aload_n 0, 1) := by decide +kernel
theorem dX8_carryOut_46 : decode cX8_carryOut 46 = .ok (.invokevirtual 42, 3) := by decide +kernel
theorem dX8_carryOut_49 : decode cX8_carryOut 49 = .ok (.iload_n 2, 1) := by decide +kernel
theorem dX8_carryOut_50 : decode cX8_carryOut 50 = .ok (.bipush 8, 2) := by decide +kernel
theorem dX8_carryOut_52 : decode cX8_carryOut 52 = .ok (.iand, 1) := by decide +kernel
theorem dX8_carryOut_53 : decode cX8_carryOut 53 = .ok (.ifCond .eq 7, 3) := by decide +kernel
theorem dX8_carryOut_56 : decode cX8_carryOut 56 = .ok (.aload_n 0, 1) := by decide +kernel
theorem dX8_carryOut_57 : decode cX8_carryOut 57 = .ok (.invokevirtual 45, 3) := by decide +kernel
theorem dX8_carryOut_60 : decode cX8_carryOut 60 = .ok (.iload_n 2, 1) := by decide +kernel
theorem dX8_carryOut_61 : decode cX8_carryOut 61 = .ok (.bipush 16, 2) := by decide +kernel
theorem dX8_carryOut_63 : decode cX8_carryOut 63 = .ok (.iand, 1) := by decide +kernel
theorem dX8_carryOut_64 : decode cX8_carryOut 64 = .ok (.ifCond .eq 7, 3) := by decide +kernel
theorem dX8_carryOut_67 : decode cX8_carryOut 67 = .ok (.aload_n 0, 1) := by decide +kernel
theorem dX8_carryOut_68 : decode cX8_carryOut 68 = .ok (.invokevirtual 48, 3) := by decide +kernel
theorem dX8_carryOut_71 : decode cX8_carryOut 71 = .ok (.iconst 1, 1) := by decide +kernel
theorem dX8_carryOut_72 : decode cX8_carryOut 72 = .ok (.ireturn, 1) := by decide +kernel
theorem dX8_countStretches_0 : decode cX8_countStretches 0 = .ok (.aload_n 0, 1) := by decide +kernel
theorem dX8_countStretches_1 : decode cX8_countStretches 1 = .ok (.aload_n 1, 1) := by decide +kernel
theorem dX8_countStretches_2 : decode cX8_countStretches 2 = .ok (.aload_n 2, 1) := by decide +kernel
theorem dX8_countStretches_3 : decode cX8_countStretches 3 = .ok (.invokevirtual 51, 3) := by decide +kernel
theorem dX8_countStretches_6 : decode cX8_countStretches 6 = .ok (.aload_n 0, 1) := by decide +kernel
theorem dX8_countStretches_7 : decode cX8_countStretches 7 = .ok (.getfield 55, 3) := by decide +kernel
theorem dX8_countStretches_10 : decode cX8_countStretches 10 = .ok (.ireturn, 1) := by decide +kernel
theorem dX8_map_0 : decode cX8_map 0 = .ok (.aload_n 0, 1) := by decide +kernel
theorem dX8_map_1 : decode cX8_map 1 = .ok (.getfield 23, 3) := by decide +kernel
theorem dX8_map_4 : decode cX8_map 4 = .ok (.getfield 58, 3) := by decide +kernel
theorem dX8_map_7 : decode cX8_map 7 = .ok (.astore_n 2, 1) := by decide +kernel
theorem dX8_map_8 : decode cX8_map 8 = .ok (.aload_n 2, 1) := by decide +kernel
theorem dX8_map_9 : decode cX8_map 9 = .ok (.invokevirtual 62, 3) := by decide +kernel
theorem dX8_map_12 : decode cX8_map 12 = .ok (.iconst 0, 1) := by decide +kernel
theorem dX8_map_13 : decode cX8_map 13 = .ok (.istore_n 3, 1) := by decide +kernel
theorem dX8_map_14 : decode cX8_map 14 = .ok (.iload_n 3, 1) := by decide +kernel
theorem dX8_map_15 : decode cX8_map 15 = .ok (.aload_n 1, 1) := by decide +kernel
theorem dX8_map_16 : decode cX8_map 16 = .ok (.getfield 58, 3) := by decide +kernel
theorem dX8_map_19 : decode cX8_map 19 = .ok (.invokevirtual 67, 3) := by decide +kernel
theorem dX8_map_22 : decode cX8_map 22 = .ok (.if_icmp .ge 100, 3) := by decide +kernel
theorem dX8_map_25 : decode cX8_map 25 = .ok (.aload_n 1, 1) := by decide +kernel
theorem dX8_map_26 : decode cX8_map 26 = .ok (.getfield 58, 3) := by decide +kernel
theorem dX8_map_29 : decode cX8_map 29 = .ok (.iload_n 3, 1) := by decide +kernel
theorem dX8_map_30 : decode cX8_map 30 = .ok (.invokevirtual 71, 3) := by decide +kernel
theorem dX8_map_33 : decode cX8_map 33 = .ok (.astore 4, 2) := by decide +kernel
theorem dX8_map_35 : decode cX8_map 35 = .ok (.aload_n 0, 1) := by decide +kernel
theorem dX8_map_36 : decode cX8_map 36 = .ok (.aload 4, 2) := by decide +kernel
theorem dX8_map_38 : decode cX8_map 38 = .ok (.aload_n 1, 1) := by decide +kernel
theorem dX8_map_39 : decode cX8_map 39 = .ok (.getfield 75, 3) := by decide +kernel
theorem dX8_map_42 : decode cX8_map 42 = .ok (.invokevirtual 51, 3) := by decide +kernel
theorem dX8_map_45 : decode cX8_map 45 = .ok (.aload_n 0, 1) := by decide +kernel
theorem dX8_map_46 : decode cX8_map 46 = .ok (.getfield 55, 3) := by decide +kernel
theorem dX8_map_49 : decode cX8_map 49 = .ok (.ifCond .ne 13, 3) := by decide +kernel
theorem dX8_map_52 : decode cX8_map 52 = .ok (.aload_n 0, 1) := by decide +kernel
theorem dX8_map_53 : decode cX8_map 53 = .ok (.dup, 1) := by decide +kernel
theorem dX8_map_54 : decode cX8_map 54 = .ok (.getfield 31, 3) := by decide +kernel
theorem dX8_map_57 : decode cX8_map 57 = .ok (.iconst 1, 1) := by decide +kernel
theorem dX8_map_58 : decode cX8_map 58 = .ok (.iadd, 1) := by decide +kernel
theorem dX8_map_59 : decode cX8_map 59 = .ok (.putfield 31, 3) := by decide +kernel
theorem dX8_map_62 : decode cX8_map 62 = .ok (.aload_n 2, 1) := by decide +kernel
theorem dX8_map_63 : decode cX8_map 63 = .ok (.invokevirtual 67, 3) := by decide +kernel
theorem dX8_map_66 : decode cX8_map 66 = .ok (.aload_n 0, 1) := by decide +kernel
theorem dX8_map_67 : decode cX8_map 67 = .ok (.getfield 55, 3) := by decide +kernel
theorem dX8_map_70 : decode cX8_map 70 = .ok (.iadd, 1) := by decide +kernel
theorem dX8_map_71 : decode cX8_map 71 = .ok (.bipush 16, 2) := by decide +kernel
theorem dX8_map_73 : decode cX8_map 73 = .ok (.if_icmp .le 5, 3) := by decide +kernel
theorem dX8_map_76 : decode cX8_map 76 = .ok (.iconst 0, 1) := by decide +kernel
theorem dX8_map_77 : decode cX8_map 77 = .ok (.ireturn, 1) := by decide +kernel
theorem dX8_map_78 : decode cX8_map 78 = .ok (.iconst 0, 1) := by decide +kernel
theorem dX8_map_79 : decode cX8_map 79 = .ok (.istore 5, 2) := by decide +kernel
theorem dX8_map_81 : decode cX8_map 81 = .ok (.iload 5, 2) := by decide +kernel
theorem dX8_map_83 : decode cX8_map 83 = .ok (.aload_n 0, 1) := by decide +kernel
theorem dX8_map_84 : decode cX8_map 84 = .ok (.getfield 55, 3) := by decide +kernel
theorem dX8_map_87 : decode cX8_map 87 = .ok (.if_icmp .ge 29, 3) := by decide +kernel
theorem dX8_map_90 : decode cX8_map 90 = .ok (.aload_n 2, 1) := by decide +kernel
theorem dX8_map_91 : decode cX8_map 91 = .ok (.aload 4, 2) := by decide +kernel
theorem dX8_map_93 : decode cX8_map 93 = .ok (.aload_n 0, 1) := by decide +kernel
theorem dX8_map_94 : decode cX8_map 94 = .ok (.getfield 9, 3) := by decide +kernel
theorem dX8_map_97 : decode cX8_map 97 = .ok (.iload 5, 2) := by decide +kernel
theorem dX8_map_99 : decode cX8_map 99 = .ok (.iaload, 1) := by decide +kernel
theorem dX8_map_100 : decode cX8_map 100 = .ok (.aload_n 0, 1) := by decide +kernel
theorem dX8_map_101 : decode cX8_map 101 = .ok (.getfield 15, 3) := by decide +kernel
theorem dX8_map_104 : decode cX8_map 104 = .ok (.iload 5, 2) := by decide +kernel
theorem dX8_map_106 : decode cX8_map 106 = .ok (.iaload, 1) := by decide +kernel
theorem dX8_map_107 : decode cX8_map 107 = .ok (.invokevirtual 79, 3) := by decide +kernel
theorem dX8_map_110 : decode cX8_map 110 = .ok (.iinc 5 1, 3) := by decide +kernel
theorem dX8_map_113 : decode cX8_map 113 = .ok (.goto (-32), 3) := by decide +kernel
theorem dX8_map_116 : decode cX8_map 116 = .ok (.iinc 3 1, 3) := by decide +kernel
theorem dX8_map_119 : decode cX8_map 119 = .ok (.goto (-105), 3) := by decide +kernel
theorem dX8_map_122 : decode cX8_map 122 = .ok (.iconst 1, 1) := by decide +kernel
theorem dX8_map_123 : decode cX8_map 123 = .ok (.ireturn, 1) := by decide +kernel
theorem dX8_findStretches_0 : decode cX8_findStretches 0 = .ok (.aload_n 0, 1) := by decide +kernel
theorem dX8_findStretches_1 : decode cX8_findStretches 1 = .ok (.iconst 0, 1) := by decide +kernel
theorem dX8_findStretches_2 : decode cX8_findStretches 2 = .ok (.putfield 55, 3) := by decide +kernel
theorem dX8_findStretches_5 : decode cX8_findStretches 5 = .ok (.iconst 0, 1) := by decide +kernel
theorem dX8_findStretches_6 : decode cX8_findStretches 6 = .ok (.istore_n 3, 1) := by decide +kernel
theorem dX8_findStretches_7 : decode cX8_findStretches 7 = .ok (.iconst 0, 1) := by decide +kernel
theorem dX8_findStretches_8 : decode cX8_findStretches 8 = .ok (.istore 4, 2) := by decide +kernel
theorem dX8_findStretches_10 : decode cX8_findStretches 10 = .ok (.iload 4, 2) := by decide +kernel
theorem dX8_findStretches_12 : decode cX8_findStretches 12 = .ok (.aload_n 2, 1) := by decide +kernel
theorem dX8_findStretches_13 : decode cX8_findStretches 13 = .ok (.invokevirtual 83, 3) := by decide +kernel
theorem dX8_findStretches_16 : decode cX8_findStretches 16 = .ok (.if_icmp .ge 82, 3) := by decide +kernel
theorem dX8_findStretches_19 : decode cX8_findStretches 19 = .ok (.aload_n 2, 1) := by decide +kernel
theorem dX8_findStretches_20 : decode cX8_findStretches 20 = .ok (.iload 4, 2) := by decide +kernel
theorem dX8_findStretches_22 : decode cX8_findStretches 22 = .ok (.invokevirtual 86, 3) := by decide +kernel
theorem dX8_findStretches_25 : decode cX8_findStretches 25 = .ok (.istore 5, 2) := by decide +kernel
theorem dX8_findStretches_27 : decode cX8_findStretches 27 = .ok (.aload_n 1, 1) := by decide +kernel
theorem dX8_findStretches_28 : decode cX8_findStretches 28 = .ok (.getfield 90, 3) := by decide +kernel
theorem dX8_findStretches_31 : decode cX8_findStretches 31 = .ok (.iload 5, 2) := by decide +kernel
theorem dX8_findStretches_33 : decode cX8_findStretches 33 = .ok (.invokestatic 95, 3) := by decide +kernel
theorem dX8_findStretches_36 : decode cX8_findStretches 36 = .ok (.istore 6, 2) := by decide +kernel
theorem dX8_findStretches_38 : decode cX8_findStretches 38 = .ok (.aload_n 1, 1) := by decide +kernel
theorem dX8_findStretches_39 : decode cX8_findStretches 39 = .ok (.getfield 101, 3) := by decide +kernel
theorem dX8_findStretches_42 : decode cX8_findStretches 42 = .ok (.iload 5, 2) := by decide +kernel
theorem dX8_findStretches_44 : decode cX8_findStretches 44 = .ok (.aload_n 2, 1) := by decide +kernel
theorem dX8_findStretches_45 : decode cX8_findStretches 45 = .ok (.iload 4, 2) := by decide +kernel
theorem dX8_findStretches_47 : decode cX8_findStretches 47 = .ok (.invokevirtual 104, 3) := by decide +kernel
theorem dX8_findStretches_50 : decode cX8_findStretches 50 = .ok (.iadd, 1) := by decide +kernel
theorem dX8_findStretches_51 : decode cX8_findStretches 51 = .ok (.invokestatic 107, 3) := by decide +kernel
theorem dX8_findStretches_54 : decode cX8_findStretches 54 = .ok (.istore 7, 2) := by decide +kernel
theorem dX8_findStretches_56 : decode cX8_findStretches 56 = .ok (.iload 7, 2) := by decide +kernel
theorem dX8_findStretches_58 : decode cX8_findStretches 58 = .ok (.iload 6, 2) := by decide +kernel
theorem dX8_findStretches_60 : decode cX8_findStretches 60 = .ok (.isub, 1) := by decide +kernel
theorem dX8_findStretches_61 : decode cX8_findStretches 61 = .ok (.iconst 4, 1) := by decide +kernel
theorem dX8_findStretches_62 : decode cX8_findStretches 62 = .ok (.if_icmp .lt 21, 3) := by decide +kernel
theorem dX8_findStretches_65 : decode cX8_findStretches 65 = .ok (.aload_n 0, 1) := by decide +kernel
theorem dX8_findStretches_66 : decode cX8_findStretches 66 = .ok (.iload_n 3, 1) := by decide +kernel
theorem dX8_findStretches_67 : decode cX8_findStretches 67 = .ok (.iload 6, 2) := by decide +kernel
theorem dX8_findStretches_69 : decode cX8_findStretches 69 = .ok (.iadd, 1) := by decide +kernel
theorem dX8_findStretches_70 : decode cX8_findStretches 70 = .ok (.iload 5, 2) := by decide +kernel
theorem dX8_findStretches_72 : decode cX8_findStretches 72 = .ok (.isub, 1) := by decide +kernel
theorem dX8_findStretches_73 : decode cX8_findStretches 73 = .ok (.iload_n 3, 1) := by decide +kernel
theorem dX8_findStretches_74 : decode cX8_findStretches 74 = .ok (.iload 7, 2) := by decide +kernel
theorem dX8_findStretches_76 : decode cX8_findStretches 76 = .ok (.iadd, 1) := by decide +kernel
theorem dX8_findStretches_77 : decode cX8_findStretches 77 = .ok (.iload 5, 2) := by decide +kernel
theorem dX8_findStretches_79 : decode cX8_findStretches 79 = .ok (.isub, 1) := by decide +kernel
theorem dX8_findStretches_80 : decode cX8_findStretches 80 = .ok (.invokevirtual 110, 3) := by decide +kernel
theorem dX8_findStretches_83 : decode cX8_findStretches 83 = .ok (.iload_n 3, 1) := by decide +kernel
theorem dX8_findStretches_84 : decode cX8_findStretches 84 = .ok (.aload_n 2, 1) := by decide +kernel
theorem dX8_findStretches_85 : decode cX8_findStretches 85 = .ok (.iload 4, 2) := by decide +kernel
theorem dX8_findStretches_87 : decode cX8_findStretches 87 = .ok (.invokevirtual 104, 3) := by decide +kernel
theorem dX8_findStretches_90 : decode cX8_findStretches 90 = .ok (.iadd, 1) := by decide +kernel
theorem dX8_findStretches_91 : decode cX8_findStretches 91 = .ok (.istore_n 3, 1) := by decide +kernel
theorem dX8_findStretches_92 : decode cX8_findStretches 92 = .ok (.iinc 4 1, 3) := by decide +kernel
theorem dX8_findStretches_95 : decode cX8_findStretches 95 = .ok (.goto (-85), 3) := by decide +kernel
theorem dX8_findStretches_98 : decode cX8_findStretches 98 = .ok (.return_, 1) := by decide +kernel
theorem dX8_put_0 : decode cX8_put 0 = .ok (.aload_n 0, 1) := by decide +kernel
theorem dX8_put_1 : decode cX8_put 1 = .ok (.getfield 55, 3) := by decide +kernel
theorem dX8_put_4 : decode cX8_put 4 = .ok (.ifCond .le 33, 3) := by decide +kernel
theorem dX8_put_7 : decode cX8_put 7 = .ok (.aload_n 0, 1) := by decide +kernel
theorem dX8_put_8 : decode cX8_put 8 = .ok (.getfield 15, 3) := by decide +kernel
theorem dX8_put_11 : decode cX8_put 11 = .ok (.aload_n 0, 1) := by decide +kernel
theorem dX8_put_12 : decode cX8_put 12 = .ok (.getfield 55, 3) := by decide +kernel
theorem dX8_put_15 : decode cX8_put 15 = .ok (.iconst 1, 1) := by decide +kernel
theorem dX8_put_16 : decode cX8_put 16 = .ok (.isub, 1) := by decide +kernel
theorem dX8_put_17 : decode cX8_put 17 = .ok (.iaload, 1) := by decide +kernel
theorem dX8_put_18 : decode cX8_put 18 = .ok (.iload_n 1, 1) := by decide +kernel
theorem dX8_put_19 : decode cX8_put 19 = .ok (.if_icmp .ne 18, 3) := by decide +kernel
theorem dX8_put_22 : decode cX8_put 22 = .ok (.aload_n 0, 1) := by decide +kernel
theorem dX8_put_23 : decode cX8_put 23 = .ok (.getfield 15, 3) := by decide +kernel
theorem dX8_put_26 : decode cX8_put 26 = .ok (.aload_n 0, 1) := by decide +kernel
theorem dX8_put_27 : decode cX8_put 27 = .ok (.getfield 55, 3) := by decide +kernel
theorem dX8_put_30 : decode cX8_put 30 = .ok (.iconst 1, 1) := by decide +kernel
theorem dX8_put_31 : decode cX8_put 31 = .ok (.isub, 1) := by decide +kernel
theorem dX8_put_32 : decode cX8_put 32 = .ok (.iload_n 2, 1) := by decide +kernel
theorem dX8_put_33 : decode cX8_put 33 = .ok (.iastore, 1) := by decide +kernel
theorem dX8_put_34 : decode cX8_put 34 = .ok (.goto 42, 3) := by decide +kernel
theorem dX8_put_37 : decode cX8_put 37 = .ok (.aload_n 0, 1) := by decide +kernel
theorem dX8_put_38 : decode cX8_put 38 = .ok (.getfield 55, 3) := by decide +kernel
theorem dX8_put_41 : decode cX8_put 41 = .ok (.bipush 10, 2) := by decide +kernel
theorem dX8_put_43 : decode cX8_put 43 = .ok (.if_icmp .ge 33, 3) := by decide +kernel
theorem dX8_put_46 : decode cX8_put 46 = .ok (.aload_n 0, 1) := by decide +kernel
theorem dX8_put_47 : decode cX8_put 47 = .ok (.getfield 9, 3) := by decide +kernel
theorem dX8_put_50 : decode cX8_put 50 = .ok (.aload_n 0, 1) := by decide +kernel
theorem dX8_put_51 : decode cX8_put 51 = .ok (.getfield 55, 3) := by decide +kernel
theorem dX8_put_54 : decode cX8_put 54 = .ok (.iload_n 1, 1) := by decide +kernel
theorem dX8_put_55 : decode cX8_put 55 = .ok (.iastore, 1) := by decide +kernel
theorem dX8_put_56 : decode cX8_put 56 = .ok (.aload_n 0, 1) := by decide +kernel
theorem dX8_put_57 : decode cX8_put 57 = .ok (.getfield 15, 3) := by decide +kernel
theorem dX8_put_60 : decode cX8_put 60 = .ok (.aload_n 0, 1) := by decide +kernel
theorem dX8_put_61 : decode cX8_put 61 = .ok (.getfield 55, 3) := by decide +kernel
theorem dX8_put_64 : decode cX8_put 64 = .ok (.iload_n 2, 1) := by decide +kernel
theorem dX8_put_65 : decode cX8_put 65 = .ok (.iastore, 1) := by decide +kernel
theorem dX8_put_66 : decode cX8_put 66 = .ok (.aload_n 0, 1) := by decide +kernel
theorem dX8_put_67 : decode cX8_put 67 = .ok (.dup, 1) := by decide +kernel
theorem dX8_put_68 : decode cX8_put 68 = .ok (.getfield 55, 3) := by decide +kernel
theorem dX8_put_71 : decode cX8_put 71 = .ok (.iconst 1, 1) := by decide +kernel
theorem dX8_put_72 : decode cX8_put 72 = .ok (.iadd, 1) := by decide +kernel
theorem dX8_put_73 : decode cX8_put 73 = .ok (.putfield 55, 3) := by decide +kernel
theorem dX8_put_76 : decode cX8_put 76 = .ok (.return_, 1) := by decide +kernel
theorem dX8_merge_0 : decode cX8_merge 0 = .ok (.aload_n 0, 1) := by decide +kernel
theorem dX8_merge_1 : decode cX8_merge 1 = .ok (.getfield 23, 3) := by decide +kernel
theorem dX8_merge_4 : decode cX8_merge 4 = .ok (.getfield 58, 3) := by decide +kernel
theorem dX8_merge_7 : decode cX8_merge 7 = .ok (.astore_n 1, 1) := by decide +kernel
theorem dX8_merge_8 : decode cX8_merge 8 = .ok (.iconst 0, 1) := by decide +kernel
theorem dX8_merge_9 : decode cX8_merge 9 = .ok (.istore_n 2, 1) := by decide +kernel
theorem dX8_merge_10 : decode cX8_merge 10 = .ok (.iload_n 2, 1) := by decide +kernel
theorem dX8_merge_11 : decode cX8_merge 11 = .ok (.iconst 1, 1) := by decide +kernel
theorem dX8_merge_12 : decode cX8_merge 12 = .ok (.iadd, 1) := by decide +kernel
theorem dX8_merge_13 : decode cX8_merge 13 = .ok (.aload_n 1, 1) := by decide +kernel
theorem dX8_merge_14 : decode cX8_merge 14 = .ok (.invokevirtual 67, 3) := by decide +kernel
theorem dX8_merge_17 : decode cX8_merge 17 = .ok (.if_icmp .ge 49, 3) := by decide +kernel
theorem dX8_merge_20 : decode cX8_merge 20 = .ok (.aload_n 1, 1) := by decide +kernel
theorem dX8_merge_21 : decode cX8_merge 21 = .ok (.iload_n 2, 1) := by decide +kernel
theorem dX8_merge_22 : decode cX8_merge 22 = .ok (.invokevirtual 71, 3) := by decide +kernel
theorem dX8_merge_25 : decode cX8_merge 25 = .ok (.aload_n 1, 1) := by decide +kernel
theorem dX8_merge_26 : decode cX8_merge 26 = .ok (.iload_n 2, 1) := by decide +kernel
theorem dX8_merge_27 : decode cX8_merge 27 = .ok (.iconst 1, 1) := by decide +kernel
theorem dX8_merge_28 : decode cX8_merge 28 = .ok (.iadd, 1) := by decide +kernel
theorem dX8_merge_29 : decode cX8_merge 29 = .ok (.invokevirtual 71, 3) := by decide +kernel
theorem dX8_merge_32 : decode cX8_merge 32 = .ok (.invokevirtual 114, 3) := by decide +kernel
theorem dX8_merge_35 : decode cX8_merge 35 = .ok (.ifCond .eq 25, 3) := by decide +kernel
theorem dX8_merge_38 : decode cX8_merge 38 = .ok (.aload_n 1, 1) := by decide +kernel
theorem dX8_merge_39 : decode cX8_merge 39 = .ok (.iload_n 2, 1) := by decide +kernel
theorem dX8_merge_40 : decode cX8_merge 40 = .ok (.invokevirtual 71, 3) := by decide +kernel
theorem dX8_merge_43 : decode cX8_merge 43 = .ok (.aload_n 1, 1) := by decide +kernel
theorem dX8_merge_44 : decode cX8_merge 44 = .ok (.iload_n 2, 1) := by decide +kernel
theorem dX8_merge_45 : decode cX8_merge 45 = .ok (.iconst 1, 1) := by decide +kernel
theorem dX8_merge_46 : decode cX8_merge 46 = .ok (.iadd, 1) := by decide +kernel
theorem dX8_merge_47 : decode cX8_merge 47 = .ok (.invokevirtual 71, 3) := by decide +kernel
theorem dX8_merge_50 : decode cX8_merge 50 = .ok (.invokevirtual 118, 3) := by decide +kernel
theorem dX8_merge_53 : decode cX8_merge 53 = .ok (.aload_n 1, 1) := by decide +kernel
theorem dX8_merge_54 : decode cX8_merge 54 = .ok (.iload_n 2, 1) := by decide +kernel
theorem dX8_merge_55 : decode cX8_merge 55 = .ok (.iconst 1, 1) := by decide +kernel
theorem dX8_merge_56 : decode cX8_merge 56 = .ok (.iadd, 1) := by decide +kernel
theorem dX8_merge_57 : decode cX8_merge 57 = .ok (.invokevirtual 122, 3) := by decide +kernel
theorem dX8_merge_60 : decode cX8_merge 60 = .ok (.iinc 2 1, 3) := by decide +kernel
theorem dX8_merge_63 : decode cX8_merge 63 = .ok (.goto (-53), 3) := by decide +kernel
theorem dX8_merge_66 : decode cX8_merge 66 = .ok (.return_, 1) := by decide +kernel
theorem dX8_stretch_0 : decode cX8_stretch 0 = .ok (.aload_n 0, 1) := by decide +kernel
theorem dX8_stretch_1 : decode cX8_stretch 1 = .ok (.getfield 23, 3) := by decide +kernel
theorem dX8_stretch_4 : decode cX8_stretch 4 = .ok (.getfield 75, 3) := by decide +kernel
theorem dX8_stretch_7 : decode cX8_stretch 7 = .ok (.invokevirtual 126, 3) := by decide +kernel
theorem dX8_stretch_10 : decode cX8_stretch 10 = .ok (.istore_n 1, 1) := by decide +kernel
theorem dX8_stretch_11 : decode cX8_stretch 11 = .ok (.iconst 0, 1) := by decide +kernel
theorem dX8_stretch_12 : decode cX8_stretch 12 = .ok (.istore_n 2, 1) := by decide +kernel
theorem dX8_stretch_13 : decode cX8_stretch 13 = .ok (.iload_n 2, 1) := by decide +kernel
theorem dX8_stretch_14 : decode cX8_stretch 14 = .ok (.aload_n 0, 1) := by decide +kernel
theorem dX8_stretch_15 : decode cX8_stretch 15 = .ok (.getfield 23, 3) := by decide +kernel
theorem dX8_stretch_18 : decode cX8_stretch 18 = .ok (.getfield 58, 3) := by decide +kernel
theorem dX8_stretch_21 : decode cX8_stretch 21 = .ok (.invokevirtual 67, 3) := by decide +kernel
theorem dX8_stretch_24 : decode cX8_stretch 24 = .ok (.if_icmp .ge 68, 3) := by decide +kernel
theorem dX8_stretch_27 : decode cX8_stretch 27 = .ok (.aload_n 0, 1) := by decide +kernel
theorem dX8_stretch_28 : decode cX8_stretch 28 = .ok (.getfield 23, 3) := by decide +kernel
theorem dX8_stretch_31 : decode cX8_stretch 31 = .ok (.getfield 58, 3) := by decide +kernel
theorem dX8_stretch_34 : decode cX8_stretch 34 = .ok (.iload_n 2, 1) := by decide +kernel
theorem dX8_stretch_35 : decode cX8_stretch 35 = .ok (.invokevirtual 71, 3) := by decide +kernel
theorem dX8_stretch_38 : decode cX8_stretch 38 = .ok (.astore_n 3, 1) := by decide +kernel
theorem dX8_stretch_39 : decode cX8_stretch 39 = .ok (.iload_n 1, 1) := by decide +kernel
theorem dX8_stretch_40 : decode cX8_stretch 40 = .ok (.aload_n 0, 1) := by decide +kernel
theorem dX8_stretch_41 : decode cX8_stretch 41 = .ok (.getfield 23, 3) := by decide +kernel
theorem dX8_stretch_44 : decode cX8_stretch 44 = .ok (.iload_n 2, 1) := by decide +kernel
theorem dX8_stretch_45 : decode cX8_stretch 45 = .ok (.invokevirtual 129, 3) := by decide +kernel
theorem dX8_stretch_48 : decode cX8_stretch 48 = .ok (.invokestatic 107, 3) := by decide +kernel
theorem dX8_stretch_51 : decode cX8_stretch 51 = .ok (.istore 4, 2) := by decide +kernel
theorem dX8_stretch_53 : decode cX8_stretch 53 = .ok (.aload_n 3, 1) := by decide +kernel
theorem dX8_stretch_54 : decode cX8_stretch 54 = .ok (.getfield 90, 3) := by decide +kernel
theorem dX8_stretch_57 : decode cX8_stretch 57 = .ok (.aload_n 0, 1) := by decide +kernel
theorem dX8_stretch_58 : decode cX8_stretch 58 = .ok (.getfield 23, 3) := by decide +kernel
theorem dX8_stretch_61 : decode cX8_stretch 61 = .ok (.aload_n 3, 1) := by decide +kernel
theorem dX8_stretch_62 : decode cX8_stretch 62 = .ok (.invokevirtual 132, 3) := by decide +kernel
theorem dX8_stretch_65 : decode cX8_stretch 65 = .ok (.iadd, 1) := by decide +kernel
theorem dX8_stretch_66 : decode cX8_stretch 66 = .ok (.istore 5, 2) := by decide +kernel
theorem dX8_stretch_68 : decode cX8_stretch 68 = .ok (.aload_n 3, 1) := by decide +kernel
theorem dX8_stretch_69 : decode cX8_stretch 69 = .ok (.aload_n 3, 1) := by decide +kernel
theorem dX8_stretch_70 : decode cX8_stretch 70 = .ok (.getfield 101, 3) := by decide +kernel
theorem dX8_stretch_73 : decode cX8_stretch 73 = .ok (.iload 5, 2) := by decide +kernel
theorem dX8_stretch_75 : decode cX8_stretch 75 = .ok (.iload 4, 2) := by decide +kernel
theorem dX8_stretch_77 : decode cX8_stretch 77 = .ok (.invokestatic 107, 3) := by decide +kernel
theorem dX8_stretch_80 : decode cX8_stretch 80 = .ok (.invokestatic 95, 3) := by decide +kernel
theorem dX8_stretch_83 : decode cX8_stretch 83 = .ok (.putfield 101, 3) := by decide +kernel
theorem dX8_stretch_86 : decode cX8_stretch 86 = .ok (.iinc 2 1, 3) := by decide +kernel
theorem dX8_stretch_89 : decode cX8_stretch 89 = .ok (.goto (-76), 3) := by decide +kernel
theorem dX8_stretch_92 : decode cX8_stretch 92 = .ok (.return_, 1) := by decide +kernel
theorem dX8_snap_0 : decode cX8_snap 0 = .ok (.aload_n 0, 1) := by decide +kernel
theorem dX8_snap_1 : decode cX8_snap 1 = .ok (.getfield 23, 3) := by decide +kernel
theorem dX8_snap_4 : decode cX8_snap 4 = .ok (.getfield 136, 3) := by decide +kernel
theorem dX8_snap_7 : decode cX8_snap 7 = .ok (.iconst 3, 1) := by decide +kernel
theorem dX8_snap_8 : decode cX8_snap 8 = .ok (.invokevirtual 140, 3) := by decide +kernel
theorem dX8_snap_11 : decode cX8_snap 11 = .ok (.istore_n 1, 1) := by decide +kernel
theorem dX8_snap_12 : decode cX8_snap 12 = .ok (.iconst 0, 1) := by decide +kernel
theorem dX8_snap_13 : decode cX8_snap 13 = .ok (.istore_n 2, 1) := by decide +kernel
theorem dX8_snap_14 : decode cX8_snap 14 = .ok (.iload_n 2, 1) := by decide +kernel
theorem dX8_snap_15 : decode cX8_snap 15 = .ok (.aload_n 0, 1) := by decide +kernel
theorem dX8_snap_16 : decode cX8_snap 16 = .ok (.getfield 23, 3) := by decide +kernel
theorem dX8_snap_19 : decode cX8_snap 19 = .ok (.getfield 58, 3) := by decide +kernel
theorem dX8_snap_22 : decode cX8_snap 22 = .ok (.invokevirtual 67, 3) := by decide +kernel
theorem dX8_snap_25 : decode cX8_snap 25 = .ok (.if_icmp .ge 99, 3) := by decide +kernel
theorem dX8_snap_28 : decode cX8_snap 28 = .ok (.aload_n 0, 1) := by decide +kernel
theorem dX8_snap_29 : decode cX8_snap 29 = .ok (.getfield 23, 3) := by decide +kernel
theorem dX8_snap_32 : decode cX8_snap 32 = .ok (.getfield 58, 3) := by decide +kernel
theorem dX8_snap_35 : decode cX8_snap 35 = .ok (.iload_n 2, 1) := by decide +kernel
theorem dX8_snap_36 : decode cX8_snap 36 = .ok (.invokevirtual 71, 3) := by decide +kernel
theorem dX8_snap_39 : decode cX8_snap 39 = .ok (.astore_n 3, 1) := by decide +kernel
theorem dX8_snap_40 : decode cX8_snap 40 = .ok (.aload_n 0, 1) := by decide +kernel
theorem dX8_snap_41 : decode cX8_snap 41 = .ok (.getfield 23, 3) := by decide +kernel
theorem dX8_snap_44 : decode cX8_snap 44 = .ok (.getfield 144, 3) := by decide +kernel
theorem dX8_snap_47 : decode cX8_snap 47 = .ok (.aload_n 3, 1) := by decide +kernel
theorem dX8_snap_48 : decode cX8_snap 48 = .ok (.getfield 90, 3) := by decide +kernel
theorem dX8_snap_51 : decode cX8_snap 51 = .ok (.iload_n 1, 1) := by decide +kernel
theorem dX8_snap_52 : decode cX8_snap 52 = .ok (.invokevirtual 148, 3) := by decide +kernel
theorem dX8_snap_55 : decode cX8_snap 55 = .ok (.istore 4, 2) := by decide +kernel
theorem dX8_snap_57 : decode cX8_snap 57 = .ok (.iload 4, 2) := by decide +kernel
theorem dX8_snap_59 : decode cX8_snap 59 = .ok (.bipush (-9), 2) := by decide +kernel
theorem dX8_snap_61 : decode cX8_snap 61 = .ok (.if_icmp .eq 18, 3) := by decide +kernel
theorem dX8_snap_64 : decode cX8_snap 64 = .ok (.iload 4, 2) := by decide +kernel
theorem dX8_snap_66 : decode cX8_snap 66 = .ok (.aload_n 3, 1) := by decide +kernel
theorem dX8_snap_67 : decode cX8_snap 67 = .ok (.getfield 101, 3) := by decide +kernel
theorem dX8_snap_70 : decode cX8_snap 70 = .ok (.if_icmp .ge 9, 3) := by decide +kernel
theorem dX8_snap_73 : decode cX8_snap 73 = .ok (.aload_n 3, 1) := by decide +kernel
theorem dX8_snap_74 : decode cX8_snap 74 = .ok (.iload 4, 2) := by decide +kernel
theorem dX8_snap_76 : decode cX8_snap 76 = .ok (.putfield 90, 3) := by decide +kernel
theorem dX8_snap_79 : decode cX8_snap 79 = .ok (.aload_n 0, 1) := by decide +kernel
theorem dX8_snap_80 : decode cX8_snap 80 = .ok (.getfield 23, 3) := by decide +kernel
theorem dX8_snap_83 : decode cX8_snap 83 = .ok (.getfield 144, 3) := by decide +kernel
theorem dX8_snap_86 : decode cX8_snap 86 = .ok (.aload_n 3, 1) := by decide +kernel
theorem dX8_snap_87 : decode cX8_snap 87 = .ok (.getfield 101, 3) := by decide +kernel
theorem dX8_snap_90 : decode cX8_snap 90 = .ok (.iload_n 1, 1) := by decide +kernel
theorem dX8_snap_91 : decode cX8_snap 91 = .ok (.invokevirtual 148, 3) := by decide +kernel
theorem dX8_snap_94 : decode cX8_snap 94 = .ok (.istore 4, 2) := by decide +kernel
theorem dX8_snap_96 : decode cX8_snap 96 = .ok (.iload 4, 2) := by decide +kernel
theorem dX8_snap_98 : decode cX8_snap 98 = .ok (.bipush (-9), 2) := by decide +kernel
theorem dX8_snap_100 : decode cX8_snap 100 = .ok (.if_icmp .eq 18, 3) := by decide +kernel
theorem dX8_snap_103 : decode cX8_snap 103 = .ok (.iload 4, 2) := by decide +kernel
theorem dX8_snap_105 : decode cX8_snap 105 = .ok (.aload_n 3, 1) := by decide +kernel
theorem dX8_snap_106 : decode cX8_snap 106 = .ok (.getfield 90, 3) := by decide +kernel
theorem dX8_snap_109 : decode cX8_snap 109 = .ok (.if_icmp .le 9, 3) := by decide +kernel
theorem dX8_snap_112 : decode cX8_snap 112 = .ok (.aload_n 3, 1) := by decide +kernel
theorem dX8_snap_113 : decode cX8_snap 113 = .ok (.iload 4, 2) := by decide +kernel
theorem dX8_snap_115 : decode cX8_snap 115 = .ok (.putfield 101, 3) := by decide +kernel
theorem dX8_snap_118 : decode cX8_snap 118 = .ok (.iinc 2 1, 3) := by decide +kernel
theorem dX8_snap_121 : decode cX8_snap 121 = .ok (.goto (-107), 3) := by decide +kernel
theorem dX8_snap_124 : decode cX8_snap 124 = .ok (.aload_n 0, 1) := by decide +kernel
theorem dX8_snap_125 : decode cX8_snap 125 = .ok (.getfield 23, 3) := by decide +kernel
theorem dX8_snap_128 : decode cX8_snap 128 = .ok (.getfield 58, 3) := by decide +kernel
theorem dX8_snap_131 : decode cX8_snap 131 = .ok (.invokevirtual 153, 3) := by decide +kernel
theorem dX8_snap_134 : decode cX8_snap 134 = .ok (.return_, 1) := by decide +kernel
theorem dX8_keepGaps_0 : decode cX8_keepGaps 0 = .ok (.iconst 0, 1) := by decide +kernel
theorem dX8_keepGaps_1 : decode cX8_keepGaps 1 = .ok (.istore_n 1, 1) := by decide +kernel
theorem dX8_keepGaps_2 : decode cX8_keepGaps 2 = .ok (.iload_n 1, 1) := by decide +kernel
theorem dX8_keepGaps_3 : decode cX8_keepGaps 3 = .ok (.aload_n 0, 1) := by decide +kernel
theorem dX8_keepGaps_4 : decode cX8_keepGaps 4 = .ok (.getfield 23, 3) := by decide +kernel
theorem dX8_keepGaps_7 : decode cX8_keepGaps 7 = .ok (.getfield 58, 3) := by decide +kernel
theorem dX8_keepGaps_10 : decode cX8_keepGaps 10 = .ok (.invokevirtual 67, 3) := by decide +kernel
theorem dX8_keepGaps_13 : decode cX8_keepGaps 13 = .ok (.if_icmp .ge 51, 3) := by decide +kernel
theorem dX8_keepGaps_16 : decode cX8_keepGaps 16 = .ok (.aload_n 0, 1) := by decide +kernel
theorem dX8_keepGaps_17 : decode cX8_keepGaps 17 = .ok (.getfield 23, 3) := by decide +kernel
theorem dX8_keepGaps_20 : decode cX8_keepGaps 20 = .ok (.getfield 58, 3) := by decide +kernel
theorem dX8_keepGaps_23 : decode cX8_keepGaps 23 = .ok (.iload_n 1, 1) := by decide +kernel
theorem dX8_keepGaps_24 : decode cX8_keepGaps 24 = .ok (.invokevirtual 71, 3) := by decide +kernel
theorem dX8_keepGaps_27 : decode cX8_keepGaps 27 = .ok (.astore_n 2, 1) := by decide +kernel
theorem dX8_keepGaps_28 : decode cX8_keepGaps 28 = .ok (.aload_n 0, 1) := by decide +kernel
theorem dX8_keepGaps_29 : decode cX8_keepGaps 29 = .ok (.getfield 23, 3) := by decide +kernel
theorem dX8_keepGaps_32 : decode cX8_keepGaps 32 = .ok (.iload_n 1, 1) := by decide +kernel
theorem dX8_keepGaps_33 : decode cX8_keepGaps 33 = .ok (.invokevirtual 129, 3) := by decide +kernel
theorem dX8_keepGaps_36 : decode cX8_keepGaps 36 = .ok (.aload_n 2, 1) := by decide +kernel
theorem dX8_keepGaps_37 : decode cX8_keepGaps 37 = .ok (.getfield 90, 3) := by decide +kernel
theorem dX8_keepGaps_40 : decode cX8_keepGaps 40 = .ok (.iconst 1, 1) := by decide +kernel
theorem dX8_keepGaps_41 : decode cX8_keepGaps 41 = .ok (.iadd, 1) := by decide +kernel
theorem dX8_keepGaps_42 : decode cX8_keepGaps 42 = .ok (.invokestatic 95, 3) := by decide +kernel
theorem dX8_keepGaps_45 : decode cX8_keepGaps 45 = .ok (.istore_n 3, 1) := by decide +kernel
theorem dX8_keepGaps_46 : decode cX8_keepGaps 46 = .ok (.aload_n 2, 1) := by decide +kernel
theorem dX8_keepGaps_47 : decode cX8_keepGaps 47 = .ok (.aload_n 2, 1) := by decide +kernel
theorem dX8_keepGaps_48 : decode cX8_keepGaps 48 = .ok (.getfield 101, 3) := by decide +kernel
theorem dX8_keepGaps_51 : decode cX8_keepGaps 51 = .ok (.iload_n 3, 1) := by decide +kernel
theorem dX8_keepGaps_52 : decode cX8_keepGaps 52 = .ok (.invokestatic 107, 3) := by decide +kernel
theorem dX8_keepGaps_55 : decode cX8_keepGaps 55 = .ok (.putfield 101, 3) := by decide +kernel
theorem dX8_keepGaps_58 : decode cX8_keepGaps 58 = .ok (.iinc 1 1, 3) := by decide +kernel
theorem dX8_keepGaps_61 : decode cX8_keepGaps 61 = .ok (.goto (-59), 3) := by decide +kernel
theorem dX8_keepGaps_64 : decode cX8_keepGaps 64 = .ok (.return_, 1) := by decide +kernel
theorem dX9_init_0 : decode cX9_init 0 = .ok (.aload_n 0, 1) := by decide +kernel
theorem dX9_init_1 : decode cX9_init 1 = .ok (.invokespecial 1, 3) := by decide +kernel
theorem dX9_init_4 : decode cX9_init 4 = .ok (.aload_n 0, 1) := by decide +kernel
theorem dX9_init_5 : decode cX9_init 5 = .ok (.bipush 40, 2) := by decide +kernel
theorem dX9_init_7 : decode cX9_init 7 = .ok (.newarray .byte, 2) := by decide +kernel
theorem dX9_init_9 : decode cX9_init 9 = .ok (.putfield 9, 3) := by decide +kernel
theorem dX9_init_12 : decode cX9_init 12 = .ok (.new 13, 3) := by decide +kernel
theorem dX9_init_15 : decode cX9_init 15 = .ok (.dup, 1) := by decide +kernel
theorem dX9_init_16 : decode cX9_init 16 = .ok (.iconst 0, 1) := by decide +kernel
theorem dX9_init_17 : decode cX9_init 17 = .ok (.iconst 0, 1) := by decide +kernel
theorem dX9_init_18 : decode cX9_init 18 = .ok (.newarray .byte, 2) := by decide +kernel
theorem dX9_init_20 : decode cX9_init 20 = .ok (.iconst 0, 1) := by decide +kernel
theorem dX9_init_21 : decode cX9_init 21 = .ok (.invokespecial 15, 3) := by decide +kernel
theorem dX9_init_24 : decode cX9_init 24 = .ok (.astore_n 1, 1) := by decide +kernel
theorem dX9_init_25 : decode cX9_init 25 = .ok (.aload_n 0, 1) := by decide +kernel
theorem dX9_init_26 : decode cX9_init 26 = .ok (.new 18, 3) := by decide +kernel
theorem dX9_init_29 : decode cX9_init 29 = .ok (.dup, 1) := by decide +kernel
theorem dX9_init_30 : decode cX9_init 30 = .ok (.aload_n 1, 1) := by decide +kernel
theorem dX9_init_31 : decode cX9_init 31 = .ok (.invokespecial 20, 3) := by decide +kernel
theorem dX9_init_34 : decode cX9_init 34 = .ok (.putfield 23, 3) := by decide +kernel
theorem dX9_init_37 : decode cX9_init 37 = .ok (.aload_n 0, 1) := by decide +kernel
theorem dX9_init_38 : decode cX9_init 38 = .ok (.new 27, 3) := by decide +kernel
theorem dX9_init_41 : decode cX9_init 41 = .ok (.dup, 1) := by decide +kernel
theorem dX9_init_42 : decode cX9_init 42 = .ok (.aload_n 1, 1) := by decide +kernel
theorem dX9_init_43 : decode cX9_init 43 = .ok (.invokespecial 29, 3) := by decide +kernel
theorem dX9_init_46 : decode cX9_init 46 = .ok (.putfield 30, 3) := by decide +kernel
theorem dX9_init_49 : decode cX9_init 49 = .ok (.aload_n 0, 1) := by decide +kernel
theorem dX9_init_50 : decode cX9_init 50 = .ok (.new 34, 3) := by decide +kernel
theorem dX9_init_53 : decode cX9_init 53 = .ok (.dup, 1) := by decide +kernel
theorem dX9_init_54 : decode cX9_init 54 = .ok (.aload_n 1, 1) := by decide +kernel
theorem dX9_init_55 : decode cX9_init 55 = .ok (.invokespecial 36, 3) := by decide +kernel
theorem dX9_init_58 : decode cX9_init 58 = .ok (.putfield 37, 3) := by decide +kernel
theorem dX9_init_61 : decode cX9_init 61 = .ok (.return_, 1) := by decide +kernel
theorem dX9_piece_0 : decode cX9_piece 0 = .ok (.iload_n 1, 1) := by decide +kernel
theorem dX9_piece_1 : decode cX9_piece 1 = .ok (.iconst 0, 1) := by decide +kernel
theorem dX9_piece_2 : decode cX9_piece 2 = .ok (.sipush 9999, 3) := by decide +kernel
theorem dX9_piece_5 : decode cX9_piece 5 = .ok (.invokestatic 41, 3) := by decide +kernel
theorem dX9_piece_8 : decode cX9_piece 8 = .ok (.ifCond .eq 14, 3) := by decide +kernel
theorem dX9_piece_11 : decode cX9_piece 11 = .ok (.iload_n 2, 1) := by decide +kernel
theorem dX9_piece_12 : decode cX9_piece 12 = .ok (.iconst 1, 1) := by decide +kernel
theorem dX9_piece_13 : decode cX9_piece 13 = .ok (.sipush 5000, 3) := by decide +kernel
theorem dX9_piece_16 : decode cX9_piece 16 = .ok (.invokestatic 41, 3) := by decide +kernel
theorem dX9_piece_19 : decode cX9_piece 19 = .ok (.ifCond .ne 5, 3) := by decide +kernel
theorem dX9_piece_22 : decode cX9_piece 22 = .ok (.iconst (-1), 1) := by decide +kernel
theorem dX9_piece_23 : decode cX9_piece 23 = .ok (.ireturn, 1) := by decide +kernel
theorem dX9_piece_24 : decode cX9_piece 24 = .ok (.iload_n 1, 1) := by decide +kernel
theorem dX9_piece_25 : decode cX9_piece 25 = .ok (.iload_n 2, 1) := by decide +kernel
theorem dX9_piece_26 : decode cX9_piece 26 = .ok (.iadd, 1) := by decide +kernel
theorem dX9_piece_27 : decode cX9_piece 27 = .ok (.sipush 10000, 3) := by decide +kernel
theorem dX9_piece_30 : decode cX9_piece 30 = .ok (.if_icmp .le 5, 3) := by decide +kernel
theorem dX9_piece_33 : decode cX9_piece 33 = .ok (.iconst (-1), 1) := by decide +kernel
theorem dX9_piece_34 : decode cX9_piece 34 = .ok (.ireturn, 1) := by decide +kernel
theorem dX9_piece_35 : decode cX9_piece 35 = .ok (.aload_n 0, 1) := by decide +kernel
theorem dX9_piece_36 : decode cX9_piece 36 = .ok (.getfield 23, 3) := by decide +kernel
theorem dX9_piece_39 : decode cX9_piece 39 = .ok (.getfield 45, 3) := by decide +kernel
theorem dX9_piece_42 : decode cX9_piece 42 = .ok (.invokevirtual 49, 3) := by decide +kernel
theorem dX9_piece_45 : decode cX9_piece 45 = .ok (.bipush 10, 2) := by decide +kernel
theorem dX9_piece_47 : decode cX9_piece 47 = .ok (.if_icmp .ge 21, 3) := by decide +kernel
theorem dX9_piece_50 : decode cX9_piece 50 = .ok (.aload_n 0, 1) := by decide +kernel
theorem dX9_piece_51 : decode cX9_piece 51 = .ok (.getfield 23, 3) := by decide +kernel
theorem dX9_piece_54 : decode cX9_piece 54 = .ok (.getfield 45, 3) := by decide +kernel
theorem dX9_piece_57 : decode cX9_piece 57 = .ok (.invokevirtual 55, 3) := by decide +kernel
theorem dX9_piece_60 : decode cX9_piece 60 = .ok (.iload_n 2, 1) := by decide +kernel
theorem dX9_piece_61 : decode cX9_piece 61 = .ok (.iadd, 1) := by decide +kernel
theorem dX9_piece_62 : decode cX9_piece 62 = .ok (.sipush 9999, 3) := by decide +kernel
theorem dX9_piece_65 : decode cX9_piece 65 = .ok (.if_icmp .le 6, 3) := by decide +kernel
theorem dX9_piece_68 : decode cX9_piece 68 = .ok (.bipush (-3), 2) := by decide +kernel
theorem dX9_piece_70 : decode cX9_piece 70 = .ok (.ireturn, 1) := by decide +kernel
theorem dX9_piece_71 : decode cX9_piece 71 = .ok (.aload_n 0, 1) := by decide +kernel
theorem dX9_piece_72 : decode cX9_piece 72 = .ok (.getfield 37, 3) := by decide +kernel
theorem dX9_piece_75 : decode cX9_piece 75 = .ok (.aload_n 0, 1) := by decide +kernel
theorem dX9_piece_76 : decode cX9_piece 76 = .ok (.getfield 23, 3) := by decide +kernel
theorem dX9_piece_79 : decode cX9_piece 79 = .ok (.invokevirtual 58, 3) := by decide +kernel
theorem dX9_piece_82 : decode cX9_piece 82 = .ok (.aload_n 0, 1) := by decide +kernel
theorem dX9_piece_83 : decode cX9_piece 83 = .ok (.getfield 23, 3) := by decide +kernel
theorem dX9_piece_86 : decode cX9_piece 86 = .ok (.getfield 45, 3) := by decide +kernel
theorem dX9_piece_89 : decode cX9_piece 89 = .ok (.iload_n 1, 1) := by decide +kernel
theorem dX9_piece_90 : decode cX9_piece 90 = .ok (.iload_n 2, 1) := by decide +kernel
theorem dX9_piece_91 : decode cX9_piece 91 = .ok (.invokevirtual 62, 3) := by decide +kernel
theorem dX9_piece_94 : decode cX9_piece 94 = .ok (.aload_n 0, 1) := by decide +kernel
theorem dX9_piece_95 : decode cX9_piece 95 = .ok (.getfield 23, 3) := by decide +kernel
theorem dX9_piece_98 : decode cX9_piece 98 = .ok (.getfield 45, 3) := by decide +kernel
theorem dX9_piece_101 : decode cX9_piece 101 = .ok (.invokevirtual 49, 3) := by decide +kernel
theorem dX9_piece_104 : decode cX9_piece 104 = .ok (.iconst 1, 1) := by decide +kernel
theorem dX9_piece_105 : decode cX9_piece 105 = .ok (.isub, 1) := by decide +kernel
theorem dX9_piece_106 : decode cX9_piece 106 = .ok (.ireturn, 1) := by decide +kernel
theorem dX9_dropPiece_0 : decode cX9_dropPiece 0 = .ok (.aload_n 0, 1) := by decide +kernel
theorem dX9_dropPiece_1 : decode cX9_dropPiece 1 = .ok (.getfield 23, 3) := by decide +kernel
theorem dX9_dropPiece_4 : decode cX9_dropPiece 4 = .ok (.getfield 45, 3) := by decide +kernel
theorem dX9_dropPiece_7 : decode cX9_dropPiece 7 = .ok (.iload_n 1, 1) := by decide +kernel
theorem dX9_dropPiece_8 : decode cX9_dropPiece 8 = .ok (.invokevirtual 66, 3) := by decide +kernel
theorem dX9_dropPiece_11 : decode cX9_dropPiece 11 = .ok (.ifCond .ne 5, 3) := by decide +kernel
theorem dX9_dropPiece_14 : decode cX9_dropPiece 14 = .ok (.iconst (-1), 1) := by decide +kernel
theorem dX9_dropPiece_15 : decode cX9_dropPiece 15 = .ok (.ireturn, 1) := by decide +kernel
theorem dX9_dropPiece_16 : decode cX9_dropPiece 16 = .ok (.aload_n 0, 1) := by decide +kernel
theorem dX9_dropPiece_17 : decode cX9_dropPiece 17 = .ok (.getfield 37, 3) := by decide +kernel
theorem dX9_dropPiece_20 : decode cX9_dropPiece 20 = .ok (.aload_n 0, 1) := by decide +kernel
theorem dX9_dropPiece_21 : decode cX9_dropPiece 21 = .ok (.getfield 23, 3) := by decide +kernel
theorem dX9_dropPiece_24 : decode cX9_dropPiece 24 = .ok (.invokevirtual 58, 3) := by decide +kernel
theorem dX9_dropPiece_27 : decode cX9_dropPiece 27 = .ok (.aload_n 0, 1) := by decide +kernel
theorem dX9_dropPiece_28 : decode cX9_dropPiece 28 = .ok (.getfield 23, 3) := by decide +kernel
theorem dX9_dropPiece_31 : decode cX9_dropPiece 31 = .ok (.getfield 45, 3) := by decide +kernel
theorem dX9_dropPiece_34 : decode cX9_dropPiece 34 = .ok (.iload_n 1, 1) := by decide +kernel
theorem dX9_dropPiece_35 : decode cX9_dropPiece 35 = .ok (.invokevirtual 70, 3) := by decide +kernel
theorem dX9_dropPiece_38 : decode cX9_dropPiece 38 = .ok (.aload_n 0, 1) := by decide +kernel
theorem dX9_dropPiece_39 : decode cX9_dropPiece 39 = .ok (.getfield 23, 3) := by decide +kernel
theorem dX9_dropPiece_42 : decode cX9_dropPiece 42 = .ok (.getfield 45, 3) := by decide +kernel
theorem dX9_dropPiece_45 : decode cX9_dropPiece 45 = .ok (.invokevirtual 55, 3) := by decide +kernel
theorem dX9_dropPiece_48 : decode cX9_dropPiece 48 = .ok (.ireturn, 1) := by decide +kernel
theorem dX9_pieceAt_0 : decode cX9_pieceAt 0 = .ok (.aload_n 0, 1) := by decide +kernel
theorem dX9_pieceAt_1 : decode cX9_pieceAt 1 = .ok (.getfield 23, 3) := by decide +kernel
theorem dX9_pieceAt_4 : decode cX9_pieceAt 4 = .ok (.getfield 45, 3) := by decide +kernel
theorem dX9_pieceAt_7 : decode cX9_pieceAt 7 = .ok (.iload_n 1, 1) := by decide +kernel
theorem dX9_pieceAt_8 : decode cX9_pieceAt 8 = .ok (.invokevirtual 66, 3) := by decide +kernel
theorem dX9_pieceAt_11 : decode cX9_pieceAt 11 = .ok (.ifCond .ne 5, 3) := by decide +kernel
theorem dX9_pieceAt_14 : decode cX9_pieceAt 14 = .ok (.iconst (-1), 1) := by decide +kernel
theorem dX9_pieceAt_15 : decode cX9_pieceAt 15 = .ok (.ireturn, 1) := by decide +kernel
theorem dX9_pieceAt_16 : decode cX9_pieceAt 16 = .ok (.iload_n 2, 1) := by decide +kernel
theorem dX9_pieceAt_17 : decode cX9_pieceAt 17 = .ok (.tableswitch 63 0 2 #[27, 39, 51], 27) := by decide +kernel
theorem dX9_pieceAt_44 : decode cX9_pieceAt 44 = .ok (.aload_n 0, 1) := by decide +kernel
theorem dX9_pieceAt_45 : decode cX9_pieceAt 45 = .ok (.getfield 23, 3) := by decide +kernel
theorem dX9_pieceAt_48 : decode cX9_pieceAt 48 = .ok (.getfield 45, 3) := by decide +kernel
theorem dX9_pieceAt_51 : decode cX9_pieceAt 51 = .ok (.iload_n 1, 1) := by decide +kernel
theorem dX9_pieceAt_52 : decode cX9_pieceAt 52 = .ok (.invokevirtual 74, 3) := by decide +kernel
theorem dX9_pieceAt_55 : decode cX9_pieceAt 55 = .ok (.ireturn, 1) := by decide +kernel
theorem dX9_pieceAt_56 : decode cX9_pieceAt 56 = .ok (.aload_n 0, 1) := by decide +kernel
theorem dX9_pieceAt_57 : decode cX9_pieceAt 57 = .ok (.getfield 23, 3) := by decide +kernel
theorem dX9_pieceAt_60 : decode cX9_pieceAt 60 = .ok (.getfield 45, 3) := by decide +kernel
theorem dX9_pieceAt_63 : decode cX9_pieceAt 63 = .ok (.iload_n 1, 1) := by decide +kernel
theorem dX9_pieceAt_64 : decode cX9_pieceAt 64 = .ok (.invokevirtual 78, 3) := by decide +kernel
theorem dX9_pieceAt_67 : decode cX9_pieceAt 67 = .ok (.ireturn, 1) := by decide +kernel
theorem dX9_pieceAt_68 : decode cX9_pieceAt 68 = .ok (.aload_n 0, 1) := by decide +kernel
theorem dX9_pieceAt_69 : decode cX9_pieceAt 69 = .ok (.getfield 23, 3) := by decide +kernel
theorem dX9_pieceAt_72 : decode cX9_pieceAt 72 = .ok (.getfield 45, 3) := by decide +kernel
theorem dX9_pieceAt_75 : decode cX9_pieceAt 75 = .ok (.iload_n 1, 1) := by decide +kernel
theorem dX9_pieceAt_76 : decode cX9_pieceAt 76 = .ok (.invokevirtual 81, 3) := by decide +kernel
theorem dX9_pieceAt_79 : decode cX9_pieceAt 79 = .ok (.ireturn, 1) := by decide +kernel
theorem dX9_pieceAt_80 : decode cX9_pieceAt 80 = .ok (.iconst (-1), 1) := by decide +kernel
theorem dX9_pieceAt_81 : decode cX9_pieceAt 81 = .ok (.ireturn, 1) := by decide +kernel
theorem dX9_shot_0 : decode cX9_shot 0 = .ok (.iload_n 1, 1) := by decide +kernel
theorem dX9_shot_1 : decode cX9_shot 1 = .ok (.iconst 1, 1) := by decide +kernel
theorem dX9_shot_2 : decode cX9_shot 2 = .ok (.sipush 9998, 3) := by decide +kernel
theorem dX9_shot_5 : decode cX9_shot 5 = .ok (.invokestatic 41, 3) := by decide +kernel
theorem dX9_shot_8 : decode cX9_shot 8 = .ok (.ifCond .ne 5, 3) := by decide +kernel
theorem dX9_shot_11 : decode cX9_shot 11 = .ok (.iconst (-1), 1) := by decide +kernel
theorem dX9_shot_12 : decode cX9_shot 12 = .ok (.ireturn, 1) := by decide +kernel
theorem dX9_shot_13 : decode cX9_shot 13 = .ok (.iload_n 2, 1) := by decide +kernel
theorem dX9_shot_14 : decode cX9_shot 14 = .ok (.ifCond .eq 35, 3) := by decide +kernel
theorem dX9_shot_17 : decode cX9_shot 17 = .ok (.aload_n 0, 1) := by decide +kernel
theorem dX9_shot_18 : decode cX9_shot 18 = .ok (.getfield 23, 3) := by decide +kernel
theorem dX9_shot_21 : decode cX9_shot 21 = .ok (.getfield 84, 3) := by decide +kernel
theorem dX9_shot_24 : decode cX9_shot 24 = .ok (.iload_n 1, 1) := by decide +kernel
theorem dX9_shot_25 : decode cX9_shot 25 = .ok (.invokevirtual 88, 3) := by decide +kernel
theorem dX9_shot_28 : decode cX9_shot 28 = .ok (.ifCond .ne 21, 3) := by decide +kernel
theorem dX9_shot_31 : decode cX9_shot 31 = .ok (.aload_n 0, 1) := by decide +kernel
theorem dX9_shot_32 : decode cX9_shot 32 = .ok (.getfield 23, 3) := by decide +kernel
theorem dX9_shot_35 : decode cX9_shot 35 = .ok (.getfield 84, 3) := by decide +kernel
theorem dX9_shot_38 : decode cX9_shot 38 = .ok (.invokevirtual 91, 3) := by decide +kernel
theorem dX9_shot_41 : decode cX9_shot 41 = .ok (.bipush 20, 2) := by decide +kernel
theorem dX9_shot_43 : decode cX9_shot 43 = .ok (.if_icmp .lt 6, 3) := by decide +kernel
theorem dX9_shot_46 : decode cX9_shot 46 = .ok (.bipush (-3), 2) := by decide +kernel
theorem dX9_shot_48 : decode cX9_shot 48 = .ok (.ireturn, 1) := by decide +kernel
theorem dX9_shot_49 : decode cX9_shot 49 = .ok (.aload_n 0, 1) := by decide +kernel
theorem dX9_shot_50 : decode cX9_shot 50 = .ok (.getfield 37, 3) := by decide +kernel
theorem dX9_shot_53 : decode cX9_shot 53 = .ok (.aload_n 0, 1) := by decide +kernel
theorem dX9_shot_54 : decode cX9_shot 54 = .ok (.getfield 23, 3) := by decide +kernel
theorem dX9_shot_57 : decode cX9_shot 57 = .ok (.invokevirtual 58, 3) := by decide +kernel
theorem dX9_shot_60 : decode cX9_shot 60 = .ok (.iload_n 2, 1) := by decide +kernel
theorem dX9_shot_61 : decode cX9_shot 61 = .ok (.ifCond .eq 17, 3) := by decide +kernel
theorem dX9_shot_64 : decode cX9_shot 64 = .ok (.aload_n 0, 1) := by decide +kernel
theorem dX9_shot_65 : decode cX9_shot 65 = .ok (.getfield 23, 3) := by decide +kernel
theorem dX9_shot_68 : decode cX9_shot 68 = .ok (.getfield 84, 3) := by decide +kernel
theorem dX9_shot_71 : decode cX9_shot 71 = .ok (.iload_n 1, 1) := by decide +kernel
theorem dX9_shot_72 : decode cX9_shot 72 = .ok (.invokevirtual 92, 3) := by decide +kernel
theorem dX9_shot_75 : decode cX9_shot 75 = .ok (.goto 14, 3) := by decide +kernel
theorem dX9_shot_78 : decode cX9_shot 78 = .ok (.aload_n 0, 1) := by decide +kernel
theorem dX9_shot_79 : decode cX9_shot 79 = .ok (.getfield 23, 3) := by decide +kernel
theorem dX9_shot_82 : decode cX9_shot 82 = .ok (.getfield 84, 3) := by decide +kernel
theorem dX9_shot_85 : decode cX9_shot 85 = .ok (.iload_n 1, 1) := by decide +kernel
theorem dX9_shot_86 : decode cX9_shot 86 = .ok (.invokevirtual 95, 3) := by decide +kernel
theorem dX9_shot_89 : decode cX9_shot 89 = .ok (.aload_n 0, 1) := by decide +kernel
theorem dX9_shot_90 : decode cX9_shot 90 = .ok (.getfield 23, 3) := by decide +kernel
theorem dX9_shot_93 : decode cX9_shot 93 = .ok (.getfield 84, 3) := by decide +kernel
theorem dX9_shot_96 : decode cX9_shot 96 = .ok (.invokevirtual 91, 3) := by decide +kernel
theorem dX9_shot_99 : decode cX9_shot 99 = .ok (.ireturn, 1) := by decide +kernel
theorem dX9_shotAt_0 : decode cX9_shotAt 0 = .ok (.iload_n 1, 1) := by decide +kernel
theorem dX9_shotAt_1 : decode cX9_shotAt 1 = .ok (.ifCond .ge 7, 3) := by decide +kernel
theorem dX9_shotAt_4 : decode cX9_shotAt 4 = .ok (.iconst (-1), 1) := by decide +kernel
theorem dX9_shotAt_5 : decode cX9_shotAt 5 = .ok (.goto 14, 3) := by decide +kernel
theorem dX9_shotAt_8 : decode cX9_shotAt 8 = .ok (.aload_n 0, 1) := by decide +kernel
theorem dX9_shotAt_9 : decode cX9_shotAt 9 = .ok (.getfield 23, 3) := by decide +kernel
theorem dX9_shotAt_12 : decode cX9_shotAt 12 = .ok (.getfield 84, 3) := by decide +kernel
theorem dX9_shotAt_15 : decode cX9_shotAt 15 = .ok (.iload_n 1, 1) := by decide +kernel
theorem dX9_shotAt_16 : decode cX9_shotAt 16 = .ok (.invokevirtual 96, 3) := by decide +kernel
theorem dX9_shotAt_19 : decode cX9_shotAt 19 = .ok (.ireturn, 1) := by decide +kernel
theorem dX9_toNew_0 : decode cX9_toNew 0 = .ok (.iload_n 1, 1) := by decide +kernel
theorem dX9_toNew_1 : decode cX9_toNew 1 = .ok (.iconst 0, 1) := by decide +kernel
theorem dX9_toNew_2 : decode cX9_toNew 2 = .ok (.sipush 9999, 3) := by decide +kernel
theorem dX9_toNew_5 : decode cX9_toNew 5 = .ok (.invokestatic 41, 3) := by decide +kernel
theorem dX9_toNew_8 : decode cX9_toNew 8 = .ok (.ifCond .eq 7, 3) := by decide +kernel
theorem dX9_toNew_11 : decode cX9_toNew 11 = .ok (.iload_n 2, 1) := by decide +kernel
theorem dX9_toNew_12 : decode cX9_toNew 12 = .ok (.ifCond .ge 5, 3) := by decide +kernel
theorem dX9_toNew_15 : decode cX9_toNew 15 = .ok (.iconst (-1), 1) := by decide +kernel
theorem dX9_toNew_16 : decode cX9_toNew 16 = .ok (.ireturn, 1) := by decide +kernel
theorem dX9_toNew_17 : decode cX9_toNew 17 = .ok (.aload_n 0, 1) := by decide +kernel
theorem dX9_toNew_18 : decode cX9_toNew 18 = .ok (.getfield 23, 3) := by decide +kernel
theorem dX9_toNew_21 : decode cX9_toNew 21 = .ok (.getfield 45, 3) := by decide +kernel
theorem dX9_toNew_24 : decode cX9_toNew 24 = .ok (.iload_n 1, 1) := by decide +kernel
theorem dX9_toNew_25 : decode cX9_toNew 25 = .ok (.iload_n 2, 1) := by decide +kernel
theorem dX9_toNew_26 : decode cX9_toNew 26 = .ok (.invokevirtual 99, 3) := by decide +kernel
theorem dX9_toNew_29 : decode cX9_toNew 29 = .ok (.ireturn, 1) := by decide +kernel
theorem dX9_toOld_0 : decode cX9_toOld 0 = .ok (.iload_n 1, 1) := by decide +kernel
theorem dX9_toOld_1 : decode cX9_toOld 1 = .ok (.iconst 0, 1) := by decide +kernel
theorem dX9_toOld_2 : decode cX9_toOld 2 = .ok (.sipush 9999, 3) := by decide +kernel
theorem dX9_toOld_5 : decode cX9_toOld 5 = .ok (.invokestatic 41, 3) := by decide +kernel
theorem dX9_toOld_8 : decode cX9_toOld 8 = .ok (.ifCond .eq 17, 3) := by decide +kernel
theorem dX9_toOld_11 : decode cX9_toOld 11 = .ok (.aload_n 0, 1) := by decide +kernel
theorem dX9_toOld_12 : decode cX9_toOld 12 = .ok (.getfield 23, 3) := by decide +kernel
theorem dX9_toOld_15 : decode cX9_toOld 15 = .ok (.getfield 45, 3) := by decide +kernel
theorem dX9_toOld_18 : decode cX9_toOld 18 = .ok (.iload_n 1, 1) := by decide +kernel
theorem dX9_toOld_19 : decode cX9_toOld 19 = .ok (.invokevirtual 103, 3) := by decide +kernel
theorem dX9_toOld_22 : decode cX9_toOld 22 = .ok (.goto 4, 3) := by decide +kernel
theorem dX9_toOld_25 : decode cX9_toOld 25 = .ok (.iconst (-1), 1) := by decide +kernel
theorem dX9_toOld_26 : decode cX9_toOld 26 = .ok (.ireturn, 1) := by decide +kernel
theorem dX9_type_0 : decode cX9_type 0 = .ok (.iload_n 1, 1) := by decide +kernel
theorem dX9_type_1 : decode cX9_type 1 = .ok (.bipush 32, 2) := by decide +kernel
theorem dX9_type_3 : decode cX9_type 3 = .ok (.bipush 126, 2) := by decide +kernel
theorem dX9_type_5 : decode cX9_type 5 = .ok (.invokestatic 41, 3) := by decide +kernel
theorem dX9_type_8 : decode cX9_type 8 = .ok (.ifCond .ne 5, 3) := by decide +kernel
theorem dX9_type_11 : decode cX9_type 11 = .ok (.iconst (-1), 1) := by decide +kernel
theorem dX9_type_12 : decode cX9_type 12 = .ok (.ireturn, 1) := by decide +kernel
theorem dX9_type_13 : decode cX9_type 13 = .ok (.aload_n 0, 1) := by decide +kernel
theorem dX9_type_14 : decode cX9_type 14 = .ok (.getfield 106, 3) := by decide +kernel
theorem dX9_type_17 : decode cX9_type 17 = .ok (.ifCond .lt 15, 3) := by decide +kernel
theorem dX9_type_20 : decode cX9_type 20 = .ok (.aload_n 0, 1) := by decide +kernel
theorem dX9_type_21 : decode cX9_type 21 = .ok (.getfield 106, 3) := by decide +kernel
theorem dX9_type_24 : decode cX9_type 24 = .ok (.aload_n 0, 1) := by decide +kernel
theorem dX9_type_25 : decode cX9_type 25 = .ok (.getfield 9, 3) := by decide +kernel
theorem dX9_type_28 : decode cX9_type 28 = .ok (.arraylength, 1) := by decide +kernel
theorem dX9_type_29 : decode cX9_type 29 = .ok (.if_icmp .lt 6, 3) := by decide +kernel
theorem dX9_type_32 : decode cX9_type 32 = .ok (.bipush (-3), 2) := by decide +kernel
theorem dX9_type_34 : decode cX9_type 34 = .ok (.ireturn, 1) := by decide +kernel
theorem dX9_type_35 : decode cX9_type 35 = .ok (.aload_n 0, 1) := by decide +kernel
theorem dX9_type_36 : decode cX9_type 36 = .ok (.getfield 9, 3) := by decide +kernel
theorem dX9_type_39 : decode cX9_type 39 = .ok (.aload_n 0, 1) := by decide +kernel
theorem dX9_type_40 : decode cX9_type 40 = .ok (.getfield 106, 3) := by decide +kernel
theorem dX9_type_43 : decode cX9_type 43 = .ok (.iload_n 1, 1) := by decide +kernel
theorem dX9_type_44 : decode cX9_type 44 = .ok (.i2b, 1) := by decide +kernel
theorem dX9_type_45 : decode cX9_type 45 = .ok (.bastore, 1) := by decide +kernel
theorem dX9_type_46 : decode cX9_type 46 = .ok (.aload_n 0, 1) := by decide +kernel
theorem dX9_type_47 : decode cX9_type 47 = .ok (.dup, 1) := by decide +kernel
theorem dX9_type_48 : decode cX9_type 48 = .ok (.getfield 106, 3) := by decide +kernel
theorem dX9_type_51 : decode cX9_type 51 = .ok (.iconst 1, 1) := by decide +kernel
theorem dX9_type_52 : decode cX9_type 52 = .ok (.iadd, 1) := by decide +kernel
theorem dX9_type_53 : decode cX9_type 53 = .ok (.putfield 106, 3) := by decide +kernel
theorem dX9_type_56 : decode cX9_type 56 = .ok (.aload_n 0, 1) := by decide +kernel
theorem dX9_type_57 : decode cX9_type 57 = .ok (.getfield 106, 3) := by decide +kernel
theorem dX9_type_60 : decode cX9_type 60 = .ok (.ireturn, 1) := by decide +kernel
theorem dX9_clear_0 : decode cX9_clear 0 = .ok (.aload_n 0, 1) := by decide +kernel
theorem dX9_clear_1 : decode cX9_clear 1 = .ok (.getfield 106, 3) := by decide +kernel
theorem dX9_clear_4 : decode cX9_clear 4 = .ok (.istore_n 1, 1) := by decide +kernel
theorem dX9_clear_5 : decode cX9_clear 5 = .ok (.aload_n 0, 1) := by decide +kernel
theorem dX9_clear_6 : decode cX9_clear 6 = .ok (.iconst 0, 1) := by decide +kernel
theorem dX9_clear_7 : decode cX9_clear 7 = .ok (.putfield 106, 3) := by decide +kernel
theorem dX9_clear_10 : decode cX9_clear 10 = .ok (.iload_n 1, 1) := by decide +kernel
theorem dX9_clear_11 : decode cX9_clear 11 = .ok (.ireturn, 1) := by decide +kernel
theorem dX9_add_0 : decode cX9_add 0 = .ok (.iload_n 1, 1) := by decide +kernel
theorem dX9_add_1 : decode cX9_add 1 = .ok (.iload_n 2, 1) := by decide +kernel
theorem dX9_add_2 : decode cX9_add 2 = .ok (.invokestatic 110, 3) := by decide +kernel
theorem dX9_add_5 : decode cX9_add 5 = .ok (.ifCond .eq 12, 3) := by decide +kernel
theorem dX9_add_8 : decode cX9_add 8 = .ok (.iload_n 3, 1) := by decide +kernel
theorem dX9_add_9 : decode cX9_add 9 = .ok (.iconst 0, 1) := by decide +kernel
theorem dX9_add_10 : decode cX9_add 10 = .ok (.iconst 3, 1) := by decide +kernel
theorem dX9_add_11 : decode cX9_add 11 = .ok (.invokestatic 41, 3) := by decide +kernel
theorem dX9_add_14 : decode cX9_add 14 = .ok (.ifCond .ne 5, 3) := by decide +kernel
theorem dX9_add_17 : decode cX9_add 17 = .ok (.iconst (-1), 1) := by decide +kernel
theorem dX9_add_18 : decode cX9_add 18 = .ok (.ireturn, 1) := by decide +kernel
theorem dX9_add_19 : decode cX9_add 19 = .ok (.aload_n 0, 1) := by decide +kernel
theorem dX9_add_20 : decode cX9_add 20 = .ok (.getfield 23, 3) := by decide +kernel
theorem dX9_add_23 : decode cX9_add 23 = .ok (.getfield 114, 3) := by decide +kernel
theorem dX9_add_26 : decode cX9_add 26 = .ok (.invokevirtual 118, 3) := by decide +kernel
theorem dX9_add_29 : decode cX9_add 29 = .ok (.ifCond .eq 6, 3) := by decide +kernel
theorem dX9_add_32 : decode cX9_add 32 = .ok (.bipush (-3), 2) := by decide +kernel
theorem dX9_add_34 : decode cX9_add 34 = .ok (.ireturn, 1) := by decide +kernel
theorem dX9_add_35 : decode cX9_add 35 = .ok (.aload_n 0, 1) := by decide +kernel
theorem dX9_add_36 : decode cX9_add 36 = .ok (.getfield 106, 3) := by decide +kernel
theorem dX9_add_39 : decode cX9_add 39 = .ok (.ifCond .ne 6, 3) := by decide +kernel
theorem dX9_add_42 : decode cX9_add 42 = .ok (.bipush (-10), 2) := by decide +kernel
theorem dX9_add_44 : decode cX9_add 44 = .ok (.ireturn, 1) := by decide +kernel
theorem dX9_add_45 : decode cX9_add 45 = .ok (.aload_n 0, 1) := by decide +kernel
theorem dX9_add_46 : decode cX9_add 46 = .ok (.invokevirtual 124, 3) := by decide +kernel
theorem dX9_add_49 : decode cX9_add 49 = .ok (.istore 4, 2) := by decide +kernel
theorem dX9_add_51 : decode cX9_add 51 = .ok (.iload 4, 2) := by decide +kernel
theorem dX9_add_53 : decode cX9_add 53 = .ok (.bipush (-9), 2) := by decide +kernel
theorem dX9_add_55 : decode cX9_add 55 = .ok (.if_icmp .eq 9, 3) := by decide +kernel
theorem dX9_add_58 : decode cX9_add 58 = .ok (.bipush (-10), 2) := by decide +kernel
theorem dX9_add_60 : decode cX9_add 60 = .ok (.iload 4, 2) := by decide +kernel
theorem dX9_add_62 : decode cX9_add 62 = .ok (.isub, 1) := by decide +kernel
theorem dX9_add_63 : decode cX9_add 63 = .ok (.ireturn, 1) := by decide +kernel
theorem dX9_add_64 : decode cX9_add 64 = .ok (.aload_n 0, 1) := by decide +kernel
theorem dX9_add_65 : decode cX9_add 65 = .ok (.getfield 37, 3) := by decide +kernel
theorem dX9_add_68 : decode cX9_add 68 = .ok (.aload_n 0, 1) := by decide +kernel
theorem dX9_add_69 : decode cX9_add 69 = .ok (.getfield 23, 3) := by decide +kernel
theorem dX9_add_72 : decode cX9_add 72 = .ok (.invokevirtual 58, 3) := by decide +kernel
theorem dX9_add_75 : decode cX9_add 75 = .ok (.aload_n 0, 1) := by decide +kernel
theorem dX9_add_76 : decode cX9_add 76 = .ok (.getfield 23, 3) := by decide +kernel
theorem dX9_add_79 : decode cX9_add 79 = .ok (.getfield 114, 3) := by decide +kernel
theorem dX9_add_82 : decode cX9_add 82 = .ok (.iload_n 1, 1) := by decide +kernel
theorem dX9_add_83 : decode cX9_add 83 = .ok (.iload_n 2, 1) := by decide +kernel
theorem dX9_add_84 : decode cX9_add 84 = .ok (.new 13, 3) := by decide +kernel
theorem dX9_add_87 : decode cX9_add 87 = .ok (.dup, 1) := by decide +kernel
theorem dX9_add_88 : decode cX9_add 88 = .ok (.iload_n 3, 1) := by decide +kernel
theorem dX9_add_89 : decode cX9_add 89 = .ok (.aload_n 0, 1) := by decide +kernel
theorem dX9_add_90 : decode cX9_add 90 = .ok (.getfield 9, 3) := by decide +kernel
theorem dX9_add_93 : decode cX9_add 93 = .ok (.aload_n 0, 1) := by decide +kernel
theorem dX9_add_94 : decode cX9_add 94 = .ok (.getfield 106, 3) := by decide +kernel
theorem dX9_add_97 : decode cX9_add 97 = .ok (.invokespecial 15, 3) := by decide +kernel
theorem dX9_add_100 : decode cX9_add 100 = .ok (.invokevirtual 127, 3) := by decide +kernel
theorem dX9_add_103 : decode cX9_add 103 = .ok (.ireturn, 1) := by decide +kernel
theorem dX9_drop_0 : decode cX9_drop 0 = .ok (.aload_n 0, 1) := by decide +kernel
theorem dX9_drop_1 : decode cX9_drop 1 = .ok (.getfield 23, 3) := by decide +kernel
theorem dX9_drop_4 : decode cX9_drop 4 = .ok (.getfield 114, 3) := by decide +kernel
theorem dX9_drop_7 : decode cX9_drop 7 = .ok (.iload_n 1, 1) := by decide +kernel
theorem dX9_drop_8 : decode cX9_drop 8 = .ok (.invokevirtual 130, 3) := by decide +kernel
theorem dX9_drop_11 : decode cX9_drop 11 = .ok (.ifCond .ne 5, 3) := by decide +kernel
theorem dX9_drop_14 : decode cX9_drop 14 = .ok (.iconst (-1), 1) := by decide +kernel
theorem dX9_drop_15 : decode cX9_drop 15 = .ok (.ireturn, 1) := by decide +kernel
theorem dX9_drop_16 : decode cX9_drop 16 = .ok (.aload_n 0, 1) := by decide +kernel
theorem dX9_drop_17 : decode cX9_drop 17 = .ok (.getfield 37, 3) := by decide +kernel
theorem dX9_drop_20 : decode cX9_drop 20 = .ok (.aload_n 0, 1) := by decide +kernel
theorem dX9_drop_21 : decode cX9_drop 21 = .ok (.getfield 23, 3) := by decide +kernel
theorem dX9_drop_24 : decode cX9_drop 24 = .ok (.invokevirtual 58, 3) := by decide +kernel
theorem dX9_drop_27 : decode cX9_drop 27 = .ok (.aload_n 0, 1) := by decide +kernel
theorem dX9_drop_28 : decode cX9_drop 28 = .ok (.getfield 23, 3) := by decide +kernel
theorem dX9_drop_31 : decode cX9_drop 31 = .ok (.getfield 114, 3) := by decide +kernel
theorem dX9_drop_34 : decode cX9_drop 34 = .ok (.iload_n 1, 1) := by decide +kernel
theorem dX9_drop_35 : decode cX9_drop 35 = .ok (.invokevirtual 131, 3) := by decide +kernel
theorem dX9_drop_38 : decode cX9_drop 38 = .ok (.aload_n 0, 1) := by decide +kernel
theorem dX9_drop_39 : decode cX9_drop 39 = .ok (.getfield 23, 3) := by decide +kernel
theorem dX9_drop_42 : decode cX9_drop 42 = .ok (.getfield 114, 3) := by decide +kernel
theorem dX9_drop_45 : decode cX9_drop 45 = .ok (.invokevirtual 132, 3) := by decide +kernel
theorem dX9_drop_48 : decode cX9_drop 48 = .ok (.ireturn, 1) := by decide +kernel
theorem dX9_move_0 : decode cX9_move 0 = .ok (.aload_n 0, 1) := by decide +kernel
theorem dX9_move_1 : decode cX9_move 1 = .ok (.getfield 23, 3) := by decide +kernel
theorem dX9_move_4 : decode cX9_move 4 = .ok (.getfield 114, 3) := by decide +kernel
theorem dX9_move_7 : decode cX9_move 7 = .ok (.iload_n 1, 1) := by decide +kernel
theorem dX9_move_8 : decode cX9_move 8 = .ok (.invokevirtual 130, 3) := by decide +kernel
theorem dX9_move_11 : decode cX9_move 11 = .ok (.ifCond .eq 11, 3) := by decide +kernel
theorem dX9_move_14 : decode cX9_move 14 = .ok (.iload_n 2, 1) := by decide +kernel
theorem dX9_move_15 : decode cX9_move 15 = .ok (.iload_n 3, 1) := by decide +kernel
theorem dX9_move_16 : decode cX9_move 16 = .ok (.invokestatic 110, 3) := by decide +kernel
theorem dX9_move_19 : decode cX9_move 19 = .ok (.ifCond .ne 5, 3) := by decide +kernel
theorem dX9_move_22 : decode cX9_move 22 = .ok (.iconst (-1), 1) := by decide +kernel
theorem dX9_move_23 : decode cX9_move 23 = .ok (.ireturn, 1) := by decide +kernel
theorem dX9_move_24 : decode cX9_move 24 = .ok (.aload_n 0, 1) := by decide +kernel
theorem dX9_move_25 : decode cX9_move 25 = .ok (.getfield 37, 3) := by decide +kernel
theorem dX9_move_28 : decode cX9_move 28 = .ok (.aload_n 0, 1) := by decide +kernel
theorem dX9_move_29 : decode cX9_move 29 = .ok (.getfield 23, 3) := by decide +kernel
theorem dX9_move_32 : decode cX9_move 32 = .ok (.invokevirtual 58, 3) := by decide +kernel
theorem dX9_move_35 : decode cX9_move 35 = .ok (.aload_n 0, 1) := by decide +kernel
theorem dX9_move_36 : decode cX9_move 36 = .ok (.getfield 23, 3) := by decide +kernel
theorem dX9_move_39 : decode cX9_move 39 = .ok (.getfield 114, 3) := by decide +kernel
theorem dX9_move_42 : decode cX9_move 42 = .ok (.iload_n 1, 1) := by decide +kernel
theorem dX9_move_43 : decode cX9_move 43 = .ok (.iload_n 2, 1) := by decide +kernel
theorem dX9_move_44 : decode cX9_move 44 = .ok (.iload_n 3, 1) := by decide +kernel
theorem dX9_move_45 : decode cX9_move 45 = .ok (.invokevirtual 133, 3) := by decide +kernel
theorem dX9_move_48 : decode cX9_move 48 = .ok (.ireturn, 1) := by decide +kernel
theorem dX9_subtitle_0 : decode cX9_subtitle 0 = .ok (.aload_n 0, 1) := by decide +kernel
theorem dX9_subtitle_1 : decode cX9_subtitle 1 = .ok (.getfield 23, 3) := by decide +kernel
theorem dX9_subtitle_4 : decode cX9_subtitle 4 = .ok (.getfield 114, 3) := by decide +kernel
theorem dX9_subtitle_7 : decode cX9_subtitle 7 = .ok (.iload_n 1, 1) := by decide +kernel
theorem dX9_subtitle_8 : decode cX9_subtitle 8 = .ok (.invokevirtual 130, 3) := by decide +kernel
theorem dX9_subtitle_11 : decode cX9_subtitle 11 = .ok (.ifCond .ne 5, 3) := by decide +kernel
theorem dX9_subtitle_14 : decode cX9_subtitle 14 = .ok (.iconst (-1), 1) := by decide +kernel
theorem dX9_subtitle_15 : decode cX9_subtitle 15 = .ok (.ireturn, 1) := by decide +kernel
theorem dX9_subtitle_16 : decode cX9_subtitle 16 = .ok (.aload_n 0, 1) := by decide +kernel
theorem dX9_subtitle_17 : decode cX9_subtitle 17 = .ok (.getfield 23, 3) := by decide +kernel
theorem dX9_subtitle_20 : decode cX9_subtitle 20 = .ok (.getfield 114, 3) := by decide +kernel
theorem dX9_subtitle_23 : decode cX9_subtitle 23 = .ok (.iload_n 1, 1) := by decide +kernel
theorem dX9_subtitle_24 : decode cX9_subtitle 24 = .ok (.invokevirtual 137, 3) := by decide +kernel
theorem dX9_subtitle_27 : decode cX9_subtitle 27 = .ok (.astore_n 3, 1) := by decide +kernel
theorem dX9_subtitle_28 : decode cX9_subtitle 28 = .ok (.iload_n 2, 1) := by decide +kernel
theorem dX9_subtitle_29 : decode cX9_subtitle 29 = .ok (.tableswitch 93 0 6 #[43, 48, 53, 58, 63, 72, 81], 43) := by decide +kernel
theorem dX9_subtitle_72 : decode cX9_subtitle 72 = .ok (.aload_n 3, 1) := by decide +kernel
theorem dX9_subtitle_73 : decode cX9_subtitle 73 = .ok (.getfield 140, 3) := by decide +kernel
theorem dX9_subtitle_76 : decode cX9_subtitle 76 = .ok (.ireturn, 1) := by decide +kernel
theorem dX9_subtitle_77 : decode cX9_subtitle 77 = .ok (.aload_n 3, 1) := by decide +kernel
theorem dX9_subtitle_78 : decode cX9_subtitle 78 = .ok (.getfield 145, 3) := by decide +kernel
theorem dX9_subtitle_81 : decode cX9_subtitle 81 = .ok (.ireturn, 1) := by decide +kernel
theorem dX9_subtitle_82 : decode cX9_subtitle 82 = .ok (.aload_n 3, 1) := by decide +kernel
theorem dX9_subtitle_83 : decode cX9_subtitle 83 = .ok (.getfield 148, 3) := by decide +kernel
theorem dX9_subtitle_86 : decode cX9_subtitle 86 = .ok (.ireturn, 1) := by decide +kernel
theorem dX9_subtitle_87 : decode cX9_subtitle 87 = .ok (.aload_n 3, 1) := by decide +kernel
theorem dX9_subtitle_88 : decode cX9_subtitle 88 = .ok (.invokevirtual 151, 3) := by decide +kernel
theorem dX9_subtitle_91 : decode cX9_subtitle 91 = .ok (.ireturn, 1) := by decide +kernel
theorem dX9_subtitle_92 : decode cX9_subtitle 92 = .ok (.aload_n 0, 1) := by decide +kernel
theorem dX9_subtitle_93 : decode cX9_subtitle 93 = .ok (.getfield 23, 3) := by decide +kernel
theorem dX9_subtitle_96 : decode cX9_subtitle 96 = .ok (.aload_n 3, 1) := by decide +kernel
theorem dX9_subtitle_97 : decode cX9_subtitle 97 = .ok (.invokevirtual 154, 3) := by decide +kernel
theorem dX9_subtitle_100 : decode cX9_subtitle 100 = .ok (.ireturn, 1) := by decide +kernel
theorem dX9_subtitle_101 : decode cX9_subtitle 101 = .ok (.aload_n 0, 1) := by decide +kernel
theorem dX9_subtitle_102 : decode cX9_subtitle 102 = .ok (.getfield 23, 3) := by decide +kernel
theorem dX9_subtitle_105 : decode cX9_subtitle 105 = .ok (.iload_n 1, 1) := by decide +kernel
theorem dX9_subtitle_106 : decode cX9_subtitle 106 = .ok (.invokevirtual 158, 3) := by decide +kernel
theorem dX9_subtitle_109 : decode cX9_subtitle 109 = .ok (.ireturn, 1) := by decide +kernel
theorem dX9_subtitle_110 : decode cX9_subtitle 110 = .ok (.aload_n 0, 1) := by decide +kernel
theorem dX9_subtitle_111 : decode cX9_subtitle 111 = .ok (.getfield 23, 3) := by decide +kernel
theorem dX9_subtitle_114 : decode cX9_subtitle 114 = .ok (.getfield 114, 3) := by decide +kernel
theorem dX9_subtitle_117 : decode cX9_subtitle 117 = .ok (.iload_n 1, 1) := by decide +kernel
theorem dX9_subtitle_118 : decode cX9_subtitle 118 = .ok (.invokevirtual 161, 3) := by decide +kernel
theorem dX9_subtitle_121 : decode cX9_subtitle 121 = .ok (.ireturn, 1) := by decide +kernel
theorem dX9_subtitle_122 : decode cX9_subtitle 122 = .ok (.iconst (-1), 1) := by decide +kernel
theorem dX9_subtitle_123 : decode cX9_subtitle 123 = .ok (.ireturn, 1) := by decide +kernel
theorem dX9_part_0 : decode cX9_part 0 = .ok (.aload_n 0, 1) := by decide +kernel
theorem dX9_part_1 : decode cX9_part 1 = .ok (.getfield 23, 3) := by decide +kernel
theorem dX9_part_4 : decode cX9_part 4 = .ok (.getfield 114, 3) := by decide +kernel
theorem dX9_part_7 : decode cX9_part 7 = .ok (.iload_n 1, 1) := by decide +kernel
theorem dX9_part_8 : decode cX9_part 8 = .ok (.invokevirtual 130, 3) := by decide +kernel
theorem dX9_part_11 : decode cX9_part 11 = .ok (.ifCond .eq 12, 3) := by decide +kernel
theorem dX9_part_14 : decode cX9_part 14 = .ok (.iload_n 2, 1) := by decide +kernel
theorem dX9_part_15 : decode cX9_part 15 = .ok (.iconst 0, 1) := by decide +kernel
theorem dX9_part_16 : decode cX9_part 16 = .ok (.iconst 1, 1) := by decide +kernel
theorem dX9_part_17 : decode cX9_part 17 = .ok (.invokestatic 41, 3) := by decide +kernel
theorem dX9_part_20 : decode cX9_part 20 = .ok (.ifCond .ne 5, 3) := by decide +kernel
theorem dX9_part_23 : decode cX9_part 23 = .ok (.iconst (-1), 1) := by decide +kernel
theorem dX9_part_24 : decode cX9_part 24 = .ok (.ireturn, 1) := by decide +kernel
theorem dX9_part_25 : decode cX9_part 25 = .ok (.iload_n 3, 1) := by decide +kernel
theorem dX9_part_26 : decode cX9_part 26 = .ok (.ifCond .lt 14, 3) := by decide +kernel
theorem dX9_part_29 : decode cX9_part 29 = .ok (.iload_n 3, 1) := by decide +kernel
theorem dX9_part_30 : decode cX9_part 30 = .ok (.iconst 3, 1) := by decide +kernel
theorem dX9_part_31 : decode cX9_part 31 = .ok (.if_icmp .le 11, 3) := by decide +kernel
theorem dX9_part_34 : decode cX9_part 34 = .ok (.iload_n 3, 1) := by decide +kernel
theorem dX9_part_35 : decode cX9_part 35 = .ok (.bipush 10, 2) := by decide +kernel
theorem dX9_part_37 : decode cX9_part 37 = .ok (.if_icmp .ge 5, 3) := by decide +kernel
theorem dX9_part_40 : decode cX9_part 40 = .ok (.iconst (-1), 1) := by decide +kernel
theorem dX9_part_41 : decode cX9_part 41 = .ok (.ireturn, 1) := by decide +kernel
theorem dX9_part_42 : decode cX9_part 42 = .ok (.aload_n 0, 1) := by decide +kernel
theorem dX9_part_43 : decode cX9_part 43 = .ok (.getfield 23, 3) := by decide +kernel
theorem dX9_part_46 : decode cX9_part 46 = .ok (.getfield 114, 3) := by decide +kernel
theorem dX9_part_49 : decode cX9_part 49 = .ok (.iload_n 1, 1) := by decide +kernel
theorem dX9_part_50 : decode cX9_part 50 = .ok (.invokevirtual 137, 3) := by decide +kernel
theorem dX9_part_53 : decode cX9_part 53 = .ok (.astore 4, 2) := by decide +kernel
theorem dX9_part_55 : decode cX9_part 55 = .ok (.iload_n 2, 1) := by decide +kernel
theorem dX9_part_56 : decode cX9_part 56 = .ok (.aload 4, 2) := by decide +kernel
theorem dX9_part_58 : decode cX9_part 58 = .ok (.getfield 148, 3) := by decide +kernel
theorem dX9_part_61 : decode cX9_part 61 = .ok (.if_icmp .lt 6, 3) := by decide +kernel
theorem dX9_part_64 : decode cX9_part 64 = .ok (.bipush (-9), 2) := by decide +kernel
theorem dX9_part_66 : decode cX9_part 66 = .ok (.ireturn, 1) := by decide +kernel
theorem dX9_part_67 : decode cX9_part 67 = .ok (.iload_n 2, 1) := by decide +kernel
theorem dX9_part_68 : decode cX9_part 68 = .ok (.ifCond .ne 11, 3) := by decide +kernel
theorem dX9_part_71 : decode cX9_part 71 = .ok (.aload 4, 2) := by decide +kernel
theorem dX9_part_73 : decode cX9_part 73 = .ok (.getfield 164, 3) := by decide +kernel
theorem dX9_part_76 : decode cX9_part 76 = .ok (.goto 8, 3) := by decide +kernel
theorem dX9_part_79 : decode cX9_part 79 = .ok (.aload 4, 2) := by decide +kernel
theorem dX9_part_81 : decode cX9_part 81 = .ok (.getfield 168, 3) := by decide +kernel
theorem dX9_part_84 : decode cX9_part 84 = .ok (.astore 5, 2) := by decide +kernel
theorem dX9_part_86 : decode cX9_part 86 = .ok (.iload_n 3, 1) := by decide +kernel
theorem dX9_part_87 : decode cX9_part 87 = .ok (.bipush 10, 2) := by decide +kernel
theorem dX9_part_89 : decode cX9_part 89 = .ok (.if_icmp .lt 13, 3) := by decide +kernel
theorem dX9_part_92 : decode cX9_part 92 = .ok (.aload 5, 2) := by decide +kernel
theorem dX9_part_94 : decode cX9_part 94 = .ok (.iload_n 3, 1) := by decide +kernel
theorem dX9_part_95 : decode cX9_part 95 = .ok (.bipush 10, 2) := by decide +kernel
theorem dX9_part_97 : decode cX9_part 97 = .ok (.isub, 1) := by decide +kernel
theorem dX9_part_98 : decode cX9_part 98 = .ok (.invokevirtual 171, 3) := by decide +kernel
theorem dX9_part_101 : decode cX9_part 101 = .ok (.ireturn, 1) := by decide +kernel
theorem dX9_part_102 : decode cX9_part 102 = .ok (.iload_n 3, 1) := by decide +kernel
theorem dX9_part_103 : decode cX9_part 103 = .ok (.ifCond .ne 9, 3) := by decide +kernel
theorem dX9_part_106 : decode cX9_part 106 = .ok (.aload 5, 2) := by decide +kernel
theorem dX9_part_108 : decode cX9_part 108 = .ok (.getfield 174, 3) := by decide +kernel
theorem dX9_part_111 : decode cX9_part 111 = .ok (.ireturn, 1) := by decide +kernel
theorem dX9_part_112 : decode cX9_part 112 = .ok (.iload_n 3, 1) := by decide +kernel
theorem dX9_part_113 : decode cX9_part 113 = .ok (.iconst 1, 1) := by decide +kernel
theorem dX9_part_114 : decode cX9_part 114 = .ok (.if_icmp .ne 9, 3) := by decide +kernel
theorem dX9_part_117 : decode cX9_part 117 = .ok (.aload 5, 2) := by decide +kernel
theorem dX9_part_119 : decode cX9_part 119 = .ok (.invokevirtual 177, 3) := by decide +kernel
theorem dX9_part_122 : decode cX9_part 122 = .ok (.ireturn, 1) := by decide +kernel
theorem dX9_part_123 : decode cX9_part 123 = .ok (.aload 5, 2) := by decide +kernel
theorem dX9_part_125 : decode cX9_part 125 = .ok (.aload_n 0, 1) := by decide +kernel
theorem dX9_part_126 : decode cX9_part 126 = .ok (.getfield 23, 3) := by decide +kernel
theorem dX9_part_129 : decode cX9_part 129 = .ok (.getfield 180, 3) := by decide +kernel
theorem dX9_part_132 : decode cX9_part 132 = .ok (.iconst 4, 1) := by decide +kernel
theorem dX9_part_133 : decode cX9_part 133 = .ok (.invokevirtual 184, 3) := by decide +kernel
theorem dX9_part_136 : decode cX9_part 136 = .ok (.invokevirtual 187, 3) := by decide +kernel
theorem dX9_part_139 : decode cX9_part 139 = .ok (.istore 6, 2) := by decide +kernel
theorem dX9_part_141 : decode cX9_part 141 = .ok (.iload_n 3, 1) := by decide +kernel
theorem dX9_part_142 : decode cX9_part 142 = .ok (.iconst 2, 1) := by decide +kernel
theorem dX9_part_143 : decode cX9_part 143 = .ok (.if_icmp .ne 21, 3) := by decide +kernel
theorem dX9_part_146 : decode cX9_part 146 = .ok (.iload 6, 2) := by decide +kernel
theorem dX9_part_148 : decode cX9_part 148 = .ok (.bipush (-9), 2) := by decide +kernel
theorem dX9_part_150 : decode cX9_part 150 = .ok (.if_icmp .ne 11, 3) := by decide +kernel
theorem dX9_part_153 : decode cX9_part 153 = .ok (.aload 5, 2) := by decide +kernel
theorem dX9_part_155 : decode cX9_part 155 = .ok (.invokevirtual 177, 3) := by decide +kernel
theorem dX9_part_158 : decode cX9_part 158 = .ok (.goto 5, 3) := by decide +kernel
theorem dX9_part_161 : decode cX9_part 161 = .ok (.iload 6, 2) := by decide +kernel
theorem dX9_part_163 : decode cX9_part 163 = .ok (.ireturn, 1) := by decide +kernel
theorem dX9_part_164 : decode cX9_part 164 = .ok (.iload 6, 2) := by decide +kernel
theorem dX9_part_166 : decode cX9_part 166 = .ok (.bipush (-9), 2) := by decide +kernel
theorem dX9_part_168 : decode cX9_part 168 = .ok (.if_icmp .ne 8, 3) := by decide +kernel
theorem dX9_part_171 : decode cX9_part 171 = .ok (.bipush (-9), 2) := by decide +kernel
theorem dX9_part_173 : decode cX9_part 173 = .ok (.goto 10, 3) := by decide +kernel
theorem dX9_part_176 : decode cX9_part 176 = .ok (.aload 5, 2) := by decide +kernel
theorem dX9_part_178 : decode cX9_part 178 = .ok (.iload 6, 2) := by decide +kernel
theorem dX9_part_180 : decode cX9_part 180 = .ok (.invokevirtual 190, 3) := by decide +kernel
theorem dX9_part_183 : decode cX9_part 183 = .ok (.ireturn, 1) := by decide +kernel
theorem dX9_set_0 : decode cX9_set 0 = .ok (.aload_n 0, 1) := by decide +kernel
theorem dX9_set_1 : decode cX9_set 1 = .ok (.getfield 23, 3) := by decide +kernel
theorem dX9_set_4 : decode cX9_set 4 = .ok (.getfield 180, 3) := by decide +kernel
theorem dX9_set_7 : decode cX9_set 7 = .ok (.iload_n 1, 1) := by decide +kernel
theorem dX9_set_8 : decode cX9_set 8 = .ok (.iload_n 2, 1) := by decide +kernel
theorem dX9_set_9 : decode cX9_set 9 = .ok (.invokevirtual 193, 3) := by decide +kernel
theorem dX9_set_12 : decode cX9_set 12 = .ok (.ifCond .ne 5, 3) := by decide +kernel
theorem dX9_set_15 : decode cX9_set 15 = .ok (.iconst (-1), 1) := by decide +kernel
theorem dX9_set_16 : decode cX9_set 16 = .ok (.ireturn, 1) := by decide +kernel
theorem dX9_set_17 : decode cX9_set 17 = .ok (.aload_n 0, 1) := by decide +kernel
theorem dX9_set_18 : decode cX9_set 18 = .ok (.getfield 37, 3) := by decide +kernel
theorem dX9_set_21 : decode cX9_set 21 = .ok (.aload_n 0, 1) := by decide +kernel
theorem dX9_set_22 : decode cX9_set 22 = .ok (.getfield 23, 3) := by decide +kernel
theorem dX9_set_25 : decode cX9_set 25 = .ok (.invokevirtual 58, 3) := by decide +kernel
theorem dX9_set_28 : decode cX9_set 28 = .ok (.aload_n 0, 1) := by decide +kernel
theorem dX9_set_29 : decode cX9_set 29 = .ok (.getfield 23, 3) := by decide +kernel
theorem dX9_set_32 : decode cX9_set 32 = .ok (.getfield 180, 3) := by decide +kernel
theorem dX9_set_35 : decode cX9_set 35 = .ok (.iload_n 1, 1) := by decide +kernel
theorem dX9_set_36 : decode cX9_set 36 = .ok (.invokevirtual 184, 3) := by decide +kernel
theorem dX9_set_39 : decode cX9_set 39 = .ok (.istore_n 3, 1) := by decide +kernel
theorem dX9_set_40 : decode cX9_set 40 = .ok (.aload_n 0, 1) := by decide +kernel
theorem dX9_set_41 : decode cX9_set 41 = .ok (.getfield 23, 3) := by decide +kernel
theorem dX9_set_44 : decode cX9_set 44 = .ok (.getfield 180, 3) := by decide +kernel
theorem dX9_set_47 : decode cX9_set 47 = .ok (.iload_n 1, 1) := by decide +kernel
theorem dX9_set_48 : decode cX9_set 48 = .ok (.iload_n 2, 1) := by decide +kernel
theorem dX9_set_49 : decode cX9_set 49 = .ok (.invokevirtual 196, 3) := by decide +kernel
theorem dX9_set_52 : decode cX9_set 52 = .ok (.iload_n 3, 1) := by decide +kernel
theorem dX9_set_53 : decode cX9_set 53 = .ok (.ireturn, 1) := by decide +kernel
theorem dX9_conform_0 : decode cX9_conform 0 = .ok (.iload_n 1, 1) := by decide +kernel
theorem dX9_conform_1 : decode cX9_conform 1 = .ok (.iconst 1, 1) := by decide +kernel
theorem dX9_conform_2 : decode cX9_conform 2 = .ok (.bipush 31, 2) := by decide +kernel
theorem dX9_conform_4 : decode cX9_conform 4 = .ok (.invokestatic 41, 3) := by decide +kernel
theorem dX9_conform_7 : decode cX9_conform 7 = .ok (.ifCond .ne 5, 3) := by decide +kernel
theorem dX9_conform_10 : decode cX9_conform 10 = .ok (.iconst (-1), 1) := by decide +kernel
theorem dX9_conform_11 : decode cX9_conform 11 = .ok (.ireturn, 1) := by decide +kernel
theorem dX9_conform_12 : decode cX9_conform 12 = .ok (.aload_n 0, 1) := by decide +kernel
theorem dX9_conform_13 : decode cX9_conform 13 = .ok (.getfield 30, 3) := by decide +kernel
theorem dX9_conform_16 : decode cX9_conform 16 = .ok (.aload_n 0, 1) := by decide +kernel
theorem dX9_conform_17 : decode cX9_conform 17 = .ok (.getfield 23, 3) := by decide +kernel
theorem dX9_conform_20 : decode cX9_conform 20 = .ok (.iload_n 1, 1) := by decide +kernel
theorem dX9_conform_21 : decode cX9_conform 21 = .ok (.invokevirtual 199, 3) := by decide +kernel
theorem dX9_conform_24 : decode cX9_conform 24 = .ok (.ifCond .ne 6, 3) := by decide +kernel
theorem dX9_conform_27 : decode cX9_conform 27 = .ok (.bipush (-3), 2) := by decide +kernel
theorem dX9_conform_29 : decode cX9_conform 29 = .ok (.ireturn, 1) := by decide +kernel
theorem dX9_conform_30 : decode cX9_conform 30 = .ok (.aload_n 0, 1) := by decide +kernel
theorem dX9_conform_31 : decode cX9_conform 31 = .ok (.getfield 37, 3) := by decide +kernel
theorem dX9_conform_34 : decode cX9_conform 34 = .ok (.aload_n 0, 1) := by decide +kernel
theorem dX9_conform_35 : decode cX9_conform 35 = .ok (.getfield 23, 3) := by decide +kernel
theorem dX9_conform_38 : decode cX9_conform 38 = .ok (.invokevirtual 58, 3) := by decide +kernel
theorem dX9_conform_41 : decode cX9_conform 41 = .ok (.aload_n 0, 1) := by decide +kernel
theorem dX9_conform_42 : decode cX9_conform 42 = .ok (.getfield 23, 3) := by decide +kernel
theorem dX9_conform_45 : decode cX9_conform 45 = .ok (.aload_n 0, 1) := by decide +kernel
theorem dX9_conform_46 : decode cX9_conform 46 = .ok (.getfield 30, 3) := by decide +kernel
theorem dX9_conform_49 : decode cX9_conform 49 = .ok (.getfield 203, 3) := by decide +kernel
theorem dX9_conform_52 : decode cX9_conform 52 = .ok (.invokevirtual 206, 3) := by decide +kernel
theorem dX9_conform_55 : decode cX9_conform 55 = .ok (.aload_n 0, 1) := by decide +kernel
theorem dX9_conform_56 : decode cX9_conform 56 = .ok (.getfield 23, 3) := by decide +kernel
theorem dX9_conform_59 : decode cX9_conform 59 = .ok (.getfield 114, 3) := by decide +kernel
theorem dX9_conform_62 : decode cX9_conform 62 = .ok (.invokevirtual 132, 3) := by decide +kernel
theorem dX9_conform_65 : decode cX9_conform 65 = .ok (.ireturn, 1) := by decide +kernel
theorem dX9_ifConform_0 : decode cX9_ifConform 0 = .ok (.iload_n 1, 1) := by decide +kernel
theorem dX9_ifConform_1 : decode cX9_ifConform 1 = .ok (.iconst 1, 1) := by decide +kernel
theorem dX9_ifConform_2 : decode cX9_ifConform 2 = .ok (.bipush 31, 2) := by decide +kernel
theorem dX9_ifConform_4 : decode cX9_ifConform 4 = .ok (.invokestatic 41, 3) := by decide +kernel
theorem dX9_ifConform_7 : decode cX9_ifConform 7 = .ok (.ifCond .eq 12, 3) := by decide +kernel
theorem dX9_ifConform_10 : decode cX9_ifConform 10 = .ok (.iload_n 2, 1) := by decide +kernel
theorem dX9_ifConform_11 : decode cX9_ifConform 11 = .ok (.iconst 0, 1) := by decide +kernel
theorem dX9_ifConform_12 : decode cX9_ifConform 12 = .ok (.iconst 4, 1) := by decide +kernel
theorem dX9_ifConform_13 : decode cX9_ifConform 13 = .ok (.invokestatic 41, 3) := by decide +kernel
theorem dX9_ifConform_16 : decode cX9_ifConform 16 = .ok (.ifCond .ne 5, 3) := by decide +kernel
theorem dX9_ifConform_19 : decode cX9_ifConform 19 = .ok (.iconst (-1), 1) := by decide +kernel
theorem dX9_ifConform_20 : decode cX9_ifConform 20 = .ok (.ireturn, 1) := by decide +kernel
theorem dX9_ifConform_21 : decode cX9_ifConform 21 = .ok (.aload_n 0, 1) := by decide +kernel
theorem dX9_ifConform_22 : decode cX9_ifConform 22 = .ok (.getfield 30, 3) := by decide +kernel
theorem dX9_ifConform_25 : decode cX9_ifConform 25 = .ok (.aload_n 0, 1) := by decide +kernel
theorem dX9_ifConform_26 : decode cX9_ifConform 26 = .ok (.getfield 23, 3) := by decide +kernel
theorem dX9_ifConform_29 : decode cX9_ifConform 29 = .ok (.iload_n 1, 1) := by decide +kernel
theorem dX9_ifConform_30 : decode cX9_ifConform 30 = .ok (.invokevirtual 199, 3) := by decide +kernel
theorem dX9_ifConform_33 : decode cX9_ifConform 33 = .ok (.ifCond .ne 6, 3) := by decide +kernel
theorem dX9_ifConform_36 : decode cX9_ifConform 36 = .ok (.bipush (-3), 2) := by decide +kernel
theorem dX9_ifConform_38 : decode cX9_ifConform 38 = .ok (.ireturn, 1) := by decide +kernel
theorem dX9_ifConform_39 : decode cX9_ifConform 39 = .ok (.iload_n 2, 1) := by decide +kernel
theorem dX9_ifConform_40 : decode cX9_ifConform 40 = .ok (.tableswitch 86 0 3 #[32, 46, 60, 72], 32) := by decide +kernel
theorem dX9_ifConform_72 : decode cX9_ifConform 72 = .ok (.aload_n 0, 1) := by decide +kernel
theorem dX9_ifConform_73 : decode cX9_ifConform 73 = .ok (.getfield 30, 3) := by decide +kernel
theorem dX9_ifConform_76 : decode cX9_ifConform 76 = .ok (.getfield 203, 3) := by decide +kernel
theorem dX9_ifConform_79 : decode cX9_ifConform 79 = .ok (.getfield 114, 3) := by decide +kernel
theorem dX9_ifConform_82 : decode cX9_ifConform 82 = .ok (.invokevirtual 132, 3) := by decide +kernel
theorem dX9_ifConform_85 : decode cX9_ifConform 85 = .ok (.ireturn, 1) := by decide +kernel
theorem dX9_ifConform_86 : decode cX9_ifConform 86 = .ok (.aload_n 0, 1) := by decide +kernel
theorem dX9_ifConform_87 : decode cX9_ifConform 87 = .ok (.getfield 30, 3) := by decide +kernel
theorem dX9_ifConform_90 : decode cX9_ifConform 90 = .ok (.getfield 203, 3) := by decide +kernel
theorem dX9_ifConform_93 : decode cX9_ifConform 93 = .ok (.getfield 114, 3) := by decide +kernel
theorem dX9_ifConform_96 : decode cX9_ifConform 96 = .ok (.invokevirtual 209, 3) := by decide +kernel
theorem dX9_ifConform_99 : decode cX9_ifConform 99 = .ok (.ireturn, 1) := by decide +kernel
theorem dX9_ifConform_100 : decode cX9_ifConform 100 = .ok (.aload_n 0, 1) := by decide +kernel
theorem dX9_ifConform_101 : decode cX9_ifConform 101 = .ok (.getfield 30, 3) := by decide +kernel
theorem dX9_ifConform_104 : decode cX9_ifConform 104 = .ok (.getfield 203, 3) := by decide +kernel
theorem dX9_ifConform_107 : decode cX9_ifConform 107 = .ok (.iconst 0, 1) := by decide +kernel
theorem dX9_ifConform_108 : decode cX9_ifConform 108 = .ok (.invokevirtual 212, 3) := by decide +kernel
theorem dX9_ifConform_111 : decode cX9_ifConform 111 = .ok (.ireturn, 1) := by decide +kernel
theorem dX9_ifConform_112 : decode cX9_ifConform 112 = .ok (.aload_n 0, 1) := by decide +kernel
theorem dX9_ifConform_113 : decode cX9_ifConform 113 = .ok (.getfield 30, 3) := by decide +kernel
theorem dX9_ifConform_116 : decode cX9_ifConform 116 = .ok (.getfield 203, 3) := by decide +kernel
theorem dX9_ifConform_119 : decode cX9_ifConform 119 = .ok (.getfield 114, 3) := by decide +kernel
theorem dX9_ifConform_122 : decode cX9_ifConform 122 = .ok (.invokevirtual 215, 3) := by decide +kernel
theorem dX9_ifConform_125 : decode cX9_ifConform 125 = .ok (.ireturn, 1) := by decide +kernel
theorem dX9_ifConform_126 : decode cX9_ifConform 126 = .ok (.aload_n 0, 1) := by decide +kernel
theorem dX9_ifConform_127 : decode cX9_ifConform 127 = .ok (.getfield 30, 3) := by decide +kernel
theorem dX9_ifConform_130 : decode cX9_ifConform 130 = .ok (.getfield 218, 3) := by decide +kernel
theorem dX9_ifConform_133 : decode cX9_ifConform 133 = .ok (.ireturn, 1) := by decide +kernel
theorem dX9_stretches_0 : decode cX9_stretches 0 = .ok (.aload_n 0, 1) := by decide +kernel
theorem dX9_stretches_1 : decode cX9_stretches 1 = .ok (.getfield 23, 3) := by decide +kernel
theorem dX9_stretches_4 : decode cX9_stretches 4 = .ok (.getfield 114, 3) := by decide +kernel
theorem dX9_stretches_7 : decode cX9_stretches 7 = .ok (.iload_n 1, 1) := by decide +kernel
theorem dX9_stretches_8 : decode cX9_stretches 8 = .ok (.invokevirtual 130, 3) := by decide +kernel
theorem dX9_stretches_11 : decode cX9_stretches 11 = .ok (.ifCond .ne 5, 3) := by decide +kernel
theorem dX9_stretches_14 : decode cX9_stretches 14 = .ok (.iconst (-1), 1) := by decide +kernel
theorem dX9_stretches_15 : decode cX9_stretches 15 = .ok (.ireturn, 1) := by decide +kernel
theorem dX9_stretches_16 : decode cX9_stretches 16 = .ok (.aload_n 0, 1) := by decide +kernel
theorem dX9_stretches_17 : decode cX9_stretches 17 = .ok (.getfield 30, 3) := by decide +kernel
theorem dX9_stretches_20 : decode cX9_stretches 20 = .ok (.aload_n 0, 1) := by decide +kernel
theorem dX9_stretches_21 : decode cX9_stretches 21 = .ok (.getfield 23, 3) := by decide +kernel
theorem dX9_stretches_24 : decode cX9_stretches 24 = .ok (.getfield 114, 3) := by decide +kernel
theorem dX9_stretches_27 : decode cX9_stretches 27 = .ok (.iload_n 1, 1) := by decide +kernel
theorem dX9_stretches_28 : decode cX9_stretches 28 = .ok (.invokevirtual 137, 3) := by decide +kernel
theorem dX9_stretches_31 : decode cX9_stretches 31 = .ok (.aload_n 0, 1) := by decide +kernel
theorem dX9_stretches_32 : decode cX9_stretches 32 = .ok (.getfield 23, 3) := by decide +kernel
theorem dX9_stretches_35 : decode cX9_stretches 35 = .ok (.getfield 45, 3) := by decide +kernel
theorem dX9_stretches_38 : decode cX9_stretches 38 = .ok (.invokevirtual 221, 3) := by decide +kernel
theorem dX9_stretches_41 : decode cX9_stretches 41 = .ok (.ireturn, 1) := by decide +kernel
theorem dX9_shown_0 : decode cX9_shown 0 = .ok (.iload_n 1, 1) := by decide +kernel
theorem dX9_shown_1 : decode cX9_shown 1 = .ok (.iconst 0, 1) := by decide +kernel
theorem dX9_shown_2 : decode cX9_shown 2 = .ok (.sipush 9999, 3) := by decide +kernel
theorem dX9_shown_5 : decode cX9_shown 5 = .ok (.invokestatic 41, 3) := by decide +kernel
theorem dX9_shown_8 : decode cX9_shown 8 = .ok (.ifCond .eq 17, 3) := by decide +kernel
theorem dX9_shown_11 : decode cX9_shown 11 = .ok (.aload_n 0, 1) := by decide +kernel
theorem dX9_shown_12 : decode cX9_shown 12 = .ok (.getfield 23, 3) := by decide +kernel
theorem dX9_shown_15 : decode cX9_shown 15 = .ok (.getfield 114, 3) := by decide +kernel
theorem dX9_shown_18 : decode cX9_shown 18 = .ok (.iload_n 1, 1) := by decide +kernel
theorem dX9_shown_19 : decode cX9_shown 19 = .ok (.invokevirtual 225, 3) := by decide +kernel
theorem dX9_shown_22 : decode cX9_shown 22 = .ok (.goto 4, 3) := by decide +kernel
theorem dX9_shown_25 : decode cX9_shown 25 = .ok (.iconst (-1), 1) := by decide +kernel
theorem dX9_shown_26 : decode cX9_shown 26 = .ok (.ireturn, 1) := by decide +kernel
theorem dX9_faults_0 : decode cX9_faults 0 = .ok (.iload_n 1, 1) := by decide +kernel
theorem dX9_faults_1 : decode cX9_faults 1 = .ok (.iconst 0, 1) := by decide +kernel
theorem dX9_faults_2 : decode cX9_faults 2 = .ok (.bipush 32, 2) := by decide +kernel
theorem dX9_faults_4 : decode cX9_faults 4 = .ok (.invokestatic 41, 3) := by decide +kernel
theorem dX9_faults_7 : decode cX9_faults 7 = .ok (.ifCond .eq 11, 3) := by decide +kernel
theorem dX9_faults_10 : decode cX9_faults 10 = .ok (.iload_n 1, 1) := by decide +kernel
theorem dX9_faults_11 : decode cX9_faults 11 = .ok (.invokestatic 228, 3) := by decide +kernel
theorem dX9_faults_14 : decode cX9_faults 14 = .ok (.iconst 1, 1) := by decide +kernel
theorem dX9_faults_15 : decode cX9_faults 15 = .ok (.if_icmp .le 5, 3) := by decide +kernel
theorem dX9_faults_18 : decode cX9_faults 18 = .ok (.iconst (-1), 1) := by decide +kernel
theorem dX9_faults_19 : decode cX9_faults 19 = .ok (.ireturn, 1) := by decide +kernel
theorem dX9_faults_20 : decode cX9_faults 20 = .ok (.aload_n 0, 1) := by decide +kernel
theorem dX9_faults_21 : decode cX9_faults 21 = .ok (.getfield 23, 3) := by decide +kernel
theorem dX9_faults_24 : decode cX9_faults 24 = .ok (.iload_n 1, 1) := by decide +kernel
theorem dX9_faults_25 : decode cX9_faults 25 = .ok (.invokevirtual 212, 3) := by decide +kernel
theorem dX9_faults_28 : decode cX9_faults 28 = .ok (.ireturn, 1) := by decide +kernel
theorem dX9_told_0 : decode cX9_told 0 = .ok (.iload_n 1, 1) := by decide +kernel
theorem dX9_told_1 : decode cX9_told 1 = .ok (.ifCond .lt 20, 3) := by decide +kernel
theorem dX9_told_4 : decode cX9_told 4 = .ok (.iload_n 1, 1) := by decide +kernel
theorem dX9_told_5 : decode cX9_told 5 = .ok (.iconst 4, 1) := by decide +kernel
theorem dX9_told_6 : decode cX9_told 6 = .ok (.if_icmp .gt 15, 3) := by decide +kernel
theorem dX9_told_9 : decode cX9_told 9 = .ok (.aload_n 0, 1) := by decide +kernel
theorem dX9_told_10 : decode cX9_told 10 = .ok (.getfield 23, 3) := by decide +kernel
theorem dX9_told_13 : decode cX9_told 13 = .ok (.getfield 180, 3) := by decide +kernel
theorem dX9_told_16 : decode cX9_told 16 = .ok (.iload_n 1, 1) := by decide +kernel
theorem dX9_told_17 : decode cX9_told 17 = .ok (.invokevirtual 184, 3) := by decide +kernel
theorem dX9_told_20 : decode cX9_told 20 = .ok (.ireturn, 1) := by decide +kernel
theorem dX9_told_21 : decode cX9_told 21 = .ok (.iload_n 1, 1) := by decide +kernel
theorem dX9_told_22 : decode cX9_told 22 = .ok (.tableswitch 110 5 11 #[42, 53, 64, 75, 86, 97, 102], 42) := by decide +kernel
theorem dX9_told_64 : decode cX9_told 64 = .ok (.aload_n 0, 1) := by decide +kernel
theorem dX9_told_65 : decode cX9_told 65 = .ok (.getfield 23, 3) := by decide +kernel
theorem dX9_told_68 : decode cX9_told 68 = .ok (.getfield 45, 3) := by decide +kernel
theorem dX9_told_71 : decode cX9_told 71 = .ok (.invokevirtual 49, 3) := by decide +kernel
theorem dX9_told_74 : decode cX9_told 74 = .ok (.ireturn, 1) := by decide +kernel
theorem dX9_told_75 : decode cX9_told 75 = .ok (.aload_n 0, 1) := by decide +kernel
theorem dX9_told_76 : decode cX9_told 76 = .ok (.getfield 23, 3) := by decide +kernel
theorem dX9_told_79 : decode cX9_told 79 = .ok (.getfield 45, 3) := by decide +kernel
theorem dX9_told_82 : decode cX9_told 82 = .ok (.invokevirtual 55, 3) := by decide +kernel
theorem dX9_told_85 : decode cX9_told 85 = .ok (.ireturn, 1) := by decide +kernel
theorem dX9_told_86 : decode cX9_told 86 = .ok (.aload_n 0, 1) := by decide +kernel
theorem dX9_told_87 : decode cX9_told 87 = .ok (.getfield 23, 3) := by decide +kernel
theorem dX9_told_90 : decode cX9_told 90 = .ok (.getfield 84, 3) := by decide +kernel
theorem dX9_told_93 : decode cX9_told 93 = .ok (.invokevirtual 91, 3) := by decide +kernel
theorem dX9_told_96 : decode cX9_told 96 = .ok (.ireturn, 1) := by decide +kernel
theorem dX9_told_97 : decode cX9_told 97 = .ok (.aload_n 0, 1) := by decide +kernel
theorem dX9_told_98 : decode cX9_told 98 = .ok (.getfield 23, 3) := by decide +kernel
theorem dX9_told_101 : decode cX9_told 101 = .ok (.getfield 114, 3) := by decide +kernel
theorem dX9_told_104 : decode cX9_told 104 = .ok (.invokevirtual 132, 3) := by decide +kernel
theorem dX9_told_107 : decode cX9_told 107 = .ok (.ireturn, 1) := by decide +kernel
theorem dX9_told_108 : decode cX9_told 108 = .ok (.aload_n 0, 1) := by decide +kernel
theorem dX9_told_109 : decode cX9_told 109 = .ok (.getfield 23, 3) := by decide +kernel
theorem dX9_told_112 : decode cX9_told 112 = .ok (.getfield 114, 3) := by decide +kernel
theorem dX9_told_115 : decode cX9_told 115 = .ok (.invokevirtual 233, 3) := by decide +kernel
theorem dX9_told_118 : decode cX9_told 118 = .ok (.ireturn, 1) := by decide +kernel
theorem dX9_told_119 : decode cX9_told 119 = .ok (.aload_n 0, 1) := by decide +kernel
theorem dX9_told_120 : decode cX9_told 120 = .ok (.getfield 106, 3) := by decide +kernel
theorem dX9_told_123 : decode cX9_told 123 = .ok (.ireturn, 1) := by decide +kernel
theorem dX9_told_124 : decode cX9_told 124 = .ok (.aload_n 0, 1) := by decide +kernel
theorem dX9_told_125 : decode cX9_told 125 = .ok (.getfield 37, 3) := by decide +kernel
theorem dX9_told_128 : decode cX9_told 128 = .ok (.invokevirtual 236, 3) := by decide +kernel
theorem dX9_told_131 : decode cX9_told 131 = .ok (.ireturn, 1) := by decide +kernel
theorem dX9_told_132 : decode cX9_told 132 = .ok (.iconst (-1), 1) := by decide +kernel
theorem dX9_told_133 : decode cX9_told 133 = .ok (.ireturn, 1) := by decide +kernel
theorem dX9_undo_0 : decode cX9_undo 0 = .ok (.aload_n 0, 1) := by decide +kernel
theorem dX9_undo_1 : decode cX9_undo 1 = .ok (.getfield 37, 3) := by decide +kernel
theorem dX9_undo_4 : decode cX9_undo 4 = .ok (.invokevirtual 236, 3) := by decide +kernel
theorem dX9_undo_7 : decode cX9_undo 7 = .ok (.ifCond .ne 6, 3) := by decide +kernel
theorem dX9_undo_10 : decode cX9_undo 10 = .ok (.bipush (-2), 2) := by decide +kernel
theorem dX9_undo_12 : decode cX9_undo 12 = .ok (.ireturn, 1) := by decide +kernel
theorem dX9_undo_13 : decode cX9_undo 13 = .ok (.aload_n 0, 1) := by decide +kernel
theorem dX9_undo_14 : decode cX9_undo 14 = .ok (.getfield 37, 3) := by decide +kernel
theorem dX9_undo_17 : decode cX9_undo 17 = .ok (.aload_n 0, 1) := by decide +kernel
theorem dX9_undo_18 : decode cX9_undo 18 = .ok (.getfield 23, 3) := by decide +kernel
theorem dX9_undo_21 : decode cX9_undo 21 = .ok (.invokevirtual 237, 3) := by decide +kernel
theorem dX9_undo_24 : decode cX9_undo 24 = .ok (.aload_n 0, 1) := by decide +kernel
theorem dX9_undo_25 : decode cX9_undo 25 = .ok (.getfield 37, 3) := by decide +kernel
theorem dX9_undo_28 : decode cX9_undo 28 = .ok (.invokevirtual 236, 3) := by decide +kernel
theorem dX9_undo_31 : decode cX9_undo 31 = .ok (.ireturn, 1) := by decide +kernel
theorem dX9_digest_0 : decode cX9_digest 0 = .ok (.ldc2_w 240, 3) := by decide +kernel
theorem dX9_digest_3 : decode cX9_digest 3 = .ok (.lstore_n 1, 1) := by decide +kernel
theorem dX9_digest_4 : decode cX9_digest 4 = .ok (.iconst 0, 1) := by decide +kernel
theorem dX9_digest_5 : decode cX9_digest 5 = .ok (.istore_n 3, 1) := by decide +kernel
theorem dX9_digest_6 : decode cX9_digest 6 = .ok (.iload_n 3, 1) := by decide +kernel
theorem dX9_digest_7 : decode cX9_digest 7 = .ok (.bipush 11, 2) := by decide +kernel
theorem dX9_digest_9 : decode cX9_digest 9 = .ok (.if_icmp .gt 22, 3) := by decide +kernel
theorem dX9_digest_12 : decode cX9_digest 12 = .ok (.ldc2_w 242, 3) := by decide +kernel
theorem dX9_digest_15 : decode cX9_digest 15 = .ok (.lload_n 1, 1) := by decide +kernel
theorem dX9_digest_16 : decode cX9_digest 16 = .ok (.lmul, 1) := by decide +kernel
theorem dX9_digest_17 : decode cX9_digest 17 = .ok (.aload_n 0, 1) := by decide +kernel
theorem dX9_digest_18 : decode cX9_digest 18 = .ok (.iload_n 3, 1) := by decide +kernel
theorem dX9_digest_19 : decode cX9_digest 19 = .ok (.invokevirtual 244, 3) := by decide +kernel
theorem dX9_digest_22 : decode cX9_digest 22 = .ok (.i2l, 1) := by decide +kernel
theorem dX9_digest_23 : decode cX9_digest 23 = .ok (.ladd, 1) := by decide +kernel
theorem dX9_digest_24 : decode cX9_digest 24 = .ok (.lstore_n 1, 1) := by decide +kernel
theorem dX9_digest_25 : decode cX9_digest 25 = .ok (.iinc 3 1, 3) := by decide +kernel
theorem dX9_digest_28 : decode cX9_digest 28 = .ok (.goto (-22), 3) := by decide +kernel
theorem dX9_digest_31 : decode cX9_digest 31 = .ok (.iconst 0, 1) := by decide +kernel
theorem dX9_digest_32 : decode cX9_digest 32 = .ok (.istore_n 3, 1) := by decide +kernel
theorem dX9_digest_33 : decode cX9_digest 33 = .ok (.iload_n 3, 1) := by decide +kernel
theorem dX9_digest_34 : decode cX9_digest 34 = .ok (.aload_n 0, 1) := by decide +kernel
theorem dX9_digest_35 : decode cX9_digest 35 = .ok (.getfield 23, 3) := by decide +kernel
theorem dX9_digest_38 : decode cX9_digest 38 = .ok (.getfield 45, 3) := by decide +kernel
theorem dX9_digest_41 : decode cX9_digest 41 = .ok (.invokevirtual 49, 3) := by decide +kernel
theorem dX9_digest_44 : decode cX9_digest 44 = .ok (.if_icmp .ge 39, 3) := by decide +kernel
theorem dX9_digest_47 : decode cX9_digest 47 = .ok (.iconst 0, 1) := by decide +kernel
theorem dX9_digest_48 : decode cX9_digest 48 = .ok (.istore 4, 2) := by decide +kernel
theorem dX9_digest_50 : decode cX9_digest 50 = .ok (.iload 4, 2) := by decide +kernel
theorem dX9_digest_52 : decode cX9_digest 52 = .ok (.iconst 2, 1) := by decide +kernel
theorem dX9_digest_53 : decode cX9_digest 53 = .ok (.if_icmp .gt 24, 3) := by decide +kernel
theorem dX9_digest_56 : decode cX9_digest 56 = .ok (.ldc2_w 242, 3) := by decide +kernel
theorem dX9_digest_59 : decode cX9_digest 59 = .ok (.lload_n 1, 1) := by decide +kernel
theorem dX9_digest_60 : decode cX9_digest 60 = .ok (.lmul, 1) := by decide +kernel
theorem dX9_digest_61 : decode cX9_digest 61 = .ok (.aload_n 0, 1) := by decide +kernel
theorem dX9_digest_62 : decode cX9_digest 62 = .ok (.iload_n 3, 1) := by decide +kernel
theorem dX9_digest_63 : decode cX9_digest 63 = .ok (.iload 4, 2) := by decide +kernel
theorem dX9_digest_65 : decode cX9_digest 65 = .ok (.invokevirtual 247, 3) := by decide +kernel
theorem dX9_digest_68 : decode cX9_digest 68 = .ok (.i2l, 1) := by decide +kernel
theorem dX9_digest_69 : decode cX9_digest 69 = .ok (.ladd, 1) := by decide +kernel
theorem dX9_digest_70 : decode cX9_digest 70 = .ok (.lstore_n 1, 1) := by decide +kernel
theorem dX9_digest_71 : decode cX9_digest 71 = .ok (.iinc 4 1, 3) := by decide +kernel
theorem dX9_digest_74 : decode cX9_digest 74 = .ok (.goto (-24), 3) := by decide +kernel
theorem dX9_digest_77 : decode cX9_digest 77 = .ok (.iinc 3 1, 3) := by decide +kernel
theorem dX9_digest_80 : decode cX9_digest 80 = .ok (.goto (-47), 3) := by decide +kernel
theorem dX9_digest_83 : decode cX9_digest 83 = .ok (.iconst 0, 1) := by decide +kernel
theorem dX9_digest_84 : decode cX9_digest 84 = .ok (.istore_n 3, 1) := by decide +kernel
theorem dX9_digest_85 : decode cX9_digest 85 = .ok (.iload_n 3, 1) := by decide +kernel
theorem dX9_digest_86 : decode cX9_digest 86 = .ok (.aload_n 0, 1) := by decide +kernel
theorem dX9_digest_87 : decode cX9_digest 87 = .ok (.getfield 23, 3) := by decide +kernel
theorem dX9_digest_90 : decode cX9_digest 90 = .ok (.getfield 84, 3) := by decide +kernel
theorem dX9_digest_93 : decode cX9_digest 93 = .ok (.invokevirtual 91, 3) := by decide +kernel
theorem dX9_digest_96 : decode cX9_digest 96 = .ok (.if_icmp .ge 22, 3) := by decide +kernel
theorem dX9_digest_99 : decode cX9_digest 99 = .ok (.ldc2_w 242, 3) := by decide +kernel
theorem dX9_digest_102 : decode cX9_digest 102 = .ok (.lload_n 1, 1) := by decide +kernel
theorem dX9_digest_103 : decode cX9_digest 103 = .ok (.lmul, 1) := by decide +kernel
theorem dX9_digest_104 : decode cX9_digest 104 = .ok (.aload_n 0, 1) := by decide +kernel
theorem dX9_digest_105 : decode cX9_digest 105 = .ok (.iload_n 3, 1) := by decide +kernel
theorem dX9_digest_106 : decode cX9_digest 106 = .ok (.invokevirtual 250, 3) := by decide +kernel
theorem dX9_digest_109 : decode cX9_digest 109 = .ok (.i2l, 1) := by decide +kernel
theorem dX9_digest_110 : decode cX9_digest 110 = .ok (.ladd, 1) := by decide +kernel
theorem dX9_digest_111 : decode cX9_digest 111 = .ok (.lstore_n 1, 1) := by decide +kernel
theorem dX9_digest_112 : decode cX9_digest 112 = .ok (.iinc 3 1, 3) := by decide +kernel
theorem dX9_digest_115 : decode cX9_digest 115 = .ok (.goto (-30), 3) := by decide +kernel
theorem dX9_digest_118 : decode cX9_digest 118 = .ok (.iconst 0, 1) := by decide +kernel
theorem dX9_digest_119 : decode cX9_digest 119 = .ok (.istore_n 3, 1) := by decide +kernel
theorem dX9_digest_120 : decode cX9_digest 120 = .ok (.iload_n 3, 1) := by decide +kernel
theorem dX9_digest_121 : decode cX9_digest 121 = .ok (.aload_n 0, 1) := by decide +kernel
theorem dX9_digest_122 : decode cX9_digest 122 = .ok (.getfield 23, 3) := by decide +kernel
theorem dX9_digest_125 : decode cX9_digest 125 = .ok (.getfield 114, 3) := by decide +kernel
theorem dX9_digest_128 : decode cX9_digest 128 = .ok (.invokevirtual 132, 3) := by decide +kernel
theorem dX9_digest_131 : decode cX9_digest 131 = .ok (.if_icmp .ge 16, 3) := by decide +kernel
theorem dX9_digest_134 : decode cX9_digest 134 = .ok (.aload_n 0, 1) := by decide +kernel
theorem dX9_digest_135 : decode cX9_digest 135 = .ok (.lload_n 1, 1) := by decide +kernel
theorem dX9_digest_136 : decode cX9_digest 136 = .ok (.iload_n 3, 1) := by decide +kernel
theorem dX9_digest_137 : decode cX9_digest 137 = .ok (.invokevirtual 253, 3) := by decide +kernel
theorem dX9_digest_140 : decode cX9_digest 140 = .ok (.lstore_n 1, 1) := by decide +kernel
theorem dX9_digest_141 : decode cX9_digest 141 = .ok (.iinc 3 1, 3) := by decide +kernel
theorem dX9_digest_144 : decode cX9_digest 144 = .ok (.goto (-24), 3) := by decide +kernel
theorem dX9_digest_147 : decode cX9_digest 147 = .ok (.ldc2_w 242, 3) := by decide +kernel
theorem dX9_digest_150 : decode cX9_digest 150 = .ok (.lload_n 1, 1) := by decide +kernel
theorem dX9_digest_151 : decode cX9_digest 151 = .ok (.lmul, 1) := by decide +kernel
theorem dX9_digest_152 : decode cX9_digest 152 = .ok (.aload_n 0, 1) := by decide +kernel
theorem dX9_digest_153 : decode cX9_digest 153 = .ok (.iconst 0, 1) := by decide +kernel
theorem dX9_digest_154 : decode cX9_digest 154 = .ok (.invokevirtual 257, 3) := by decide +kernel
theorem dX9_digest_157 : decode cX9_digest 157 = .ok (.i2l, 1) := by decide +kernel
theorem dX9_digest_158 : decode cX9_digest 158 = .ok (.ladd, 1) := by decide +kernel
theorem dX9_digest_159 : decode cX9_digest 159 = .ok (.lstore_n 1, 1) := by decide +kernel
theorem dX9_digest_160 : decode cX9_digest 160 = .ok (.iconst 1, 1) := by decide +kernel
theorem dX9_digest_161 : decode cX9_digest 161 = .ok (.istore_n 3, 1) := by decide +kernel
theorem dX9_digest_162 : decode cX9_digest 162 = .ok (.iload_n 3, 1) := by decide +kernel
theorem dX9_digest_163 : decode cX9_digest 163 = .ok (.bipush 32, 2) := by decide +kernel
theorem dX9_digest_165 : decode cX9_digest 165 = .ok (.if_icmp .gt 23, 3) := by decide +kernel
theorem dX9_digest_168 : decode cX9_digest 168 = .ok (.ldc2_w 242, 3) := by decide +kernel
theorem dX9_digest_171 : decode cX9_digest 171 = .ok (.lload_n 1, 1) := by decide +kernel
theorem dX9_digest_172 : decode cX9_digest 172 = .ok (.lmul, 1) := by decide +kernel
theorem dX9_digest_173 : decode cX9_digest 173 = .ok (.aload_n 0, 1) := by decide +kernel
theorem dX9_digest_174 : decode cX9_digest 174 = .ok (.iload_n 3, 1) := by decide +kernel
theorem dX9_digest_175 : decode cX9_digest 175 = .ok (.invokevirtual 257, 3) := by decide +kernel
theorem dX9_digest_178 : decode cX9_digest 178 = .ok (.i2l, 1) := by decide +kernel
theorem dX9_digest_179 : decode cX9_digest 179 = .ok (.ladd, 1) := by decide +kernel
theorem dX9_digest_180 : decode cX9_digest 180 = .ok (.lstore_n 1, 1) := by decide +kernel
theorem dX9_digest_181 : decode cX9_digest 181 = .ok (.iload_n 3, 1) := by decide +kernel
theorem dX9_digest_182 : decode cX9_digest 182 = .ok (.iconst 2, 1) := by decide +kernel
theorem dX9_digest_183 : decode cX9_digest 183 = .ok (.imul, 1) := by decide +kernel
theorem dX9_digest_184 : decode cX9_digest 184 = .ok (.istore_n 3, 1) := by decide +kernel
theorem dX9_digest_185 : decode cX9_digest 185 = .ok (.goto (-23), 3) := by decide +kernel
theorem dX9_digest_188 : decode cX9_digest 188 = .ok (.iconst 0, 1) := by decide +kernel
theorem dX9_digest_189 : decode cX9_digest 189 = .ok (.istore_n 3, 1) := by decide +kernel
theorem dX9_digest_190 : decode cX9_digest 190 = .ok (.iload_n 3, 1) := by decide +kernel
theorem dX9_digest_191 : decode cX9_digest 191 = .ok (.iconst 4, 1) := by decide +kernel
theorem dX9_digest_192 : decode cX9_digest 192 = .ok (.if_icmp .gt 24, 3) := by decide +kernel
theorem dX9_digest_195 : decode cX9_digest 195 = .ok (.ldc2_w 242, 3) := by decide +kernel
theorem dX9_digest_198 : decode cX9_digest 198 = .ok (.lload_n 1, 1) := by decide +kernel
theorem dX9_digest_199 : decode cX9_digest 199 = .ok (.lmul, 1) := by decide +kernel
theorem dX9_digest_200 : decode cX9_digest 200 = .ok (.aload_n 0, 1) := by decide +kernel
theorem dX9_digest_201 : decode cX9_digest 201 = .ok (.bipush 31, 2) := by decide +kernel
theorem dX9_digest_203 : decode cX9_digest 203 = .ok (.iload_n 3, 1) := by decide +kernel
theorem dX9_digest_204 : decode cX9_digest 204 = .ok (.invokevirtual 260, 3) := by decide +kernel
theorem dX9_digest_207 : decode cX9_digest 207 = .ok (.i2l, 1) := by decide +kernel
theorem dX9_digest_208 : decode cX9_digest 208 = .ok (.ladd, 1) := by decide +kernel
theorem dX9_digest_209 : decode cX9_digest 209 = .ok (.lstore_n 1, 1) := by decide +kernel
theorem dX9_digest_210 : decode cX9_digest 210 = .ok (.iinc 3 1, 3) := by decide +kernel
theorem dX9_digest_213 : decode cX9_digest 213 = .ok (.goto (-23), 3) := by decide +kernel
theorem dX9_digest_216 : decode cX9_digest 216 = .ok (.lload_n 1, 1) := by decide +kernel
theorem dX9_digest_217 : decode cX9_digest 217 = .ok (.lreturn, 1) := by decide +kernel
theorem dX9_hashSubtitle_0 : decode cX9_hashSubtitle 0 = .ok (.lload_n 1, 1) := by decide +kernel
theorem dX9_hashSubtitle_1 : decode cX9_hashSubtitle 1 = .ok (.lstore 4, 2) := by decide +kernel
theorem dX9_hashSubtitle_3 : decode cX9_hashSubtitle 3 = .ok (.iconst 0, 1) := by decide +kernel
theorem dX9_hashSubtitle_4 : decode cX9_hashSubtitle 4 = .ok (.istore 6, 2) := by decide +kernel
theorem dX9_hashSubtitle_6 : decode cX9_hashSubtitle 6 = .ok (.iload 6, 2) := by decide +kernel
theorem dX9_hashSubtitle_8 : decode cX9_hashSubtitle 8 = .ok (.bipush 6, 2) := by decide +kernel
theorem dX9_hashSubtitle_10 : decode cX9_hashSubtitle 10 = .ok (.if_icmp .gt 26, 3) := by decide +kernel
theorem dX9_hashSubtitle_13 : decode cX9_hashSubtitle 13 = .ok (.ldc2_w 242, 3) := by decide +kernel
theorem dX9_hashSubtitle_16 : decode cX9_hashSubtitle 16 = .ok (.lload 4, 2) := by decide +kernel
theorem dX9_hashSubtitle_18 : decode cX9_hashSubtitle 18 = .ok (.lmul, 1) := by decide +kernel
theorem dX9_hashSubtitle_19 : decode cX9_hashSubtitle 19 = .ok (.aload_n 0, 1) := by decide +kernel
theorem dX9_hashSubtitle_20 : decode cX9_hashSubtitle 20 = .ok (.iload_n 3, 1) := by decide +kernel
theorem dX9_hashSubtitle_21 : decode cX9_hashSubtitle 21 = .ok (.iload 6, 2) := by decide +kernel
theorem dX9_hashSubtitle_23 : decode cX9_hashSubtitle 23 = .ok (.invokevirtual 263, 3) := by decide +kernel
theorem dX9_hashSubtitle_26 : decode cX9_hashSubtitle 26 = .ok (.i2l, 1) := by decide +kernel
theorem dX9_hashSubtitle_27 : decode cX9_hashSubtitle 27 = .ok (.ladd, 1) := by decide +kernel
theorem dX9_hashSubtitle_28 : decode cX9_hashSubtitle 28 = .ok (.lstore 4, 2) := by decide +kernel
theorem dX9_hashSubtitle_30 : decode cX9_hashSubtitle 30 = .ok (.iinc 6 1, 3) := by decide +kernel
theorem dX9_hashSubtitle_33 : decode cX9_hashSubtitle 33 = .ok (.goto (-27), 3) := by decide +kernel
theorem dX9_hashSubtitle_36 : decode cX9_hashSubtitle 36 = .ok (.ldc2_w 242, 3) := by decide +kernel
theorem dX9_hashSubtitle_39 : decode cX9_hashSubtitle 39 = .ok (.lload 4, 2) := by decide +kernel
theorem dX9_hashSubtitle_41 : decode cX9_hashSubtitle 41 = .ok (.lmul, 1) := by decide +kernel
theorem dX9_hashSubtitle_42 : decode cX9_hashSubtitle 42 = .ok (.aload_n 0, 1) := by decide +kernel
theorem dX9_hashSubtitle_43 : decode cX9_hashSubtitle 43 = .ok (.iload_n 3, 1) := by decide +kernel
theorem dX9_hashSubtitle_44 : decode cX9_hashSubtitle 44 = .ok (.invokevirtual 266, 3) := by decide +kernel
theorem dX9_hashSubtitle_47 : decode cX9_hashSubtitle 47 = .ok (.i2l, 1) := by decide +kernel
theorem dX9_hashSubtitle_48 : decode cX9_hashSubtitle 48 = .ok (.ladd, 1) := by decide +kernel
theorem dX9_hashSubtitle_49 : decode cX9_hashSubtitle 49 = .ok (.lstore 4, 2) := by decide +kernel
theorem dX9_hashSubtitle_51 : decode cX9_hashSubtitle 51 = .ok (.aload_n 0, 1) := by decide +kernel
theorem dX9_hashSubtitle_52 : decode cX9_hashSubtitle 52 = .ok (.iload_n 3, 1) := by decide +kernel
theorem dX9_hashSubtitle_53 : decode cX9_hashSubtitle 53 = .ok (.iconst 2, 1) := by decide +kernel
theorem dX9_hashSubtitle_54 : decode cX9_hashSubtitle 54 = .ok (.invokevirtual 263, 3) := by decide +kernel
theorem dX9_hashSubtitle_57 : decode cX9_hashSubtitle 57 = .ok (.istore 6, 2) := by decide +kernel
theorem dX9_hashSubtitle_59 : decode cX9_hashSubtitle 59 = .ok (.iconst 0, 1) := by decide +kernel
theorem dX9_hashSubtitle_60 : decode cX9_hashSubtitle 60 = .ok (.istore 7, 2) := by decide +kernel
theorem dX9_hashSubtitle_62 : decode cX9_hashSubtitle 62 = .ok (.iload 7, 2) := by decide +kernel
theorem dX9_hashSubtitle_64 : decode cX9_hashSubtitle 64 = .ok (.iload 6, 2) := by decide +kernel
theorem dX9_hashSubtitle_66 : decode cX9_hashSubtitle 66 = .ok (.if_icmp .ge 91, 3) := by decide +kernel
theorem dX9_hashSubtitle_69 : decode cX9_hashSubtitle 69 = .ok (.iconst 0, 1) := by decide +kernel
theorem dX9_hashSubtitle_70 : decode cX9_hashSubtitle 70 = .ok (.istore 8, 2) := by decide +kernel
theorem dX9_hashSubtitle_72 : decode cX9_hashSubtitle 72 = .ok (.iload 8, 2) := by decide +kernel
theorem dX9_hashSubtitle_74 : decode cX9_hashSubtitle 74 = .ok (.iconst 3, 1) := by decide +kernel
theorem dX9_hashSubtitle_75 : decode cX9_hashSubtitle 75 = .ok (.if_icmp .gt 28, 3) := by decide +kernel
theorem dX9_hashSubtitle_78 : decode cX9_hashSubtitle 78 = .ok (.ldc2_w 242, 3) := by decide +kernel
theorem dX9_hashSubtitle_81 : decode cX9_hashSubtitle 81 = .ok (.lload 4, 2) := by decide +kernel
theorem dX9_hashSubtitle_83 : decode cX9_hashSubtitle 83 = .ok (.lmul, 1) := by decide +kernel
theorem dX9_hashSubtitle_84 : decode cX9_hashSubtitle 84 = .ok (.aload_n 0, 1) := by decide +kernel
theorem dX9_hashSubtitle_85 : decode cX9_hashSubtitle 85 = .ok (.iload_n 3, 1) := by decide +kernel
theorem dX9_hashSubtitle_86 : decode cX9_hashSubtitle 86 = .ok (.iload 7, 2) := by decide +kernel
theorem dX9_hashSubtitle_88 : decode cX9_hashSubtitle 88 = .ok (.iload 8, 2) := by decide +kernel
theorem dX9_hashSubtitle_90 : decode cX9_hashSubtitle 90 = .ok (.invokevirtual 269, 3) := by decide +kernel
theorem dX9_hashSubtitle_93 : decode cX9_hashSubtitle 93 = .ok (.i2l, 1) := by decide +kernel
theorem dX9_hashSubtitle_94 : decode cX9_hashSubtitle 94 = .ok (.ladd, 1) := by decide +kernel
theorem dX9_hashSubtitle_95 : decode cX9_hashSubtitle 95 = .ok (.lstore 4, 2) := by decide +kernel
theorem dX9_hashSubtitle_97 : decode cX9_hashSubtitle 97 = .ok (.iinc 8 1, 3) := by decide +kernel
theorem dX9_hashSubtitle_100 : decode cX9_hashSubtitle 100 = .ok (.goto (-28), 3) := by decide +kernel
theorem dX9_hashSubtitle_103 : decode cX9_hashSubtitle 103 = .ok (.aload_n 0, 1) := by decide +kernel
theorem dX9_hashSubtitle_104 : decode cX9_hashSubtitle 104 = .ok (.iload_n 3, 1) := by decide +kernel
theorem dX9_hashSubtitle_105 : decode cX9_hashSubtitle 105 = .ok (.iload 7, 2) := by decide +kernel
theorem dX9_hashSubtitle_107 : decode cX9_hashSubtitle 107 = .ok (.iconst 1, 1) := by decide +kernel
theorem dX9_hashSubtitle_108 : decode cX9_hashSubtitle 108 = .ok (.invokevirtual 269, 3) := by decide +kernel
theorem dX9_hashSubtitle_111 : decode cX9_hashSubtitle 111 = .ok (.istore 8, 2) := by decide +kernel
theorem dX9_hashSubtitle_113 : decode cX9_hashSubtitle 113 = .ok (.iconst 0, 1) := by decide +kernel
theorem dX9_hashSubtitle_114 : decode cX9_hashSubtitle 114 = .ok (.istore 9, 2) := by decide +kernel
theorem dX9_hashSubtitle_116 : decode cX9_hashSubtitle 116 = .ok (.iload 9, 2) := by decide +kernel
theorem dX9_hashSubtitle_118 : decode cX9_hashSubtitle 118 = .ok (.iload 8, 2) := by decide +kernel
theorem dX9_hashSubtitle_120 : decode cX9_hashSubtitle 120 = .ok (.if_icmp .ge 31, 3) := by decide +kernel
theorem dX9_hashSubtitle_123 : decode cX9_hashSubtitle 123 = .ok (.ldc2_w 242, 3) := by decide +kernel
theorem dX9_hashSubtitle_126 : decode cX9_hashSubtitle 126 = .ok (.lload 4, 2) := by decide +kernel
theorem dX9_hashSubtitle_128 : decode cX9_hashSubtitle 128 = .ok (.lmul, 1) := by decide +kernel
theorem dX9_hashSubtitle_129 : decode cX9_hashSubtitle 129 = .ok (.aload_n 0, 1) := by decide +kernel
theorem dX9_hashSubtitle_130 : decode cX9_hashSubtitle 130 = .ok (.iload_n 3, 1) := by decide +kernel
theorem dX9_hashSubtitle_131 : decode cX9_hashSubtitle 131 = .ok (.iload 7, 2) := by decide +kernel
theorem dX9_hashSubtitle_133 : decode cX9_hashSubtitle 133 = .ok (.bipush 10, 2) := by decide +kernel
theorem dX9_hashSubtitle_135 : decode cX9_hashSubtitle 135 = .ok (.iload 9, 2) := by decide +kernel
theorem dX9_hashSubtitle_137 : decode cX9_hashSubtitle 137 = .ok (.iadd, 1) := by decide +kernel
theorem dX9_hashSubtitle_138 : decode cX9_hashSubtitle 138 = .ok (.invokevirtual 269, 3) := by decide +kernel
theorem dX9_hashSubtitle_141 : decode cX9_hashSubtitle 141 = .ok (.i2l, 1) := by decide +kernel
theorem dX9_hashSubtitle_142 : decode cX9_hashSubtitle 142 = .ok (.ladd, 1) := by decide +kernel
theorem dX9_hashSubtitle_143 : decode cX9_hashSubtitle 143 = .ok (.lstore 4, 2) := by decide +kernel
theorem dX9_hashSubtitle_145 : decode cX9_hashSubtitle 145 = .ok (.iinc 9 1, 3) := by decide +kernel
theorem dX9_hashSubtitle_148 : decode cX9_hashSubtitle 148 = .ok (.goto (-32), 3) := by decide +kernel
theorem dX9_hashSubtitle_151 : decode cX9_hashSubtitle 151 = .ok (.iinc 7 1, 3) := by decide +kernel
theorem dX9_hashSubtitle_154 : decode cX9_hashSubtitle 154 = .ok (.goto (-92), 3) := by decide +kernel
theorem dX9_hashSubtitle_157 : decode cX9_hashSubtitle 157 = .ok (.lload 4, 2) := by decide +kernel
theorem dX9_hashSubtitle_159 : decode cX9_hashSubtitle 159 = .ok (.lreturn, 1) := by decide +kernel
theorem dX9_firstWrongBlank_0 : decode cX9_firstWrongBlank 0 = .ok (.iconst 0, 1) := by decide +kernel
theorem dX9_firstWrongBlank_1 : decode cX9_firstWrongBlank 1 = .ok (.istore_n 1, 1) := by decide +kernel
theorem dX9_firstWrongBlank_2 : decode cX9_firstWrongBlank 2 = .ok (.iconst 0, 1) := by decide +kernel
theorem dX9_firstWrongBlank_3 : decode cX9_firstWrongBlank 3 = .ok (.istore_n 2, 1) := by decide +kernel
theorem dX9_firstWrongBlank_4 : decode cX9_firstWrongBlank 4 = .ok (.iload_n 2, 1) := by decide +kernel
theorem dX9_firstWrongBlank_5 : decode cX9_firstWrongBlank 5 = .ok (.aload_n 0, 1) := by decide +kernel
theorem dX9_firstWrongBlank_6 : decode cX9_firstWrongBlank 6 = .ok (.getfield 106, 3) := by decide +kernel
theorem dX9_firstWrongBlank_9 : decode cX9_firstWrongBlank 9 = .ok (.if_icmp .ge 65, 3) := by decide +kernel
theorem dX9_firstWrongBlank_12 : decode cX9_firstWrongBlank 12 = .ok (.iload_n 2, 1) := by decide +kernel
theorem dX9_firstWrongBlank_13 : decode cX9_firstWrongBlank 13 = .ok (.aload_n 0, 1) := by decide +kernel
theorem dX9_firstWrongBlank_14 : decode cX9_firstWrongBlank 14 = .ok (.getfield 9, 3) := by decide +kernel
theorem dX9_firstWrongBlank_17 : decode cX9_firstWrongBlank 17 = .ok (.arraylength, 1) := by decide +kernel
theorem dX9_firstWrongBlank_18 : decode cX9_firstWrongBlank 18 = .ok (.if_icmp .ge 56, 3) := by decide +kernel
theorem dX9_firstWrongBlank_21 : decode cX9_firstWrongBlank 21 = .ok (.aload_n 0, 1) := by decide +kernel
theorem dX9_firstWrongBlank_22 : decode cX9_firstWrongBlank 22 = .ok (.getfield 9, 3) := by decide +kernel
theorem dX9_firstWrongBlank_25 : decode cX9_firstWrongBlank 25 = .ok (.iload_n 2, 1) := by decide +kernel
theorem dX9_firstWrongBlank_26 : decode cX9_firstWrongBlank 26 = .ok (.baload, 1) := by decide +kernel
theorem dX9_firstWrongBlank_27 : decode cX9_firstWrongBlank 27 = .ok (.bipush 32, 2) := by decide +kernel
theorem dX9_firstWrongBlank_29 : decode cX9_firstWrongBlank 29 = .ok (.if_icmp .ne 7, 3) := by decide +kernel
theorem dX9_firstWrongBlank_32 : decode cX9_firstWrongBlank 32 = .ok (.iconst 1, 1) := by decide +kernel
theorem dX9_firstWrongBlank_33 : decode cX9_firstWrongBlank 33 = .ok (.goto 4, 3) := by decide +kernel
theorem dX9_firstWrongBlank_36 : decode cX9_firstWrongBlank 36 = .ok (.iconst 0, 1) := by decide +kernel
theorem dX9_firstWrongBlank_37 : decode cX9_firstWrongBlank 37 = .ok (.istore_n 3, 1) := by decide +kernel
theorem dX9_firstWrongBlank_38 : decode cX9_firstWrongBlank 38 = .ok (.iload_n 3, 1) := by decide +kernel
theorem dX9_firstWrongBlank_39 : decode cX9_firstWrongBlank 39 = .ok (.ifCond .eq 19, 3) := by decide +kernel
theorem dX9_firstWrongBlank_42 : decode cX9_firstWrongBlank 42 = .ok (.iload_n 1, 1) := by decide +kernel
theorem dX9_firstWrongBlank_43 : decode cX9_firstWrongBlank 43 = .ok (.ifCond .eq 13, 3) := by decide +kernel
theorem dX9_firstWrongBlank_46 : decode cX9_firstWrongBlank 46 = .ok (.iload_n 2, 1) := by decide +kernel
theorem dX9_firstWrongBlank_47 : decode cX9_firstWrongBlank 47 = .ok (.aload_n 0, 1) := by decide +kernel
theorem dX9_firstWrongBlank_48 : decode cX9_firstWrongBlank 48 = .ok (.getfield 106, 3) := by decide +kernel
theorem dX9_firstWrongBlank_51 : decode cX9_firstWrongBlank 51 = .ok (.iconst 1, 1) := by decide +kernel
theorem dX9_firstWrongBlank_52 : decode cX9_firstWrongBlank 52 = .ok (.isub, 1) := by decide +kernel
theorem dX9_firstWrongBlank_53 : decode cX9_firstWrongBlank 53 = .ok (.if_icmp .ne 5, 3) := by decide +kernel
theorem dX9_firstWrongBlank_56 : decode cX9_firstWrongBlank 56 = .ok (.iload_n 2, 1) := by decide +kernel
theorem dX9_firstWrongBlank_57 : decode cX9_firstWrongBlank 57 = .ok (.ireturn, 1) := by decide +kernel
theorem dX9_firstWrongBlank_58 : decode cX9_firstWrongBlank 58 = .ok (.iload_n 3, 1) := by decide +kernel
theorem dX9_firstWrongBlank_59 : decode cX9_firstWrongBlank 59 = .ok (.ifCond .ne 7, 3) := by decide +kernel
theorem dX9_firstWrongBlank_62 : decode cX9_firstWrongBlank 62 = .ok (.iconst 1, 1) := by decide +kernel
theorem dX9_firstWrongBlank_63 : decode cX9_firstWrongBlank 63 = .ok (.goto 4, 3) := by decide +kernel
theorem dX9_firstWrongBlank_66 : decode cX9_firstWrongBlank 66 = .ok (.iconst 0, 1) := by decide +kernel
theorem dX9_firstWrongBlank_67 : decode cX9_firstWrongBlank 67 = .ok (.istore_n 1, 1) := by decide +kernel
theorem dX9_firstWrongBlank_68 : decode cX9_firstWrongBlank 68 = .ok (.iinc 2 1, 3) := by decide +kernel
theorem dX9_firstWrongBlank_71 : decode cX9_firstWrongBlank 71 = .ok (.goto (-67), 3) := by decide +kernel
theorem dX9_firstWrongBlank_74 : decode cX9_firstWrongBlank 74 = .ok (.bipush (-9), 2) := by decide +kernel
theorem dX9_firstWrongBlank_76 : decode cX9_firstWrongBlank 76 = .ok (.ireturn, 1) := by decide +kernel
theorem dX9_isWithin_0 : decode cX9_isWithin 0 = .ok (.iload_n 0, 1) := by decide +kernel
theorem dX9_isWithin_1 : decode cX9_isWithin 1 = .ok (.iload_n 1, 1) := by decide +kernel
theorem dX9_isWithin_2 : decode cX9_isWithin 2 = .ok (.if_icmp .lt 12, 3) := by decide +kernel
theorem dX9_isWithin_5 : decode cX9_isWithin 5 = .ok (.iload_n 0, 1) := by decide +kernel
theorem dX9_isWithin_6 : decode cX9_isWithin 6 = .ok (.iload_n 2, 1) := by decide +kernel
theorem dX9_isWithin_7 : decode cX9_isWithin 7 = .ok (.if_icmp .gt 7, 3) := by decide +kernel
theorem dX9_isWithin_10 : decode cX9_isWithin 10 = .ok (.iconst 1, 1) := by decide +kernel
theorem dX9_isWithin_11 : decode cX9_isWithin 11 = .ok (.goto 4, 3) := by decide +kernel
theorem dX9_isWithin_14 : decode cX9_isWithin 14 = .ok (.iconst 0, 1) := by decide +kernel
theorem dX9_isWithin_15 : decode cX9_isWithin 15 = .ok (.ireturn, 1) := by decide +kernel
theorem dX9_isTime_0 : decode cX9_isTime 0 = .ok (.iload_n 0, 1) := by decide +kernel
theorem dX9_isTime_1 : decode cX9_isTime 1 = .ok (.ifCond .lt 19, 3) := by decide +kernel
theorem dX9_isTime_4 : decode cX9_isTime 4 = .ok (.iload_n 0, 1) := by decide +kernel
theorem dX9_isTime_5 : decode cX9_isTime 5 = .ok (.iload_n 1, 1) := by decide +kernel
theorem dX9_isTime_6 : decode cX9_isTime 6 = .ok (.if_icmp .ge 14, 3) := by decide +kernel
theorem dX9_isTime_9 : decode cX9_isTime 9 = .ok (.iload_n 1, 1) := by decide +kernel
theorem dX9_isTime_10 : decode cX9_isTime 10 = .ok (.sipush 9999, 3) := by decide +kernel
theorem dX9_isTime_13 : decode cX9_isTime 13 = .ok (.if_icmp .gt 7, 3) := by decide +kernel
theorem dX9_isTime_16 : decode cX9_isTime 16 = .ok (.iconst 1, 1) := by decide +kernel
theorem dX9_isTime_17 : decode cX9_isTime 17 = .ok (.goto 4, 3) := by decide +kernel
theorem dX9_isTime_20 : decode cX9_isTime 20 = .ok (.iconst 0, 1) := by decide +kernel
theorem dX9_isTime_21 : decode cX9_isTime 21 = .ok (.ireturn, 1) := by decide +kernel
theorem dJ6_bitCount_0f7a4_0 : decode cJ6_bitCount_0f7a4 0 = .ok (.iload_n 0, 1) := by decide +kernel
theorem dJ6_bitCount_0f7a4_1 : decode cJ6_bitCount_0f7a4 1 = .ok (.iload_n 0, 1) := by decide +kernel
theorem dJ6_bitCount_0f7a4_2 : decode cJ6_bitCount_0f7a4 2 = .ok (.iconst 1, 1) := by decide +kernel
theorem dJ6_bitCount_0f7a4_3 : decode cJ6_bitCount_0f7a4 3 = .ok (.iushr, 1) := by decide +kernel
theorem dJ6_bitCount_0f7a4_4 : decode cJ6_bitCount_0f7a4 4 = .ok (.ldc_w 265, 3) := by decide +kernel
theorem dJ6_bitCount_0f7a4_7 : decode cJ6_bitCount_0f7a4 7 = .ok (.iand, 1) := by decide +kernel
theorem dJ6_bitCount_0f7a4_8 : decode cJ6_bitCount_0f7a4 8 = .ok (.isub, 1) := by decide +kernel
theorem dJ6_bitCount_0f7a4_9 : decode cJ6_bitCount_0f7a4 9 = .ok (.istore_n 0, 1) := by decide +kernel
theorem dJ6_bitCount_0f7a4_10 : decode cJ6_bitCount_0f7a4 10 = .ok (.iload_n 0, 1) := by decide +kernel
theorem dJ6_bitCount_0f7a4_11 : decode cJ6_bitCount_0f7a4 11 = .ok (.ldc_w 266, 3) := by decide +kernel
theorem dJ6_bitCount_0f7a4_14 : decode cJ6_bitCount_0f7a4 14 = .ok (.iand, 1) := by decide +kernel
theorem dJ6_bitCount_0f7a4_15 : decode cJ6_bitCount_0f7a4 15 = .ok (.iload_n 0, 1) := by decide +kernel
theorem dJ6_bitCount_0f7a4_16 : decode cJ6_bitCount_0f7a4 16 = .ok (.iconst 2, 1) := by decide +kernel
theorem dJ6_bitCount_0f7a4_17 : decode cJ6_bitCount_0f7a4 17 = .ok (.iushr, 1) := by decide +kernel
theorem dJ6_bitCount_0f7a4_18 : decode cJ6_bitCount_0f7a4 18 = .ok (.ldc_w 266, 3) := by decide +kernel
theorem dJ6_bitCount_0f7a4_21 : decode cJ6_bitCount_0f7a4 21 = .ok (.iand, 1) := by decide +kernel
theorem dJ6_bitCount_0f7a4_22 : decode cJ6_bitCount_0f7a4 22 = .ok (.iadd, 1) := by decide +kernel
theorem dJ6_bitCount_0f7a4_23 : decode cJ6_bitCount_0f7a4 23 = .ok (.istore_n 0, 1) := by decide +kernel
theorem dJ6_bitCount_0f7a4_24 : decode cJ6_bitCount_0f7a4 24 = .ok (.iload_n 0, 1) := by decide +kernel
theorem dJ6_bitCount_0f7a4_25 : decode cJ6_bitCount_0f7a4 25 = .ok (.iload_n 0, 1) := by decide +kernel
theorem dJ6_bitCount_0f7a4_26 : decode cJ6_bitCount_0f7a4 26 = .ok (.iconst 4, 1) := by decide +kernel
theorem dJ6_bitCount_0f7a4_27 : decode cJ6_bitCount_0f7a4 27 = .ok (.iushr, 1) := by decide +kernel
theorem dJ6_bitCount_0f7a4_28 : decode cJ6_bitCount_0f7a4 28 = .ok (.iadd, 1) := by decide +kernel
theorem dJ6_bitCount_0f7a4_29 : decode cJ6_bitCount_0f7a4 29 = .ok (.ldc_w 267, 3) := by decide +kernel
theorem dJ6_bitCount_0f7a4_32 : decode cJ6_bitCount_0f7a4 32 = .ok (.iand, 1) := by decide +kernel
theorem dJ6_bitCount_0f7a4_33 : decode cJ6_bitCount_0f7a4 33 = .ok (.istore_n 0, 1) := by decide +kernel
theorem dJ6_bitCount_0f7a4_34 : decode cJ6_bitCount_0f7a4 34 = .ok (.iload_n 0, 1) := by decide +kernel
theorem dJ6_bitCount_0f7a4_35 : decode cJ6_bitCount_0f7a4 35 = .ok (.iload_n 0, 1) := by decide +kernel
theorem dJ6_bitCount_0f7a4_36 : decode cJ6_bitCount_0f7a4 36 = .ok (.bipush 8, 2) := by decide +kernel
theorem dJ6_bitCount_0f7a4_38 : decode cJ6_bitCount_0f7a4 38 = .ok (.iushr, 1) := by decide +kernel
theorem dJ6_bitCount_0f7a4_39 : decode cJ6_bitCount_0f7a4 39 = .ok (.iadd, 1) := by decide +kernel
theorem dJ6_bitCount_0f7a4_40 : decode cJ6_bitCount_0f7a4 40 = .ok (.istore_n 0, 1) := by decide +kernel
theorem dJ6_bitCount_0f7a4_41 : decode cJ6_bitCount_0f7a4 41 = .ok (.iload_n 0, 1) := by decide +kernel
theorem dJ6_bitCount_0f7a4_42 : decode cJ6_bitCount_0f7a4 42 = .ok (.iload_n 0, 1) := by decide +kernel
theorem dJ6_bitCount_0f7a4_43 : decode cJ6_bitCount_0f7a4 43 = .ok (.bipush 16, 2) := by decide +kernel
theorem dJ6_bitCount_0f7a4_45 : decode cJ6_bitCount_0f7a4 45 = .ok (.iushr, 1) := by decide +kernel
theorem dJ6_bitCount_0f7a4_46 : decode cJ6_bitCount_0f7a4 46 = .ok (.iadd, 1) := by decide +kernel
theorem dJ6_bitCount_0f7a4_47 : decode cJ6_bitCount_0f7a4 47 = .ok (.istore_n 0, 1) := by decide +kernel
theorem dJ6_bitCount_0f7a4_48 : decode cJ6_bitCount_0f7a4 48 = .ok (.iload_n 0, 1) := by decide +kernel
theorem dJ6_bitCount_0f7a4_49 : decode cJ6_bitCount_0f7a4 49 = .ok (.bipush 63, 2) := by decide +kernel
theorem dJ6_bitCount_0f7a4_51 : decode cJ6_bitCount_0f7a4 51 = .ok (.iand, 1) := by decide +kernel
theorem dJ6_bitCount_0f7a4_52 : decode cJ6_bitCount_0f7a4 52 = .ok (.ireturn, 1) := by decide +kernel
theorem dJ9_abs_0f7a4_0 : decode cJ9_abs_0f7a4 0 = .ok (.iload_n 0, 1) := by decide +kernel
theorem dJ9_abs_0f7a4_1 : decode cJ9_abs_0f7a4 1 = .ok (.ifCond .ge 8, 3) := by decide +kernel
theorem dJ9_abs_0f7a4_4 : decode cJ9_abs_0f7a4 4 = .ok (.iload_n 0, 1) := by decide +kernel
theorem dJ9_abs_0f7a4_5 : decode cJ9_abs_0f7a4 5 = .ok (.ineg, 1) := by decide +kernel
theorem dJ9_abs_0f7a4_6 : decode cJ9_abs_0f7a4 6 = .ok (.goto 4, 3) := by decide +kernel
theorem dJ9_abs_0f7a4_9 : decode cJ9_abs_0f7a4 9 = .ok (.iload_n 0, 1) := by decide +kernel
theorem dJ9_abs_0f7a4_10 : decode cJ9_abs_0f7a4 10 = .ok (.ireturn, 1) := by decide +kernel
theorem dJ9_max_7cf53_0 : decode cJ9_max_7cf53 0 = .ok (.iload_n 0, 1) := by decide +kernel
theorem dJ9_max_7cf53_1 : decode cJ9_max_7cf53 1 = .ok (.iload_n 1, 1) := by decide +kernel
theorem dJ9_max_7cf53_2 : decode cJ9_max_7cf53 2 = .ok (.if_icmp .lt 7, 3) := by decide +kernel
theorem dJ9_max_7cf53_5 : decode cJ9_max_7cf53 5 = .ok (.iload_n 0, 1) := by decide +kernel
theorem dJ9_max_7cf53_6 : decode cJ9_max_7cf53 6 = .ok (.goto 4, 3) := by decide +kernel
theorem dJ9_max_7cf53_9 : decode cJ9_max_7cf53 9 = .ok (.iload_n 1, 1) := by decide +kernel
theorem dJ9_max_7cf53_10 : decode cJ9_max_7cf53 10 = .ok (.ireturn, 1) := by decide +kernel
theorem dJ9_min_7cf53_0 : decode cJ9_min_7cf53 0 = .ok (.iload_n 0, 1) := by decide +kernel
theorem dJ9_min_7cf53_1 : decode cJ9_min_7cf53 1 = .ok (.iload_n 1, 1) := by decide +kernel
theorem dJ9_min_7cf53_2 : decode cJ9_min_7cf53 2 = .ok (.if_icmp .gt 7, 3) := by decide +kernel
theorem dJ9_min_7cf53_5 : decode cJ9_min_7cf53 5 = .ok (.iload_n 0, 1) := by decide +kernel
theorem dJ9_min_7cf53_6 : decode cJ9_min_7cf53 6 = .ok (.goto 4, 3) := by decide +kernel
theorem dJ9_min_7cf53_9 : decode cJ9_min_7cf53 9 = .ok (.iload_n 1, 1) := by decide +kernel
theorem dJ9_min_7cf53_10 : decode cJ9_min_7cf53 10 = .ok (.ireturn, 1) := by decide +kernel
theorem dJ0_length_8abf5_0 : decode cJ0_length_8abf5 0 = .ok (.aload_n 0, 1) := by decide +kernel
theorem dJ0_length_8abf5_1 : decode cJ0_length_8abf5 1 = .ok (.getfield 9, 3) := by decide +kernel
theorem dJ0_length_8abf5_4 : decode cJ0_length_8abf5 4 = .ok (.arraylength, 1) := by decide +kernel
theorem dJ0_length_8abf5_5 : decode cJ0_length_8abf5 5 = .ok (.aload_n 0, 1) := by decide +kernel
theorem dJ0_length_8abf5_6 : decode cJ0_length_8abf5 6 = .ok (.invokevirtual 335, 3) := by decide +kernel
theorem dJ0_length_8abf5_9 : decode cJ0_length_8abf5 9 = .ok (.ishr, 1) := by decide +kernel
theorem dJ0_length_8abf5_10 : decode cJ0_length_8abf5 10 = .ok (.ireturn, 1) := by decide +kernel
theorem dJ0_charAt_5068e_0 : decode cJ0_charAt_5068e 0 = .ok (.aload_n 0, 1) := by decide +kernel
theorem dJ0_charAt_5068e_1 : decode cJ0_charAt_5068e 1 = .ok (.invokevirtual 492, 3) := by decide +kernel
theorem dJ0_charAt_5068e_4 : decode cJ0_charAt_5068e 4 = .ok (.ifCond .eq 12, 3) := by decide +kernel
theorem dJ0_charAt_5068e_7 : decode cJ0_charAt_5068e 7 = .ok (.aload_n 0, 1) := by decide +kernel
theorem dJ0_charAt_5068e_8 : decode cJ0_charAt_5068e 8 = .ok (.getfield 9, 3) := by decide +kernel
theorem dJ0_charAt_5068e_11 : decode cJ0_charAt_5068e 11 = .ok (.iload_n 1, 1) := by decide +kernel
theorem dJ0_charAt_5068e_12 : decode cJ0_charAt_5068e 12 = .ok (.invokestatic 495, 3) := by decide +kernel
theorem dJ0_charAt_5068e_15 : decode cJ0_charAt_5068e 15 = .ok (.ireturn, 1) := by decide +kernel
theorem dJ0_charAt_5068e_16 : decode cJ0_charAt_5068e 16 = .ok (.aload_n 0, 1) := by decide +kernel
theorem dJ0_charAt_5068e_17 : decode cJ0_charAt_5068e 17 = .ok (.getfield 9, 3) := by decide +kernel
theorem dJ0_charAt_5068e_20 : decode cJ0_charAt_5068e 20 = .ok (.iload_n 1, 1) := by decide +kernel
theorem dJ0_charAt_5068e_21 : decode cJ0_charAt_5068e 21 = .ok (.invokestatic 498, 3) := by decide +kernel
theorem dJ0_charAt_5068e_24 : decode cJ0_charAt_5068e 24 = .ok (.ireturn, 1) := by decide +kernel
theorem dJ0_coder_7d493_0 : decode cJ0_coder_7d493 0 = .ok (.getstatic 38, 3) := by decide +kernel
theorem dJ0_coder_7d493_3 : decode cJ0_coder_7d493 3 = .ok (.ifCond .eq 10, 3) := by decide +kernel
theorem dJ0_coder_7d493_6 : decode cJ0_coder_7d493 6 = .ok (.aload_n 0, 1) := by decide +kernel
theorem dJ0_coder_7d493_7 : decode cJ0_coder_7d493 7 = .ok (.getfield 15, 3) := by decide +kernel
theorem dJ0_coder_7d493_10 : decode cJ0_coder_7d493 10 = .ok (.goto 4, 3) := by decide +kernel
theorem dJ0_coder_7d493_13 : decode cJ0_coder_7d493 13 = .ok (.iconst 1, 1) := by decide +kernel
theorem dJ0_coder_7d493_14 : decode cJ0_coder_7d493 14 = .ok (.ireturn, 1) := by decide +kernel
theorem dJ0_isLatin1_aae02_0 : decode cJ0_isLatin1_aae02 0 = .ok (.getstatic 38, 3) := by decide +kernel
theorem dJ0_isLatin1_aae02_3 : decode cJ0_isLatin1_aae02 3 = .ok (.ifCond .eq 14, 3) := by decide +kernel
theorem dJ0_isLatin1_aae02_6 : decode cJ0_isLatin1_aae02 6 = .ok (.aload_n 0, 1) := by decide +kernel
theorem dJ0_isLatin1_aae02_7 : decode cJ0_isLatin1_aae02 7 = .ok (.getfield 15, 3) := by decide +kernel
theorem dJ0_isLatin1_aae02_10 : decode cJ0_isLatin1_aae02 10 = .ok (.ifCond .ne 7, 3) := by decide +kernel
theorem dJ0_isLatin1_aae02_13 : decode cJ0_isLatin1_aae02 13 = .ok (.iconst 1, 1) := by decide +kernel
theorem dJ0_isLatin1_aae02_14 : decode cJ0_isLatin1_aae02 14 = .ok (.goto 4, 3) := by decide +kernel
theorem dJ0_isLatin1_aae02_17 : decode cJ0_isLatin1_aae02 17 = .ok (.iconst 0, 1) := by decide +kernel
theorem dJ0_isLatin1_aae02_18 : decode cJ0_isLatin1_aae02 18 = .ok (.ireturn, 1) := by decide +kernel
theorem dJ0_checkIndex_df160_0 : decode cJ0_checkIndex_df160 0 = .ok (.iload_n 0, 1) := by decide +kernel
theorem dJ0_checkIndex_df160_1 : decode cJ0_checkIndex_df160 1 = .ok (.iload_n 1, 1) := by decide +kernel
theorem dJ0_checkIndex_df160_2 : decode cJ0_checkIndex_df160 2 = .ok (.getstatic 1053, 3) := by decide +kernel
theorem dJ0_checkIndex_df160_5 : decode cJ0_checkIndex_df160 5 = .ok (.invokestatic 1059, 3) := by decide +kernel
theorem dJ0_checkIndex_df160_8 : decode cJ0_checkIndex_df160 8 = .ok (.pop, 1) := by decide +kernel
theorem dJ0_checkIndex_df160_9 : decode cJ0_checkIndex_df160 9 = .ok (.return_, 1) := by decide +kernel
theorem dJ1_charAt_3b067_0 : decode cJ1_charAt_3b067 0 = .ok (.iload_n 1, 1) := by decide +kernel
theorem dJ1_charAt_3b067_1 : decode cJ1_charAt_3b067 1 = .ok (.aload_n 0, 1) := by decide +kernel
theorem dJ1_charAt_3b067_2 : decode cJ1_charAt_3b067 2 = .ok (.arraylength, 1) := by decide +kernel
theorem dJ1_charAt_3b067_3 : decode cJ1_charAt_3b067 3 = .ok (.invokestatic 9, 3) := by decide +kernel
theorem dJ1_charAt_3b067_6 : decode cJ1_charAt_3b067 6 = .ok (.aload_n 0, 1) := by decide +kernel
theorem dJ1_charAt_3b067_7 : decode cJ1_charAt_3b067 7 = .ok (.iload_n 1, 1) := by decide +kernel
theorem dJ1_charAt_3b067_8 : decode cJ1_charAt_3b067 8 = .ok (.baload, 1) := by decide +kernel
theorem dJ1_charAt_3b067_9 : decode cJ1_charAt_3b067 9 = .ok (.sipush 255, 3) := by decide +kernel
theorem dJ1_charAt_3b067_12 : decode cJ1_charAt_3b067 12 = .ok (.iand, 1) := by decide +kernel
theorem dJ1_charAt_3b067_13 : decode cJ1_charAt_3b067 13 = .ok (.i2c, 1) := by decide +kernel
theorem dJ1_charAt_3b067_14 : decode cJ1_charAt_3b067 14 = .ok (.ireturn, 1) := by decide +kernel
theorem dJ2_getChar_3b067_0 : decode cJ2_getChar_3b067 0 = .ok (.getstatic 44, 3) := by decide +kernel
theorem dJ2_getChar_3b067_3 : decode cJ2_getChar_3b067 3 = .ok (.ifCond .ne 25, 3) := by decide +kernel
theorem dJ2_getChar_3b067_6 : decode cJ2_getChar_3b067 6 = .ok (.iload_n 1, 1) := by decide +kernel
theorem dJ2_getChar_3b067_7 : decode cJ2_getChar_3b067 7 = .ok (.ifCond .lt 11, 3) := by decide +kernel
theorem dJ2_getChar_3b067_10 : decode cJ2_getChar_3b067 10 = .ok (.iload_n 1, 1) := by decide +kernel
theorem dJ2_getChar_3b067_11 : decode cJ2_getChar_3b067 11 = .ok (.aload_n 0, 1) := by decide +kernel
theorem dJ2_getChar_3b067_12 : decode cJ2_getChar_3b067 12 = .ok (.invokestatic 48, 3) := by decide +kernel
theorem dJ2_getChar_3b067_15 : decode cJ2_getChar_3b067 15 = .ok (.if_icmp .lt 13, 3) := by decide +kernel
theorem dJ2_getChar_3b067_18 : decode cJ2_getChar_3b067 18 = .ok (.new 52, 3) := by decide +kernel
theorem dJ2_getChar_3b067_21 : decode cJ2_getChar_3b067 21 = .ok (.dup, 1) := by decide +kernel
theorem dJ2_getChar_3b067_22 : decode cJ2_getChar_3b067 22 = .ok (.ldc 54, 2) := by decide +kernel
theorem dJ2_getChar_3b067_24 : decode cJ2_getChar_3b067 24 = .ok (.invokespecial 56, 3) := by decide +kernel
theorem dJ2_getChar_3b067_27 : decode cJ2_getChar_3b067 27 = .ok (.athrow, 1) := by decide +kernel
theorem dJ2_getChar_3b067_28 : decode cJ2_getChar_3b067 28 = .ok (.iload_n 1, 1) := by decide +kernel
theorem dJ2_getChar_3b067_29 : decode cJ2_getChar_3b067 29 = .ok (.iconst 1, 1) := by decide +kernel
theorem dJ2_getChar_3b067_30 : decode cJ2_getChar_3b067 30 = .ok (.ishl, 1) := by decide +kernel
theorem dJ2_getChar_3b067_31 : decode cJ2_getChar_3b067 31 = .ok (.istore_n 1, 1) := by decide +kernel
theorem dJ2_getChar_3b067_32 : decode cJ2_getChar_3b067 32 = .ok (.aload_n 0, 1) := by decide +kernel
theorem dJ2_getChar_3b067_33 : decode cJ2_getChar_3b067 33 = .ok (.iload_n 1, 1) := by decide +kernel
theorem dJ2_getChar_3b067_34 : decode cJ2_getChar_3b067 34 = .ok (.iinc 1 1, 3) := by decide +kernel
theorem dJ2_getChar_3b067_37 : decode cJ2_getChar_3b067 37 = .ok (.baload, 1) := by decide +kernel
theorem dJ2_getChar_3b067_38 : decode cJ2_getChar_3b067 38 = .ok (.sipush 255, 3) := by decide +kernel
theorem dJ2_getChar_3b067_41 : decode cJ2_getChar_3b067 41 = .ok (.iand, 1) := by decide +kernel
theorem dJ2_getChar_3b067_42 : decode cJ2_getChar_3b067 42 = .ok (.getstatic 59, 3) := by decide +kernel
theorem dJ2_getChar_3b067_45 : decode cJ2_getChar_3b067 45 = .ok (.ishl, 1) := by decide +kernel
theorem dJ2_getChar_3b067_46 : decode cJ2_getChar_3b067 46 = .ok (.aload_n 0, 1) := by decide +kernel
theorem dJ2_getChar_3b067_47 : decode cJ2_getChar_3b067 47 = .ok (.iload_n 1, 1) := by decide +kernel
theorem dJ2_getChar_3b067_48 : decode cJ2_getChar_3b067 48 = .ok (.baload, 1) := by decide +kernel
theorem dJ2_getChar_3b067_49 : decode cJ2_getChar_3b067 49 = .ok (.sipush 255, 3) := by decide +kernel
theorem dJ2_getChar_3b067_52 : decode cJ2_getChar_3b067 52 = .ok (.iand, 1) := by decide +kernel
theorem dJ2_getChar_3b067_53 : decode cJ2_getChar_3b067 53 = .ok (.getstatic 63, 3) := by decide +kernel
theorem dJ2_getChar_3b067_56 : decode cJ2_getChar_3b067 56 = .ok (.ishl, 1) := by decide +kernel
theorem dJ2_getChar_3b067_57 : decode cJ2_getChar_3b067 57 = .ok (.ior, 1) := by decide +kernel
theorem dJ2_getChar_3b067_58 : decode cJ2_getChar_3b067 58 = .ok (.i2c, 1) := by decide +kernel
theorem dJ2_getChar_3b067_59 : decode cJ2_getChar_3b067 59 = .ok (.ireturn, 1) := by decide +kernel
theorem dJ2_length_9d52b_0 : decode cJ2_length_9d52b 0 = .ok (.aload_n 0, 1) := by decide +kernel
theorem dJ2_length_9d52b_1 : decode cJ2_length_9d52b 1 = .ok (.arraylength, 1) := by decide +kernel
theorem dJ2_length_9d52b_2 : decode cJ2_length_9d52b 2 = .ok (.iconst 1, 1) := by decide +kernel
theorem dJ2_length_9d52b_3 : decode cJ2_length_9d52b 3 = .ok (.ishr, 1) := by decide +kernel
theorem dJ2_length_9d52b_4 : decode cJ2_length_9d52b 4 = .ok (.ireturn, 1) := by decide +kernel
theorem dJ2_charAt_3b067_0 : decode cJ2_charAt_3b067 0 = .ok (.iload_n 1, 1) := by decide +kernel
theorem dJ2_charAt_3b067_1 : decode cJ2_charAt_3b067 1 = .ok (.aload_n 0, 1) := by decide +kernel
theorem dJ2_charAt_3b067_2 : decode cJ2_charAt_3b067 2 = .ok (.invokestatic 67, 3) := by decide +kernel
theorem dJ2_charAt_3b067_5 : decode cJ2_charAt_3b067 5 = .ok (.aload_n 0, 1) := by decide +kernel
theorem dJ2_charAt_3b067_6 : decode cJ2_charAt_3b067 6 = .ok (.iload_n 1, 1) := by decide +kernel
theorem dJ2_charAt_3b067_7 : decode cJ2_charAt_3b067 7 = .ok (.invokestatic 71, 3) := by decide +kernel
theorem dJ2_charAt_3b067_10 : decode cJ2_charAt_3b067 10 = .ok (.ireturn, 1) := by decide +kernel
theorem dJ2_checkIndex_2214a_0 : decode cJ2_checkIndex_2214a 0 = .ok (.iload_n 0, 1) := by decide +kernel
theorem dJ2_checkIndex_2214a_1 : decode cJ2_checkIndex_2214a 1 = .ok (.aload_n 1, 1) := by decide +kernel
theorem dJ2_checkIndex_2214a_2 : decode cJ2_checkIndex_2214a 2 = .ok (.invokestatic 48, 3) := by decide +kernel
theorem dJ2_checkIndex_2214a_5 : decode cJ2_checkIndex_2214a 5 = .ok (.invokestatic 414, 3) := by decide +kernel
theorem dJ2_checkIndex_2214a_8 : decode cJ2_checkIndex_2214a 8 = .ok (.return_, 1) := by decide +kernel
theorem dJ3_checkIndex_8e157_0 : decode cJ3_checkIndex_8e157 0 = .ok (.iload_n 0, 1) := by decide +kernel
theorem dJ3_checkIndex_8e157_1 : decode cJ3_checkIndex_8e157 1 = .ok (.ifCond .lt 8, 3) := by decide +kernel
theorem dJ3_checkIndex_8e157_4 : decode cJ3_checkIndex_8e157 4 = .ok (.iload_n 0, 1) := by decide +kernel
theorem dJ3_checkIndex_8e157_5 : decode cJ3_checkIndex_8e157 5 = .ok (.iload_n 1, 1) := by decide +kernel
theorem dJ3_checkIndex_8e157_6 : decode cJ3_checkIndex_8e157 6 = .ok (.if_icmp .lt 10, 3) := by decide +kernel
theorem dJ3_checkIndex_8e157_9 : decode cJ3_checkIndex_8e157 9 = .ok (.aload_n 2, 1) := by decide +kernel
theorem dJ3_checkIndex_8e157_10 : decode cJ3_checkIndex_8e157 10 = .ok (.iload_n 0, 1) := by decide +kernel
theorem dJ3_checkIndex_8e157_11 : decode cJ3_checkIndex_8e157 11 = .ok (.iload_n 1, 1) := by decide +kernel
theorem dJ3_checkIndex_8e157_12 : decode cJ3_checkIndex_8e157 12 = .ok (.invokestatic 95, 3) := by decide +kernel
theorem dJ3_checkIndex_8e157_15 : decode cJ3_checkIndex_8e157 15 = .ok (.athrow, 1) := by decide +kernel
theorem dJ3_checkIndex_8e157_16 : decode cJ3_checkIndex_8e157 16 = .ok (.iload_n 0, 1) := by decide +kernel
theorem dJ3_checkIndex_8e157_17 : decode cJ3_checkIndex_8e157 17 = .ok (.ireturn, 1) := by decide +kernel
theorem dL_law_0 : decode cL_law 0 = .ok (.new 7, 3) := by decide +kernel
theorem dL_law_3 : decode cL_law 3 = .ok (.dup, 1) := by decide +kernel
theorem dL_law_4 : decode cL_law 4 = .ok (.invokespecial 9, 3) := by decide +kernel
theorem dL_law_7 : decode cL_law 7 = .ok (.astore_n 1, 1) := by decide +kernel
theorem dL_law_8 : decode cL_law 8 = .ok (.new 10, 3) := by decide +kernel
theorem dL_law_11 : decode cL_law 11 = .ok (.dup, 1) := by decide +kernel
theorem dL_law_12 : decode cL_law 12 = .ok (.invokespecial 12, 3) := by decide +kernel
theorem dL_law_15 : decode cL_law 15 = .ok (.astore_n 2, 1) := by decide +kernel
theorem dL_law_16 : decode cL_law 16 = .ok (.iconst 0, 1) := by decide +kernel
theorem dL_law_17 : decode cL_law 17 = .ok (.istore_n 3, 1) := by decide +kernel
theorem dL_law_18 : decode cL_law 18 = .ok (.iload_n 3, 1) := by decide +kernel
theorem dL_law_19 : decode cL_law 19 = .ok (.aload_n 0, 1) := by decide +kernel
theorem dL_law_20 : decode cL_law 20 = .ok (.arraylength, 1) := by decide +kernel
theorem dL_law_21 : decode cL_law 21 = .ok (.iconst 4, 1) := by decide +kernel
theorem dL_law_22 : decode cL_law 22 = .ok (.isub, 1) := by decide +kernel
theorem dL_law_23 : decode cL_law 23 = .ok (.if_icmp .gt 769, 3) := by decide +kernel
theorem dL_law_26 : decode cL_law 26 = .ok (.aload_n 0, 1) := by decide +kernel
theorem dL_law_27 : decode cL_law 27 = .ok (.iload_n 3, 1) := by decide +kernel
theorem dL_law_28 : decode cL_law 28 = .ok (.iaload, 1) := by decide +kernel
theorem dL_law_29 : decode cL_law 29 = .ok (.bipush 31, 2) := by decide +kernel
theorem dL_law_31 : decode cL_law 31 = .ok (.iand, 1) := by decide +kernel
theorem dL_law_32 : decode cL_law 32 = .ok (.tableswitch 754 0 22 #[108, 141, 164, 197, 246, 269, 302, 325, 348, 361, 404, 427, 470, 503, 546, 579, 602, 635, 658, 681, 704, 727, 740], 108) := by decide +kernel
theorem dL_law_140 : decode cL_law 140 = .ok (.aload_n 1, 1) := by decide +kernel
theorem dL_law_141 : decode cL_law 141 = .ok (.aload_n 0, 1) := by decide +kernel
theorem dL_law_142 : decode cL_law 142 = .ok (.iload_n 3, 1) := by decide +kernel
theorem dL_law_143 : decode cL_law 143 = .ok (.iconst 1, 1) := by decide +kernel
theorem dL_law_144 : decode cL_law 144 = .ok (.iadd, 1) := by decide +kernel
theorem dL_law_145 : decode cL_law 145 = .ok (.iaload, 1) := by decide +kernel
theorem dL_law_146 : decode cL_law 146 = .ok (.aload_n 0, 1) := by decide +kernel
theorem dL_law_147 : decode cL_law 147 = .ok (.iload_n 3, 1) := by decide +kernel
theorem dL_law_148 : decode cL_law 148 = .ok (.iconst 2, 1) := by decide +kernel
theorem dL_law_149 : decode cL_law 149 = .ok (.iadd, 1) := by decide +kernel
theorem dL_law_150 : decode cL_law 150 = .ok (.iaload, 1) := by decide +kernel
theorem dL_law_151 : decode cL_law 151 = .ok (.invokevirtual 13, 3) := by decide +kernel
theorem dL_law_154 : decode cL_law 154 = .ok (.aload_n 2, 1) := by decide +kernel
theorem dL_law_155 : decode cL_law 155 = .ok (.aload_n 0, 1) := by decide +kernel
theorem dL_law_156 : decode cL_law 156 = .ok (.iload_n 3, 1) := by decide +kernel
theorem dL_law_157 : decode cL_law 157 = .ok (.iconst 1, 1) := by decide +kernel
theorem dL_law_158 : decode cL_law 158 = .ok (.iadd, 1) := by decide +kernel
theorem dL_law_159 : decode cL_law 159 = .ok (.iaload, 1) := by decide +kernel
theorem dL_law_160 : decode cL_law 160 = .ok (.aload_n 0, 1) := by decide +kernel
theorem dL_law_161 : decode cL_law 161 = .ok (.iload_n 3, 1) := by decide +kernel
theorem dL_law_162 : decode cL_law 162 = .ok (.iconst 2, 1) := by decide +kernel
theorem dL_law_163 : decode cL_law 163 = .ok (.iadd, 1) := by decide +kernel
theorem dL_law_164 : decode cL_law 164 = .ok (.iaload, 1) := by decide +kernel
theorem dL_law_165 : decode cL_law 165 = .ok (.invokevirtual 17, 3) := by decide +kernel
theorem dL_law_168 : decode cL_law 168 = .ok (.if_icmp .eq 618, 3) := by decide +kernel
theorem dL_law_171 : decode cL_law 171 = .ok (.iconst 0, 1) := by decide +kernel
theorem dL_law_172 : decode cL_law 172 = .ok (.ireturn, 1) := by decide +kernel
theorem dL_law_173 : decode cL_law 173 = .ok (.aload_n 1, 1) := by decide +kernel
theorem dL_law_174 : decode cL_law 174 = .ok (.aload_n 0, 1) := by decide +kernel
theorem dL_law_175 : decode cL_law 175 = .ok (.iload_n 3, 1) := by decide +kernel
theorem dL_law_176 : decode cL_law 176 = .ok (.iconst 1, 1) := by decide +kernel
theorem dL_law_177 : decode cL_law 177 = .ok (.iadd, 1) := by decide +kernel
theorem dL_law_178 : decode cL_law 178 = .ok (.iaload, 1) := by decide +kernel
theorem dL_law_179 : decode cL_law 179 = .ok (.invokevirtual 18, 3) := by decide +kernel
theorem dL_law_182 : decode cL_law 182 = .ok (.aload_n 2, 1) := by decide +kernel
theorem dL_law_183 : decode cL_law 183 = .ok (.aload_n 0, 1) := by decide +kernel
theorem dL_law_184 : decode cL_law 184 = .ok (.iload_n 3, 1) := by decide +kernel
theorem dL_law_185 : decode cL_law 185 = .ok (.iconst 1, 1) := by decide +kernel
theorem dL_law_186 : decode cL_law 186 = .ok (.iadd, 1) := by decide +kernel
theorem dL_law_187 : decode cL_law 187 = .ok (.iaload, 1) := by decide +kernel
theorem dL_law_188 : decode cL_law 188 = .ok (.invokevirtual 22, 3) := by decide +kernel
theorem dL_law_191 : decode cL_law 191 = .ok (.if_icmp .eq 595, 3) := by decide +kernel
theorem dL_law_194 : decode cL_law 194 = .ok (.iconst 0, 1) := by decide +kernel
theorem dL_law_195 : decode cL_law 195 = .ok (.ireturn, 1) := by decide +kernel
theorem dL_law_196 : decode cL_law 196 = .ok (.aload_n 1, 1) := by decide +kernel
theorem dL_law_197 : decode cL_law 197 = .ok (.aload_n 0, 1) := by decide +kernel
theorem dL_law_198 : decode cL_law 198 = .ok (.iload_n 3, 1) := by decide +kernel
theorem dL_law_199 : decode cL_law 199 = .ok (.iconst 1, 1) := by decide +kernel
theorem dL_law_200 : decode cL_law 200 = .ok (.iadd, 1) := by decide +kernel
theorem dL_law_201 : decode cL_law 201 = .ok (.iaload, 1) := by decide +kernel
theorem dL_law_202 : decode cL_law 202 = .ok (.aload_n 0, 1) := by decide +kernel
theorem dL_law_203 : decode cL_law 203 = .ok (.iload_n 3, 1) := by decide +kernel
theorem dL_law_204 : decode cL_law 204 = .ok (.iconst 2, 1) := by decide +kernel
theorem dL_law_205 : decode cL_law 205 = .ok (.iadd, 1) := by decide +kernel
theorem dL_law_206 : decode cL_law 206 = .ok (.iaload, 1) := by decide +kernel
theorem dL_law_207 : decode cL_law 207 = .ok (.invokevirtual 23, 3) := by decide +kernel
theorem dL_law_210 : decode cL_law 210 = .ok (.aload_n 2, 1) := by decide +kernel
theorem dL_law_211 : decode cL_law 211 = .ok (.aload_n 0, 1) := by decide +kernel
theorem dL_law_212 : decode cL_law 212 = .ok (.iload_n 3, 1) := by decide +kernel
theorem dL_law_213 : decode cL_law 213 = .ok (.iconst 1, 1) := by decide +kernel
theorem dL_law_214 : decode cL_law 214 = .ok (.iadd, 1) := by decide +kernel
theorem dL_law_215 : decode cL_law 215 = .ok (.iaload, 1) := by decide +kernel
theorem dL_law_216 : decode cL_law 216 = .ok (.aload_n 0, 1) := by decide +kernel
theorem dL_law_217 : decode cL_law 217 = .ok (.iload_n 3, 1) := by decide +kernel
theorem dL_law_218 : decode cL_law 218 = .ok (.iconst 2, 1) := by decide +kernel
theorem dL_law_219 : decode cL_law 219 = .ok (.iadd, 1) := by decide +kernel
theorem dL_law_220 : decode cL_law 220 = .ok (.iaload, 1) := by decide +kernel
theorem dL_law_221 : decode cL_law 221 = .ok (.invokevirtual 26, 3) := by decide +kernel
theorem dL_law_224 : decode cL_law 224 = .ok (.if_icmp .eq 562, 3) := by decide +kernel
theorem dL_law_227 : decode cL_law 227 = .ok (.iconst 0, 1) := by decide +kernel
theorem dL_law_228 : decode cL_law 228 = .ok (.ireturn, 1) := by decide +kernel
theorem dL_law_229 : decode cL_law 229 = .ok (.aload_n 1, 1) := by decide +kernel
theorem dL_law_230 : decode cL_law 230 = .ok (.aload_n 0, 1) := by decide +kernel
theorem dL_law_231 : decode cL_law 231 = .ok (.iload_n 3, 1) := by decide +kernel
theorem dL_law_232 : decode cL_law 232 = .ok (.iconst 1, 1) := by decide +kernel
theorem dL_law_233 : decode cL_law 233 = .ok (.iadd, 1) := by decide +kernel
theorem dL_law_234 : decode cL_law 234 = .ok (.iaload, 1) := by decide +kernel
theorem dL_law_235 : decode cL_law 235 = .ok (.aload_n 0, 1) := by decide +kernel
theorem dL_law_236 : decode cL_law 236 = .ok (.iload_n 3, 1) := by decide +kernel
theorem dL_law_237 : decode cL_law 237 = .ok (.iconst 2, 1) := by decide +kernel
theorem dL_law_238 : decode cL_law 238 = .ok (.iadd, 1) := by decide +kernel
theorem dL_law_239 : decode cL_law 239 = .ok (.iaload, 1) := by decide +kernel
theorem dL_law_240 : decode cL_law 240 = .ok (.ifCond .eq 7, 3) := by decide +kernel
theorem dL_law_243 : decode cL_law 243 = .ok (.iconst 1, 1) := by decide +kernel
theorem dL_law_244 : decode cL_law 244 = .ok (.goto 4, 3) := by decide +kernel
theorem dL_law_247 : decode cL_law 247 = .ok (.iconst 0, 1) := by decide +kernel
theorem dL_law_248 : decode cL_law 248 = .ok (.invokevirtual 27, 3) := by decide +kernel
theorem dL_law_251 : decode cL_law 251 = .ok (.aload_n 2, 1) := by decide +kernel
theorem dL_law_252 : decode cL_law 252 = .ok (.aload_n 0, 1) := by decide +kernel
theorem dL_law_253 : decode cL_law 253 = .ok (.iload_n 3, 1) := by decide +kernel
theorem dL_law_254 : decode cL_law 254 = .ok (.iconst 1, 1) := by decide +kernel
theorem dL_law_255 : decode cL_law 255 = .ok (.iadd, 1) := by decide +kernel
theorem dL_law_256 : decode cL_law 256 = .ok (.iaload, 1) := by decide +kernel
theorem dL_law_257 : decode cL_law 257 = .ok (.aload_n 0, 1) := by decide +kernel
theorem dL_law_258 : decode cL_law 258 = .ok (.iload_n 3, 1) := by decide +kernel
theorem dL_law_259 : decode cL_law 259 = .ok (.iconst 2, 1) := by decide +kernel
theorem dL_law_260 : decode cL_law 260 = .ok (.iadd, 1) := by decide +kernel
theorem dL_law_261 : decode cL_law 261 = .ok (.iaload, 1) := by decide +kernel
theorem dL_law_262 : decode cL_law 262 = .ok (.ifCond .eq 7, 3) := by decide +kernel
theorem dL_law_265 : decode cL_law 265 = .ok (.iconst 1, 1) := by decide +kernel
theorem dL_law_266 : decode cL_law 266 = .ok (.goto 4, 3) := by decide +kernel
theorem dL_law_269 : decode cL_law 269 = .ok (.iconst 0, 1) := by decide +kernel
theorem dL_law_270 : decode cL_law 270 = .ok (.invokevirtual 31, 3) := by decide +kernel
theorem dL_law_273 : decode cL_law 273 = .ok (.if_icmp .eq 513, 3) := by decide +kernel
theorem dL_law_276 : decode cL_law 276 = .ok (.iconst 0, 1) := by decide +kernel
theorem dL_law_277 : decode cL_law 277 = .ok (.ireturn, 1) := by decide +kernel
theorem dL_law_278 : decode cL_law 278 = .ok (.aload_n 1, 1) := by decide +kernel
theorem dL_law_279 : decode cL_law 279 = .ok (.aload_n 0, 1) := by decide +kernel
theorem dL_law_280 : decode cL_law 280 = .ok (.iload_n 3, 1) := by decide +kernel
theorem dL_law_281 : decode cL_law 281 = .ok (.iconst 1, 1) := by decide +kernel
theorem dL_law_282 : decode cL_law 282 = .ok (.iadd, 1) := by decide +kernel
theorem dL_law_283 : decode cL_law 283 = .ok (.iaload, 1) := by decide +kernel
theorem dL_law_284 : decode cL_law 284 = .ok (.invokevirtual 32, 3) := by decide +kernel
theorem dL_law_287 : decode cL_law 287 = .ok (.aload_n 2, 1) := by decide +kernel
theorem dL_law_288 : decode cL_law 288 = .ok (.aload_n 0, 1) := by decide +kernel
theorem dL_law_289 : decode cL_law 289 = .ok (.iload_n 3, 1) := by decide +kernel
theorem dL_law_290 : decode cL_law 290 = .ok (.iconst 1, 1) := by decide +kernel
theorem dL_law_291 : decode cL_law 291 = .ok (.iadd, 1) := by decide +kernel
theorem dL_law_292 : decode cL_law 292 = .ok (.iaload, 1) := by decide +kernel
theorem dL_law_293 : decode cL_law 293 = .ok (.invokevirtual 35, 3) := by decide +kernel
theorem dL_law_296 : decode cL_law 296 = .ok (.if_icmp .eq 490, 3) := by decide +kernel
theorem dL_law_299 : decode cL_law 299 = .ok (.iconst 0, 1) := by decide +kernel
theorem dL_law_300 : decode cL_law 300 = .ok (.ireturn, 1) := by decide +kernel
theorem dL_law_301 : decode cL_law 301 = .ok (.aload_n 1, 1) := by decide +kernel
theorem dL_law_302 : decode cL_law 302 = .ok (.aload_n 0, 1) := by decide +kernel
theorem dL_law_303 : decode cL_law 303 = .ok (.iload_n 3, 1) := by decide +kernel
theorem dL_law_304 : decode cL_law 304 = .ok (.iconst 1, 1) := by decide +kernel
theorem dL_law_305 : decode cL_law 305 = .ok (.iadd, 1) := by decide +kernel
theorem dL_law_306 : decode cL_law 306 = .ok (.iaload, 1) := by decide +kernel
theorem dL_law_307 : decode cL_law 307 = .ok (.aload_n 0, 1) := by decide +kernel
theorem dL_law_308 : decode cL_law 308 = .ok (.iload_n 3, 1) := by decide +kernel
theorem dL_law_309 : decode cL_law 309 = .ok (.iconst 2, 1) := by decide +kernel
theorem dL_law_310 : decode cL_law 310 = .ok (.iadd, 1) := by decide +kernel
theorem dL_law_311 : decode cL_law 311 = .ok (.iaload, 1) := by decide +kernel
theorem dL_law_312 : decode cL_law 312 = .ok (.invokevirtual 36, 3) := by decide +kernel
theorem dL_law_315 : decode cL_law 315 = .ok (.aload_n 2, 1) := by decide +kernel
theorem dL_law_316 : decode cL_law 316 = .ok (.aload_n 0, 1) := by decide +kernel
theorem dL_law_317 : decode cL_law 317 = .ok (.iload_n 3, 1) := by decide +kernel
theorem dL_law_318 : decode cL_law 318 = .ok (.iconst 1, 1) := by decide +kernel
theorem dL_law_319 : decode cL_law 319 = .ok (.iadd, 1) := by decide +kernel
theorem dL_law_320 : decode cL_law 320 = .ok (.iaload, 1) := by decide +kernel
theorem dL_law_321 : decode cL_law 321 = .ok (.aload_n 0, 1) := by decide +kernel
theorem dL_law_322 : decode cL_law 322 = .ok (.iload_n 3, 1) := by decide +kernel
theorem dL_law_323 : decode cL_law 323 = .ok (.iconst 2, 1) := by decide +kernel
theorem dL_law_324 : decode cL_law 324 = .ok (.iadd, 1) := by decide +kernel
theorem dL_law_325 : decode cL_law 325 = .ok (.iaload, 1) := by decide +kernel
theorem dL_law_326 : decode cL_law 326 = .ok (.invokevirtual 39, 3) := by decide +kernel
theorem dL_law_329 : decode cL_law 329 = .ok (.if_icmp .eq 457, 3) := by decide +kernel
theorem dL_law_332 : decode cL_law 332 = .ok (.iconst 0, 1) := by decide +kernel
theorem dL_law_333 : decode cL_law 333 = .ok (.ireturn, 1) := by decide +kernel
theorem dL_law_334 : decode cL_law 334 = .ok (.aload_n 1, 1) := by decide +kernel
theorem dL_law_335 : decode cL_law 335 = .ok (.aload_n 0, 1) := by decide +kernel
theorem dL_law_336 : decode cL_law 336 = .ok (.iload_n 3, 1) := by decide +kernel
theorem dL_law_337 : decode cL_law 337 = .ok (.iconst 1, 1) := by decide +kernel
theorem dL_law_338 : decode cL_law 338 = .ok (.iadd, 1) := by decide +kernel
theorem dL_law_339 : decode cL_law 339 = .ok (.iaload, 1) := by decide +kernel
theorem dL_law_340 : decode cL_law 340 = .ok (.invokevirtual 40, 3) := by decide +kernel
theorem dL_law_343 : decode cL_law 343 = .ok (.aload_n 2, 1) := by decide +kernel
theorem dL_law_344 : decode cL_law 344 = .ok (.aload_n 0, 1) := by decide +kernel
theorem dL_law_345 : decode cL_law 345 = .ok (.iload_n 3, 1) := by decide +kernel
theorem dL_law_346 : decode cL_law 346 = .ok (.iconst 1, 1) := by decide +kernel
theorem dL_law_347 : decode cL_law 347 = .ok (.iadd, 1) := by decide +kernel
theorem dL_law_348 : decode cL_law 348 = .ok (.iaload, 1) := by decide +kernel
theorem dL_law_349 : decode cL_law 349 = .ok (.invokevirtual 43, 3) := by decide +kernel
theorem dL_law_352 : decode cL_law 352 = .ok (.if_icmp .eq 434, 3) := by decide +kernel
theorem dL_law_355 : decode cL_law 355 = .ok (.iconst 0, 1) := by decide +kernel
theorem dL_law_356 : decode cL_law 356 = .ok (.ireturn, 1) := by decide +kernel
theorem dL_law_357 : decode cL_law 357 = .ok (.aload_n 1, 1) := by decide +kernel
theorem dL_law_358 : decode cL_law 358 = .ok (.aload_n 0, 1) := by decide +kernel
theorem dL_law_359 : decode cL_law 359 = .ok (.iload_n 3, 1) := by decide +kernel
theorem dL_law_360 : decode cL_law 360 = .ok (.iconst 1, 1) := by decide +kernel
theorem dL_law_361 : decode cL_law 361 = .ok (.iadd, 1) := by decide +kernel
theorem dL_law_362 : decode cL_law 362 = .ok (.iaload, 1) := by decide +kernel
theorem dL_law_363 : decode cL_law 363 = .ok (.invokevirtual 44, 3) := by decide +kernel
theorem dL_law_366 : decode cL_law 366 = .ok (.aload_n 2, 1) := by decide +kernel
theorem dL_law_367 : decode cL_law 367 = .ok (.aload_n 0, 1) := by decide +kernel
theorem dL_law_368 : decode cL_law 368 = .ok (.iload_n 3, 1) := by decide +kernel
theorem dL_law_369 : decode cL_law 369 = .ok (.iconst 1, 1) := by decide +kernel
theorem dL_law_370 : decode cL_law 370 = .ok (.iadd, 1) := by decide +kernel
theorem dL_law_371 : decode cL_law 371 = .ok (.iaload, 1) := by decide +kernel
theorem dL_law_372 : decode cL_law 372 = .ok (.invokevirtual 47, 3) := by decide +kernel
theorem dL_law_375 : decode cL_law 375 = .ok (.if_icmp .eq 411, 3) := by decide +kernel
theorem dL_law_378 : decode cL_law 378 = .ok (.iconst 0, 1) := by decide +kernel
theorem dL_law_379 : decode cL_law 379 = .ok (.ireturn, 1) := by decide +kernel
theorem dL_law_380 : decode cL_law 380 = .ok (.aload_n 1, 1) := by decide +kernel
theorem dL_law_381 : decode cL_law 381 = .ok (.invokevirtual 48, 3) := by decide +kernel
theorem dL_law_384 : decode cL_law 384 = .ok (.aload_n 2, 1) := by decide +kernel
theorem dL_law_385 : decode cL_law 385 = .ok (.invokevirtual 52, 3) := by decide +kernel
theorem dL_law_388 : decode cL_law 388 = .ok (.if_icmp .eq 398, 3) := by decide +kernel
theorem dL_law_391 : decode cL_law 391 = .ok (.iconst 0, 1) := by decide +kernel
theorem dL_law_392 : decode cL_law 392 = .ok (.ireturn, 1) := by decide +kernel
theorem dL_law_393 : decode cL_law 393 = .ok (.aload_n 1, 1) := by decide +kernel
theorem dL_law_394 : decode cL_law 394 = .ok (.aload_n 0, 1) := by decide +kernel
theorem dL_law_395 : decode cL_law 395 = .ok (.iload_n 3, 1) := by decide +kernel
theorem dL_law_396 : decode cL_law 396 = .ok (.iconst 1, 1) := by decide +kernel
theorem dL_law_397 : decode cL_law 397 = .ok (.iadd, 1) := by decide +kernel
theorem dL_law_398 : decode cL_law 398 = .ok (.iaload, 1) := by decide +kernel
theorem dL_law_399 : decode cL_law 399 = .ok (.aload_n 0, 1) := by decide +kernel
theorem dL_law_400 : decode cL_law 400 = .ok (.iload_n 3, 1) := by decide +kernel
theorem dL_law_401 : decode cL_law 401 = .ok (.iconst 2, 1) := by decide +kernel
theorem dL_law_402 : decode cL_law 402 = .ok (.iadd, 1) := by decide +kernel
theorem dL_law_403 : decode cL_law 403 = .ok (.iaload, 1) := by decide +kernel
theorem dL_law_404 : decode cL_law 404 = .ok (.aload_n 0, 1) := by decide +kernel
theorem dL_law_405 : decode cL_law 405 = .ok (.iload_n 3, 1) := by decide +kernel
theorem dL_law_406 : decode cL_law 406 = .ok (.iconst 3, 1) := by decide +kernel
theorem dL_law_407 : decode cL_law 407 = .ok (.iadd, 1) := by decide +kernel
theorem dL_law_408 : decode cL_law 408 = .ok (.iaload, 1) := by decide +kernel
theorem dL_law_409 : decode cL_law 409 = .ok (.invokevirtual 53, 3) := by decide +kernel
theorem dL_law_412 : decode cL_law 412 = .ok (.aload_n 2, 1) := by decide +kernel
theorem dL_law_413 : decode cL_law 413 = .ok (.aload_n 0, 1) := by decide +kernel
theorem dL_law_414 : decode cL_law 414 = .ok (.iload_n 3, 1) := by decide +kernel
theorem dL_law_415 : decode cL_law 415 = .ok (.iconst 1, 1) := by decide +kernel
theorem dL_law_416 : decode cL_law 416 = .ok (.iadd, 1) := by decide +kernel
theorem dL_law_417 : decode cL_law 417 = .ok (.iaload, 1) := by decide +kernel
theorem dL_law_418 : decode cL_law 418 = .ok (.aload_n 0, 1) := by decide +kernel
theorem dL_law_419 : decode cL_law 419 = .ok (.iload_n 3, 1) := by decide +kernel
theorem dL_law_420 : decode cL_law 420 = .ok (.iconst 2, 1) := by decide +kernel
theorem dL_law_421 : decode cL_law 421 = .ok (.iadd, 1) := by decide +kernel
theorem dL_law_422 : decode cL_law 422 = .ok (.iaload, 1) := by decide +kernel
theorem dL_law_423 : decode cL_law 423 = .ok (.aload_n 0, 1) := by decide +kernel
theorem dL_law_424 : decode cL_law 424 = .ok (.iload_n 3, 1) := by decide +kernel
theorem dL_law_425 : decode cL_law 425 = .ok (.iconst 3, 1) := by decide +kernel
theorem dL_law_426 : decode cL_law 426 = .ok (.iadd, 1) := by decide +kernel
theorem dL_law_427 : decode cL_law 427 = .ok (.iaload, 1) := by decide +kernel
theorem dL_law_428 : decode cL_law 428 = .ok (.invokevirtual 57, 3) := by decide +kernel
theorem dL_law_431 : decode cL_law 431 = .ok (.if_icmp .eq 355, 3) := by decide +kernel
theorem dL_law_434 : decode cL_law 434 = .ok (.iconst 0, 1) := by decide +kernel
theorem dL_law_435 : decode cL_law 435 = .ok (.ireturn, 1) := by decide +kernel
theorem dL_law_436 : decode cL_law 436 = .ok (.aload_n 1, 1) := by decide +kernel
theorem dL_law_437 : decode cL_law 437 = .ok (.aload_n 0, 1) := by decide +kernel
theorem dL_law_438 : decode cL_law 438 = .ok (.iload_n 3, 1) := by decide +kernel
theorem dL_law_439 : decode cL_law 439 = .ok (.iconst 1, 1) := by decide +kernel
theorem dL_law_440 : decode cL_law 440 = .ok (.iadd, 1) := by decide +kernel
theorem dL_law_441 : decode cL_law 441 = .ok (.iaload, 1) := by decide +kernel
theorem dL_law_442 : decode cL_law 442 = .ok (.invokevirtual 58, 3) := by decide +kernel
theorem dL_law_445 : decode cL_law 445 = .ok (.aload_n 2, 1) := by decide +kernel
theorem dL_law_446 : decode cL_law 446 = .ok (.aload_n 0, 1) := by decide +kernel
theorem dL_law_447 : decode cL_law 447 = .ok (.iload_n 3, 1) := by decide +kernel
theorem dL_law_448 : decode cL_law 448 = .ok (.iconst 1, 1) := by decide +kernel
theorem dL_law_449 : decode cL_law 449 = .ok (.iadd, 1) := by decide +kernel
theorem dL_law_450 : decode cL_law 450 = .ok (.iaload, 1) := by decide +kernel
theorem dL_law_451 : decode cL_law 451 = .ok (.invokevirtual 61, 3) := by decide +kernel
theorem dL_law_454 : decode cL_law 454 = .ok (.if_icmp .eq 332, 3) := by decide +kernel
theorem dL_law_457 : decode cL_law 457 = .ok (.iconst 0, 1) := by decide +kernel
theorem dL_law_458 : decode cL_law 458 = .ok (.ireturn, 1) := by decide +kernel
theorem dL_law_459 : decode cL_law 459 = .ok (.aload_n 1, 1) := by decide +kernel
theorem dL_law_460 : decode cL_law 460 = .ok (.aload_n 0, 1) := by decide +kernel
theorem dL_law_461 : decode cL_law 461 = .ok (.iload_n 3, 1) := by decide +kernel
theorem dL_law_462 : decode cL_law 462 = .ok (.iconst 1, 1) := by decide +kernel
theorem dL_law_463 : decode cL_law 463 = .ok (.iadd, 1) := by decide +kernel
theorem dL_law_464 : decode cL_law 464 = .ok (.iaload, 1) := by decide +kernel
theorem dL_law_465 : decode cL_law 465 = .ok (.aload_n 0, 1) := by decide +kernel
theorem dL_law_466 : decode cL_law 466 = .ok (.iload_n 3, 1) := by decide +kernel
theorem dL_law_467 : decode cL_law 467 = .ok (.iconst 2, 1) := by decide +kernel
theorem dL_law_468 : decode cL_law 468 = .ok (.iadd, 1) := by decide +kernel
theorem dL_law_469 : decode cL_law 469 = .ok (.iaload, 1) := by decide +kernel
theorem dL_law_470 : decode cL_law 470 = .ok (.aload_n 0, 1) := by decide +kernel
theorem dL_law_471 : decode cL_law 471 = .ok (.iload_n 3, 1) := by decide +kernel
theorem dL_law_472 : decode cL_law 472 = .ok (.iconst 3, 1) := by decide +kernel
theorem dL_law_473 : decode cL_law 473 = .ok (.iadd, 1) := by decide +kernel
theorem dL_law_474 : decode cL_law 474 = .ok (.iaload, 1) := by decide +kernel
theorem dL_law_475 : decode cL_law 475 = .ok (.invokevirtual 62, 3) := by decide +kernel
theorem dL_law_478 : decode cL_law 478 = .ok (.aload_n 2, 1) := by decide +kernel
theorem dL_law_479 : decode cL_law 479 = .ok (.aload_n 0, 1) := by decide +kernel
theorem dL_law_480 : decode cL_law 480 = .ok (.iload_n 3, 1) := by decide +kernel
theorem dL_law_481 : decode cL_law 481 = .ok (.iconst 1, 1) := by decide +kernel
theorem dL_law_482 : decode cL_law 482 = .ok (.iadd, 1) := by decide +kernel
theorem dL_law_483 : decode cL_law 483 = .ok (.iaload, 1) := by decide +kernel
theorem dL_law_484 : decode cL_law 484 = .ok (.aload_n 0, 1) := by decide +kernel
theorem dL_law_485 : decode cL_law 485 = .ok (.iload_n 3, 1) := by decide +kernel
theorem dL_law_486 : decode cL_law 486 = .ok (.iconst 2, 1) := by decide +kernel
theorem dL_law_487 : decode cL_law 487 = .ok (.iadd, 1) := by decide +kernel
theorem dL_law_488 : decode cL_law 488 = .ok (.iaload, 1) := by decide +kernel
theorem dL_law_489 : decode cL_law 489 = .ok (.aload_n 0, 1) := by decide +kernel
theorem dL_law_490 : decode cL_law 490 = .ok (.iload_n 3, 1) := by decide +kernel
theorem dL_law_491 : decode cL_law 491 = .ok (.iconst 3, 1) := by decide +kernel
theorem dL_law_492 : decode cL_law 492 = .ok (.iadd, 1) := by decide +kernel
theorem dL_law_493 : decode cL_law 493 = .ok (.iaload, 1) := by decide +kernel
theorem dL_law_494 : decode cL_law 494 = .ok (.invokevirtual 65, 3) := by decide +kernel
theorem dL_law_497 : decode cL_law 497 = .ok (.if_icmp .eq 289, 3) := by decide +kernel
theorem dL_law_500 : decode cL_law 500 = .ok (.iconst 0, 1) := by decide +kernel
theorem dL_law_501 : decode cL_law 501 = .ok (.ireturn, 1) := by decide +kernel
theorem dL_law_502 : decode cL_law 502 = .ok (.aload_n 1, 1) := by decide +kernel
theorem dL_law_503 : decode cL_law 503 = .ok (.aload_n 0, 1) := by decide +kernel
theorem dL_law_504 : decode cL_law 504 = .ok (.iload_n 3, 1) := by decide +kernel
theorem dL_law_505 : decode cL_law 505 = .ok (.iconst 1, 1) := by decide +kernel
theorem dL_law_506 : decode cL_law 506 = .ok (.iadd, 1) := by decide +kernel
theorem dL_law_507 : decode cL_law 507 = .ok (.iaload, 1) := by decide +kernel
theorem dL_law_508 : decode cL_law 508 = .ok (.aload_n 0, 1) := by decide +kernel
theorem dL_law_509 : decode cL_law 509 = .ok (.iload_n 3, 1) := by decide +kernel
theorem dL_law_510 : decode cL_law 510 = .ok (.iconst 2, 1) := by decide +kernel
theorem dL_law_511 : decode cL_law 511 = .ok (.iadd, 1) := by decide +kernel
theorem dL_law_512 : decode cL_law 512 = .ok (.iaload, 1) := by decide +kernel
theorem dL_law_513 : decode cL_law 513 = .ok (.invokevirtual 66, 3) := by decide +kernel
theorem dL_law_516 : decode cL_law 516 = .ok (.aload_n 2, 1) := by decide +kernel
theorem dL_law_517 : decode cL_law 517 = .ok (.aload_n 0, 1) := by decide +kernel
theorem dL_law_518 : decode cL_law 518 = .ok (.iload_n 3, 1) := by decide +kernel
theorem dL_law_519 : decode cL_law 519 = .ok (.iconst 1, 1) := by decide +kernel
theorem dL_law_520 : decode cL_law 520 = .ok (.iadd, 1) := by decide +kernel
theorem dL_law_521 : decode cL_law 521 = .ok (.iaload, 1) := by decide +kernel
theorem dL_law_522 : decode cL_law 522 = .ok (.aload_n 0, 1) := by decide +kernel
theorem dL_law_523 : decode cL_law 523 = .ok (.iload_n 3, 1) := by decide +kernel
theorem dL_law_524 : decode cL_law 524 = .ok (.iconst 2, 1) := by decide +kernel
theorem dL_law_525 : decode cL_law 525 = .ok (.iadd, 1) := by decide +kernel
theorem dL_law_526 : decode cL_law 526 = .ok (.iaload, 1) := by decide +kernel
theorem dL_law_527 : decode cL_law 527 = .ok (.invokevirtual 69, 3) := by decide +kernel
theorem dL_law_530 : decode cL_law 530 = .ok (.if_icmp .eq 256, 3) := by decide +kernel
theorem dL_law_533 : decode cL_law 533 = .ok (.iconst 0, 1) := by decide +kernel
theorem dL_law_534 : decode cL_law 534 = .ok (.ireturn, 1) := by decide +kernel
theorem dL_law_535 : decode cL_law 535 = .ok (.aload_n 1, 1) := by decide +kernel
theorem dL_law_536 : decode cL_law 536 = .ok (.aload_n 0, 1) := by decide +kernel
theorem dL_law_537 : decode cL_law 537 = .ok (.iload_n 3, 1) := by decide +kernel
theorem dL_law_538 : decode cL_law 538 = .ok (.iconst 1, 1) := by decide +kernel
theorem dL_law_539 : decode cL_law 539 = .ok (.iadd, 1) := by decide +kernel
theorem dL_law_540 : decode cL_law 540 = .ok (.iaload, 1) := by decide +kernel
theorem dL_law_541 : decode cL_law 541 = .ok (.aload_n 0, 1) := by decide +kernel
theorem dL_law_542 : decode cL_law 542 = .ok (.iload_n 3, 1) := by decide +kernel
theorem dL_law_543 : decode cL_law 543 = .ok (.iconst 2, 1) := by decide +kernel
theorem dL_law_544 : decode cL_law 544 = .ok (.iadd, 1) := by decide +kernel
theorem dL_law_545 : decode cL_law 545 = .ok (.iaload, 1) := by decide +kernel
theorem dL_law_546 : decode cL_law 546 = .ok (.aload_n 0, 1) := by decide +kernel
theorem dL_law_547 : decode cL_law 547 = .ok (.iload_n 3, 1) := by decide +kernel
theorem dL_law_548 : decode cL_law 548 = .ok (.iconst 3, 1) := by decide +kernel
theorem dL_law_549 : decode cL_law 549 = .ok (.iadd, 1) := by decide +kernel
theorem dL_law_550 : decode cL_law 550 = .ok (.iaload, 1) := by decide +kernel
theorem dL_law_551 : decode cL_law 551 = .ok (.invokevirtual 70, 3) := by decide +kernel
theorem dL_law_554 : decode cL_law 554 = .ok (.aload_n 2, 1) := by decide +kernel
theorem dL_law_555 : decode cL_law 555 = .ok (.aload_n 0, 1) := by decide +kernel
theorem dL_law_556 : decode cL_law 556 = .ok (.iload_n 3, 1) := by decide +kernel
theorem dL_law_557 : decode cL_law 557 = .ok (.iconst 1, 1) := by decide +kernel
theorem dL_law_558 : decode cL_law 558 = .ok (.iadd, 1) := by decide +kernel
theorem dL_law_559 : decode cL_law 559 = .ok (.iaload, 1) := by decide +kernel
theorem dL_law_560 : decode cL_law 560 = .ok (.aload_n 0, 1) := by decide +kernel
theorem dL_law_561 : decode cL_law 561 = .ok (.iload_n 3, 1) := by decide +kernel
theorem dL_law_562 : decode cL_law 562 = .ok (.iconst 2, 1) := by decide +kernel
theorem dL_law_563 : decode cL_law 563 = .ok (.iadd, 1) := by decide +kernel
theorem dL_law_564 : decode cL_law 564 = .ok (.iaload, 1) := by decide +kernel
theorem dL_law_565 : decode cL_law 565 = .ok (.aload_n 0, 1) := by decide +kernel
theorem dL_law_566 : decode cL_law 566 = .ok (.iload_n 3, 1) := by decide +kernel
theorem dL_law_567 : decode cL_law 567 = .ok (.iconst 3, 1) := by decide +kernel
theorem dL_law_568 : decode cL_law 568 = .ok (.iadd, 1) := by decide +kernel
theorem dL_law_569 : decode cL_law 569 = .ok (.iaload, 1) := by decide +kernel
theorem dL_law_570 : decode cL_law 570 = .ok (.invokevirtual 73, 3) := by decide +kernel
theorem dL_law_573 : decode cL_law 573 = .ok (.if_icmp .eq 213, 3) := by decide +kernel
theorem dL_law_576 : decode cL_law 576 = .ok (.iconst 0, 1) := by decide +kernel
theorem dL_law_577 : decode cL_law 577 = .ok (.ireturn, 1) := by decide +kernel
theorem dL_law_578 : decode cL_law 578 = .ok (.aload_n 1, 1) := by decide +kernel
theorem dL_law_579 : decode cL_law 579 = .ok (.aload_n 0, 1) := by decide +kernel
theorem dL_law_580 : decode cL_law 580 = .ok (.iload_n 3, 1) := by decide +kernel
theorem dL_law_581 : decode cL_law 581 = .ok (.iconst 1, 1) := by decide +kernel
theorem dL_law_582 : decode cL_law 582 = .ok (.iadd, 1) := by decide +kernel
theorem dL_law_583 : decode cL_law 583 = .ok (.iaload, 1) := by decide +kernel
theorem dL_law_584 : decode cL_law 584 = .ok (.aload_n 0, 1) := by decide +kernel
theorem dL_law_585 : decode cL_law 585 = .ok (.iload_n 3, 1) := by decide +kernel
theorem dL_law_586 : decode cL_law 586 = .ok (.iconst 2, 1) := by decide +kernel
theorem dL_law_587 : decode cL_law 587 = .ok (.iadd, 1) := by decide +kernel
theorem dL_law_588 : decode cL_law 588 = .ok (.iaload, 1) := by decide +kernel
theorem dL_law_589 : decode cL_law 589 = .ok (.invokevirtual 74, 3) := by decide +kernel
theorem dL_law_592 : decode cL_law 592 = .ok (.aload_n 2, 1) := by decide +kernel
theorem dL_law_593 : decode cL_law 593 = .ok (.aload_n 0, 1) := by decide +kernel
theorem dL_law_594 : decode cL_law 594 = .ok (.iload_n 3, 1) := by decide +kernel
theorem dL_law_595 : decode cL_law 595 = .ok (.iconst 1, 1) := by decide +kernel
theorem dL_law_596 : decode cL_law 596 = .ok (.iadd, 1) := by decide +kernel
theorem dL_law_597 : decode cL_law 597 = .ok (.iaload, 1) := by decide +kernel
theorem dL_law_598 : decode cL_law 598 = .ok (.aload_n 0, 1) := by decide +kernel
theorem dL_law_599 : decode cL_law 599 = .ok (.iload_n 3, 1) := by decide +kernel
theorem dL_law_600 : decode cL_law 600 = .ok (.iconst 2, 1) := by decide +kernel
theorem dL_law_601 : decode cL_law 601 = .ok (.iadd, 1) := by decide +kernel
theorem dL_law_602 : decode cL_law 602 = .ok (.iaload, 1) := by decide +kernel
theorem dL_law_603 : decode cL_law 603 = .ok (.invokevirtual 77, 3) := by decide +kernel
theorem dL_law_606 : decode cL_law 606 = .ok (.if_icmp .eq 180, 3) := by decide +kernel
theorem dL_law_609 : decode cL_law 609 = .ok (.iconst 0, 1) := by decide +kernel
theorem dL_law_610 : decode cL_law 610 = .ok (.ireturn, 1) := by decide +kernel
theorem dL_law_611 : decode cL_law 611 = .ok (.aload_n 1, 1) := by decide +kernel
theorem dL_law_612 : decode cL_law 612 = .ok (.aload_n 0, 1) := by decide +kernel
theorem dL_law_613 : decode cL_law 613 = .ok (.iload_n 3, 1) := by decide +kernel
theorem dL_law_614 : decode cL_law 614 = .ok (.iconst 1, 1) := by decide +kernel
theorem dL_law_615 : decode cL_law 615 = .ok (.iadd, 1) := by decide +kernel
theorem dL_law_616 : decode cL_law 616 = .ok (.iaload, 1) := by decide +kernel
theorem dL_law_617 : decode cL_law 617 = .ok (.invokevirtual 78, 3) := by decide +kernel
theorem dL_law_620 : decode cL_law 620 = .ok (.aload_n 2, 1) := by decide +kernel
theorem dL_law_621 : decode cL_law 621 = .ok (.aload_n 0, 1) := by decide +kernel
theorem dL_law_622 : decode cL_law 622 = .ok (.iload_n 3, 1) := by decide +kernel
theorem dL_law_623 : decode cL_law 623 = .ok (.iconst 1, 1) := by decide +kernel
theorem dL_law_624 : decode cL_law 624 = .ok (.iadd, 1) := by decide +kernel
theorem dL_law_625 : decode cL_law 625 = .ok (.iaload, 1) := by decide +kernel
theorem dL_law_626 : decode cL_law 626 = .ok (.invokevirtual 81, 3) := by decide +kernel
theorem dL_law_629 : decode cL_law 629 = .ok (.if_icmp .eq 157, 3) := by decide +kernel
theorem dL_law_632 : decode cL_law 632 = .ok (.iconst 0, 1) := by decide +kernel
theorem dL_law_633 : decode cL_law 633 = .ok (.ireturn, 1) := by decide +kernel
theorem dL_law_634 : decode cL_law 634 = .ok (.aload_n 1, 1) := by decide +kernel
theorem dL_law_635 : decode cL_law 635 = .ok (.aload_n 0, 1) := by decide +kernel
theorem dL_law_636 : decode cL_law 636 = .ok (.iload_n 3, 1) := by decide +kernel
theorem dL_law_637 : decode cL_law 637 = .ok (.iconst 1, 1) := by decide +kernel
theorem dL_law_638 : decode cL_law 638 = .ok (.iadd, 1) := by decide +kernel
theorem dL_law_639 : decode cL_law 639 = .ok (.iaload, 1) := by decide +kernel
theorem dL_law_640 : decode cL_law 640 = .ok (.aload_n 0, 1) := by decide +kernel
theorem dL_law_641 : decode cL_law 641 = .ok (.iload_n 3, 1) := by decide +kernel
theorem dL_law_642 : decode cL_law 642 = .ok (.iconst 2, 1) := by decide +kernel
theorem dL_law_643 : decode cL_law 643 = .ok (.iadd, 1) := by decide +kernel
theorem dL_law_644 : decode cL_law 644 = .ok (.iaload, 1) := by decide +kernel
theorem dL_law_645 : decode cL_law 645 = .ok (.invokevirtual 82, 3) := by decide +kernel
theorem dL_law_648 : decode cL_law 648 = .ok (.aload_n 2, 1) := by decide +kernel
theorem dL_law_649 : decode cL_law 649 = .ok (.aload_n 0, 1) := by decide +kernel
theorem dL_law_650 : decode cL_law 650 = .ok (.iload_n 3, 1) := by decide +kernel
theorem dL_law_651 : decode cL_law 651 = .ok (.iconst 1, 1) := by decide +kernel
theorem dL_law_652 : decode cL_law 652 = .ok (.iadd, 1) := by decide +kernel
theorem dL_law_653 : decode cL_law 653 = .ok (.iaload, 1) := by decide +kernel
theorem dL_law_654 : decode cL_law 654 = .ok (.aload_n 0, 1) := by decide +kernel
theorem dL_law_655 : decode cL_law 655 = .ok (.iload_n 3, 1) := by decide +kernel
theorem dL_law_656 : decode cL_law 656 = .ok (.iconst 2, 1) := by decide +kernel
theorem dL_law_657 : decode cL_law 657 = .ok (.iadd, 1) := by decide +kernel
theorem dL_law_658 : decode cL_law 658 = .ok (.iaload, 1) := by decide +kernel
theorem dL_law_659 : decode cL_law 659 = .ok (.invokevirtual 85, 3) := by decide +kernel
theorem dL_law_662 : decode cL_law 662 = .ok (.if_icmp .eq 124, 3) := by decide +kernel
theorem dL_law_665 : decode cL_law 665 = .ok (.iconst 0, 1) := by decide +kernel
theorem dL_law_666 : decode cL_law 666 = .ok (.ireturn, 1) := by decide +kernel
theorem dL_law_667 : decode cL_law 667 = .ok (.aload_n 1, 1) := by decide +kernel
theorem dL_law_668 : decode cL_law 668 = .ok (.aload_n 0, 1) := by decide +kernel
theorem dL_law_669 : decode cL_law 669 = .ok (.iload_n 3, 1) := by decide +kernel
theorem dL_law_670 : decode cL_law 670 = .ok (.iconst 1, 1) := by decide +kernel
theorem dL_law_671 : decode cL_law 671 = .ok (.iadd, 1) := by decide +kernel
theorem dL_law_672 : decode cL_law 672 = .ok (.iaload, 1) := by decide +kernel
theorem dL_law_673 : decode cL_law 673 = .ok (.invokevirtual 86, 3) := by decide +kernel
theorem dL_law_676 : decode cL_law 676 = .ok (.aload_n 2, 1) := by decide +kernel
theorem dL_law_677 : decode cL_law 677 = .ok (.aload_n 0, 1) := by decide +kernel
theorem dL_law_678 : decode cL_law 678 = .ok (.iload_n 3, 1) := by decide +kernel
theorem dL_law_679 : decode cL_law 679 = .ok (.iconst 1, 1) := by decide +kernel
theorem dL_law_680 : decode cL_law 680 = .ok (.iadd, 1) := by decide +kernel
theorem dL_law_681 : decode cL_law 681 = .ok (.iaload, 1) := by decide +kernel
theorem dL_law_682 : decode cL_law 682 = .ok (.invokevirtual 89, 3) := by decide +kernel
theorem dL_law_685 : decode cL_law 685 = .ok (.if_icmp .eq 101, 3) := by decide +kernel
theorem dL_law_688 : decode cL_law 688 = .ok (.iconst 0, 1) := by decide +kernel
theorem dL_law_689 : decode cL_law 689 = .ok (.ireturn, 1) := by decide +kernel
theorem dL_law_690 : decode cL_law 690 = .ok (.aload_n 1, 1) := by decide +kernel
theorem dL_law_691 : decode cL_law 691 = .ok (.aload_n 0, 1) := by decide +kernel
theorem dL_law_692 : decode cL_law 692 = .ok (.iload_n 3, 1) := by decide +kernel
theorem dL_law_693 : decode cL_law 693 = .ok (.iconst 1, 1) := by decide +kernel
theorem dL_law_694 : decode cL_law 694 = .ok (.iadd, 1) := by decide +kernel
theorem dL_law_695 : decode cL_law 695 = .ok (.iaload, 1) := by decide +kernel
theorem dL_law_696 : decode cL_law 696 = .ok (.invokevirtual 90, 3) := by decide +kernel
theorem dL_law_699 : decode cL_law 699 = .ok (.aload_n 2, 1) := by decide +kernel
theorem dL_law_700 : decode cL_law 700 = .ok (.aload_n 0, 1) := by decide +kernel
theorem dL_law_701 : decode cL_law 701 = .ok (.iload_n 3, 1) := by decide +kernel
theorem dL_law_702 : decode cL_law 702 = .ok (.iconst 1, 1) := by decide +kernel
theorem dL_law_703 : decode cL_law 703 = .ok (.iadd, 1) := by decide +kernel
theorem dL_law_704 : decode cL_law 704 = .ok (.iaload, 1) := by decide +kernel
theorem dL_law_705 : decode cL_law 705 = .ok (.invokevirtual 93, 3) := by decide +kernel
theorem dL_law_708 : decode cL_law 708 = .ok (.if_icmp .eq 78, 3) := by decide +kernel
theorem dL_law_711 : decode cL_law 711 = .ok (.iconst 0, 1) := by decide +kernel
theorem dL_law_712 : decode cL_law 712 = .ok (.ireturn, 1) := by decide +kernel
theorem dL_law_713 : decode cL_law 713 = .ok (.aload_n 1, 1) := by decide +kernel
theorem dL_law_714 : decode cL_law 714 = .ok (.aload_n 0, 1) := by decide +kernel
theorem dL_law_715 : decode cL_law 715 = .ok (.iload_n 3, 1) := by decide +kernel
theorem dL_law_716 : decode cL_law 716 = .ok (.iconst 1, 1) := by decide +kernel
theorem dL_law_717 : decode cL_law 717 = .ok (.iadd, 1) := by decide +kernel
theorem dL_law_718 : decode cL_law 718 = .ok (.iaload, 1) := by decide +kernel
theorem dL_law_719 : decode cL_law 719 = .ok (.invokevirtual 94, 3) := by decide +kernel
theorem dL_law_722 : decode cL_law 722 = .ok (.aload_n 2, 1) := by decide +kernel
theorem dL_law_723 : decode cL_law 723 = .ok (.aload_n 0, 1) := by decide +kernel
theorem dL_law_724 : decode cL_law 724 = .ok (.iload_n 3, 1) := by decide +kernel
theorem dL_law_725 : decode cL_law 725 = .ok (.iconst 1, 1) := by decide +kernel
theorem dL_law_726 : decode cL_law 726 = .ok (.iadd, 1) := by decide +kernel
theorem dL_law_727 : decode cL_law 727 = .ok (.iaload, 1) := by decide +kernel
theorem dL_law_728 : decode cL_law 728 = .ok (.invokevirtual 97, 3) := by decide +kernel
theorem dL_law_731 : decode cL_law 731 = .ok (.if_icmp .eq 55, 3) := by decide +kernel
theorem dL_law_734 : decode cL_law 734 = .ok (.iconst 0, 1) := by decide +kernel
theorem dL_law_735 : decode cL_law 735 = .ok (.ireturn, 1) := by decide +kernel
theorem dL_law_736 : decode cL_law 736 = .ok (.aload_n 1, 1) := by decide +kernel
theorem dL_law_737 : decode cL_law 737 = .ok (.aload_n 0, 1) := by decide +kernel
theorem dL_law_738 : decode cL_law 738 = .ok (.iload_n 3, 1) := by decide +kernel
theorem dL_law_739 : decode cL_law 739 = .ok (.iconst 1, 1) := by decide +kernel
theorem dL_law_740 : decode cL_law 740 = .ok (.iadd, 1) := by decide +kernel
theorem dL_law_741 : decode cL_law 741 = .ok (.iaload, 1) := by decide +kernel
theorem dL_law_742 : decode cL_law 742 = .ok (.invokevirtual 98, 3) := by decide +kernel
theorem dL_law_745 : decode cL_law 745 = .ok (.aload_n 2, 1) := by decide +kernel
theorem dL_law_746 : decode cL_law 746 = .ok (.aload_n 0, 1) := by decide +kernel
theorem dL_law_747 : decode cL_law 747 = .ok (.iload_n 3, 1) := by decide +kernel
theorem dL_law_748 : decode cL_law 748 = .ok (.iconst 1, 1) := by decide +kernel
theorem dL_law_749 : decode cL_law 749 = .ok (.iadd, 1) := by decide +kernel
theorem dL_law_750 : decode cL_law 750 = .ok (.iaload, 1) := by decide +kernel
theorem dL_law_751 : decode cL_law 751 = .ok (.invokevirtual 101, 3) := by decide +kernel
theorem dL_law_754 : decode cL_law 754 = .ok (.if_icmp .eq 32, 3) := by decide +kernel
theorem dL_law_757 : decode cL_law 757 = .ok (.iconst 0, 1) := by decide +kernel
theorem dL_law_758 : decode cL_law 758 = .ok (.ireturn, 1) := by decide +kernel
theorem dL_law_759 : decode cL_law 759 = .ok (.aload_n 1, 1) := by decide +kernel
theorem dL_law_760 : decode cL_law 760 = .ok (.invokevirtual 102, 3) := by decide +kernel
theorem dL_law_763 : decode cL_law 763 = .ok (.aload_n 2, 1) := by decide +kernel
theorem dL_law_764 : decode cL_law 764 = .ok (.invokevirtual 105, 3) := by decide +kernel
theorem dL_law_767 : decode cL_law 767 = .ok (.if_icmp .eq 19, 3) := by decide +kernel
theorem dL_law_770 : decode cL_law 770 = .ok (.iconst 0, 1) := by decide +kernel
theorem dL_law_771 : decode cL_law 771 = .ok (.ireturn, 1) := by decide +kernel
theorem dL_law_772 : decode cL_law 772 = .ok (.aload_n 1, 1) := by decide +kernel
theorem dL_law_773 : decode cL_law 773 = .ok (.invokevirtual 106, 3) := by decide +kernel
theorem dL_law_776 : decode cL_law 776 = .ok (.aload_n 2, 1) := by decide +kernel
theorem dL_law_777 : decode cL_law 777 = .ok (.invokevirtual 110, 3) := by decide +kernel
theorem dL_law_780 : decode cL_law 780 = .ok (.lcmp, 1) := by decide +kernel
theorem dL_law_781 : decode cL_law 781 = .ok (.ifCond .eq 5, 3) := by decide +kernel
theorem dL_law_784 : decode cL_law 784 = .ok (.iconst 0, 1) := by decide +kernel
theorem dL_law_785 : decode cL_law 785 = .ok (.ireturn, 1) := by decide +kernel
theorem dL_law_786 : decode cL_law 786 = .ok (.iinc 3 4, 3) := by decide +kernel
theorem dL_law_789 : decode cL_law 789 = .ok (.goto (-771), 3) := by decide +kernel
theorem dL_law_792 : decode cL_law 792 = .ok (.iconst 1, 1) := by decide +kernel
theorem dL_law_793 : decode cL_law 793 = .ok (.ireturn, 1) := by decide +kernel
