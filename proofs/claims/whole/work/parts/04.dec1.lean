theorem dX0_init_0 : decode cX0_init 0 = .ok (.aload_n 0, 1) := by decide +kernel
theorem dX0_init_1 : decode cX0_init 1 = .ok (.invokespecial 3, 3) := by decide +kernel
theorem dX0_init_4 : decode cX0_init 4 = .ok (.aload_n 0, 1) := by decide +kernel
theorem dX0_init_5 : decode cX0_init 5 = .ok (.sipush 185, 3) := by decide +kernel
theorem dX0_init_8 : decode cX0_init 8 = .ok (.newarray .int, 2) := by decide +kernel
theorem dX0_init_10 : decode cX0_init 10 = .ok (.putfield 11, 3) := by decide +kernel
theorem dX0_init_13 : decode cX0_init 13 = .ok (.aload_n 0, 1) := by decide +kernel
theorem dX0_init_14 : decode cX0_init 14 = .ok (.sipush 185, 3) := by decide +kernel
theorem dX0_init_17 : decode cX0_init 17 = .ok (.newarray .int, 2) := by decide +kernel
theorem dX0_init_19 : decode cX0_init 19 = .ok (.putfield 15, 3) := by decide +kernel
theorem dX0_init_22 : decode cX0_init 22 = .ok (.aload_n 0, 1) := by decide +kernel
theorem dX0_init_23 : decode cX0_init 23 = .ok (.sipush 185, 3) := by decide +kernel
theorem dX0_init_26 : decode cX0_init 26 = .ok (.newarray .int, 2) := by decide +kernel
theorem dX0_init_28 : decode cX0_init 28 = .ok (.putfield 18, 3) := by decide +kernel
theorem dX0_init_31 : decode cX0_init 31 = .ok (.aload_n 0, 1) := by decide +kernel
theorem dX0_init_32 : decode cX0_init 32 = .ok (.iconst 0, 1) := by decide +kernel
theorem dX0_init_33 : decode cX0_init 33 = .ok (.putfield 21, 3) := by decide +kernel
theorem dX0_init_36 : decode cX0_init 36 = .ok (.return_, 1) := by decide +kernel
theorem dX0_insert_0 : decode cX0_insert 0 = .ok (.aload_n 0, 1) := by decide +kernel
theorem dX0_insert_1 : decode cX0_insert 1 = .ok (.getfield 21, 3) := by decide +kernel
theorem dX0_insert_4 : decode cX0_insert 4 = .ok (.sipush 185, 3) := by decide +kernel
theorem dX0_insert_7 : decode cX0_insert 7 = .ok (.if_icmp .lt 4, 3) := by decide +kernel
theorem dX0_insert_10 : decode cX0_insert 10 = .ok (.return_, 1) := by decide +kernel
theorem dX0_insert_11 : decode cX0_insert 11 = .ok (.aload_n 0, 1) := by decide +kernel
theorem dX0_insert_12 : decode cX0_insert 12 = .ok (.getfield 21, 3) := by decide +kernel
theorem dX0_insert_15 : decode cX0_insert 15 = .ok (.istore 4, 2) := by decide +kernel
theorem dX0_insert_17 : decode cX0_insert 17 = .ok (.iload 4, 2) := by decide +kernel
theorem dX0_insert_19 : decode cX0_insert 19 = .ok (.ifCond .le 70, 3) := by decide +kernel
theorem dX0_insert_22 : decode cX0_insert 22 = .ok (.aload_n 0, 1) := by decide +kernel
theorem dX0_insert_23 : decode cX0_insert 23 = .ok (.iload 4, 2) := by decide +kernel
theorem dX0_insert_25 : decode cX0_insert 25 = .ok (.iconst 1, 1) := by decide +kernel
theorem dX0_insert_26 : decode cX0_insert 26 = .ok (.isub, 1) := by decide +kernel
theorem dX0_insert_27 : decode cX0_insert 27 = .ok (.iload_n 1, 1) := by decide +kernel
theorem dX0_insert_28 : decode cX0_insert 28 = .ok (.iload_n 2, 1) := by decide +kernel
theorem dX0_insert_29 : decode cX0_insert 29 = .ok (.invokevirtual 25, 3) := by decide +kernel
theorem dX0_insert_32 : decode cX0_insert 32 = .ok (.ifCond .eq 57, 3) := by decide +kernel
theorem dX0_insert_35 : decode cX0_insert 35 = .ok (.aload_n 0, 1) := by decide +kernel
theorem dX0_insert_36 : decode cX0_insert 36 = .ok (.getfield 11, 3) := by decide +kernel
theorem dX0_insert_39 : decode cX0_insert 39 = .ok (.iload 4, 2) := by decide +kernel
theorem dX0_insert_41 : decode cX0_insert 41 = .ok (.aload_n 0, 1) := by decide +kernel
theorem dX0_insert_42 : decode cX0_insert 42 = .ok (.getfield 11, 3) := by decide +kernel
theorem dX0_insert_45 : decode cX0_insert 45 = .ok (.iload 4, 2) := by decide +kernel
theorem dX0_insert_47 : decode cX0_insert 47 = .ok (.iconst 1, 1) := by decide +kernel
theorem dX0_insert_48 : decode cX0_insert 48 = .ok (.isub, 1) := by decide +kernel
theorem dX0_insert_49 : decode cX0_insert 49 = .ok (.iaload, 1) := by decide +kernel
theorem dX0_insert_50 : decode cX0_insert 50 = .ok (.iastore, 1) := by decide +kernel
theorem dX0_insert_51 : decode cX0_insert 51 = .ok (.aload_n 0, 1) := by decide +kernel
theorem dX0_insert_52 : decode cX0_insert 52 = .ok (.getfield 15, 3) := by decide +kernel
theorem dX0_insert_55 : decode cX0_insert 55 = .ok (.iload 4, 2) := by decide +kernel
theorem dX0_insert_57 : decode cX0_insert 57 = .ok (.aload_n 0, 1) := by decide +kernel
theorem dX0_insert_58 : decode cX0_insert 58 = .ok (.getfield 15, 3) := by decide +kernel
theorem dX0_insert_61 : decode cX0_insert 61 = .ok (.iload 4, 2) := by decide +kernel
theorem dX0_insert_63 : decode cX0_insert 63 = .ok (.iconst 1, 1) := by decide +kernel
theorem dX0_insert_64 : decode cX0_insert 64 = .ok (.isub, 1) := by decide +kernel
theorem dX0_insert_65 : decode cX0_insert 65 = .ok (.iaload, 1) := by decide +kernel
theorem dX0_insert_66 : decode cX0_insert 66 = .ok (.iastore, 1) := by decide +kernel
theorem dX0_insert_67 : decode cX0_insert 67 = .ok (.aload_n 0, 1) := by decide +kernel
theorem dX0_insert_68 : decode cX0_insert 68 = .ok (.getfield 18, 3) := by decide +kernel
theorem dX0_insert_71 : decode cX0_insert 71 = .ok (.iload 4, 2) := by decide +kernel
theorem dX0_insert_73 : decode cX0_insert 73 = .ok (.aload_n 0, 1) := by decide +kernel
theorem dX0_insert_74 : decode cX0_insert 74 = .ok (.getfield 18, 3) := by decide +kernel
theorem dX0_insert_77 : decode cX0_insert 77 = .ok (.iload 4, 2) := by decide +kernel
theorem dX0_insert_79 : decode cX0_insert 79 = .ok (.iconst 1, 1) := by decide +kernel
theorem dX0_insert_80 : decode cX0_insert 80 = .ok (.isub, 1) := by decide +kernel
theorem dX0_insert_81 : decode cX0_insert 81 = .ok (.iaload, 1) := by decide +kernel
theorem dX0_insert_82 : decode cX0_insert 82 = .ok (.iastore, 1) := by decide +kernel
theorem dX0_insert_83 : decode cX0_insert 83 = .ok (.iinc 4 (-1), 3) := by decide +kernel
theorem dX0_insert_86 : decode cX0_insert 86 = .ok (.goto (-69), 3) := by decide +kernel
theorem dX0_insert_89 : decode cX0_insert 89 = .ok (.aload_n 0, 1) := by decide +kernel
theorem dX0_insert_90 : decode cX0_insert 90 = .ok (.getfield 11, 3) := by decide +kernel
theorem dX0_insert_93 : decode cX0_insert 93 = .ok (.iload 4, 2) := by decide +kernel
theorem dX0_insert_95 : decode cX0_insert 95 = .ok (.iload_n 1, 1) := by decide +kernel
theorem dX0_insert_96 : decode cX0_insert 96 = .ok (.iastore, 1) := by decide +kernel
theorem dX0_insert_97 : decode cX0_insert 97 = .ok (.aload_n 0, 1) := by decide +kernel
theorem dX0_insert_98 : decode cX0_insert 98 = .ok (.getfield 15, 3) := by decide +kernel
theorem dX0_insert_101 : decode cX0_insert 101 = .ok (.iload 4, 2) := by decide +kernel
theorem dX0_insert_103 : decode cX0_insert 103 = .ok (.iload_n 2, 1) := by decide +kernel
theorem dX0_insert_104 : decode cX0_insert 104 = .ok (.iastore, 1) := by decide +kernel
theorem dX0_insert_105 : decode cX0_insert 105 = .ok (.aload_n 0, 1) := by decide +kernel
theorem dX0_insert_106 : decode cX0_insert 106 = .ok (.getfield 18, 3) := by decide +kernel
theorem dX0_insert_109 : decode cX0_insert 109 = .ok (.iload 4, 2) := by decide +kernel
theorem dX0_insert_111 : decode cX0_insert 111 = .ok (.iload_n 3, 1) := by decide +kernel
theorem dX0_insert_112 : decode cX0_insert 112 = .ok (.iastore, 1) := by decide +kernel
theorem dX0_insert_113 : decode cX0_insert 113 = .ok (.aload_n 0, 1) := by decide +kernel
theorem dX0_insert_114 : decode cX0_insert 114 = .ok (.dup, 1) := by decide +kernel
theorem dX0_insert_115 : decode cX0_insert 115 = .ok (.getfield 21, 3) := by decide +kernel
theorem dX0_insert_118 : decode cX0_insert 118 = .ok (.iconst 1, 1) := by decide +kernel
theorem dX0_insert_119 : decode cX0_insert 119 = .ok (.iadd, 1) := by decide +kernel
theorem dX0_insert_120 : decode cX0_insert 120 = .ok (.putfield 21, 3) := by decide +kernel
theorem dX0_insert_123 : decode cX0_insert 123 = .ok (.return_, 1) := by decide +kernel
theorem dX0_isBehind_0 : decode cX0_isBehind 0 = .ok (.aload_n 0, 1) := by decide +kernel
theorem dX0_isBehind_1 : decode cX0_isBehind 1 = .ok (.getfield 11, 3) := by decide +kernel
theorem dX0_isBehind_4 : decode cX0_isBehind 4 = .ok (.iload_n 1, 1) := by decide +kernel
theorem dX0_isBehind_5 : decode cX0_isBehind 5 = .ok (.iaload, 1) := by decide +kernel
theorem dX0_isBehind_6 : decode cX0_isBehind 6 = .ok (.iload_n 2, 1) := by decide +kernel
theorem dX0_isBehind_7 : decode cX0_isBehind 7 = .ok (.if_icmp .gt 23, 3) := by decide +kernel
theorem dX0_isBehind_10 : decode cX0_isBehind 10 = .ok (.aload_n 0, 1) := by decide +kernel
theorem dX0_isBehind_11 : decode cX0_isBehind 11 = .ok (.getfield 11, 3) := by decide +kernel
theorem dX0_isBehind_14 : decode cX0_isBehind 14 = .ok (.iload_n 1, 1) := by decide +kernel
theorem dX0_isBehind_15 : decode cX0_isBehind 15 = .ok (.iaload, 1) := by decide +kernel
theorem dX0_isBehind_16 : decode cX0_isBehind 16 = .ok (.iload_n 2, 1) := by decide +kernel
theorem dX0_isBehind_17 : decode cX0_isBehind 17 = .ok (.if_icmp .ne 17, 3) := by decide +kernel
theorem dX0_isBehind_20 : decode cX0_isBehind 20 = .ok (.aload_n 0, 1) := by decide +kernel
theorem dX0_isBehind_21 : decode cX0_isBehind 21 = .ok (.getfield 15, 3) := by decide +kernel
theorem dX0_isBehind_24 : decode cX0_isBehind 24 = .ok (.iload_n 1, 1) := by decide +kernel
theorem dX0_isBehind_25 : decode cX0_isBehind 25 = .ok (.iaload, 1) := by decide +kernel
theorem dX0_isBehind_26 : decode cX0_isBehind 26 = .ok (.iload_n 3, 1) := by decide +kernel
theorem dX0_isBehind_27 : decode cX0_isBehind 27 = .ok (.if_icmp .le 7, 3) := by decide +kernel
theorem dX0_isBehind_30 : decode cX0_isBehind 30 = .ok (.iconst 1, 1) := by decide +kernel
theorem dX0_isBehind_31 : decode cX0_isBehind 31 = .ok (.goto 4, 3) := by decide +kernel
theorem dX0_isBehind_34 : decode cX0_isBehind 34 = .ok (.iconst 0, 1) := by decide +kernel
theorem dX0_isBehind_35 : decode cX0_isBehind 35 = .ok (.ireturn, 1) := by decide +kernel
theorem dX0_tell_0 : decode cX0_tell 0 = .ok (.iload_n 1, 1) := by decide +kernel
theorem dX0_tell_1 : decode cX0_tell 1 = .ok (.ifCond .lt 11, 3) := by decide +kernel
theorem dX0_tell_4 : decode cX0_tell 4 = .ok (.iload_n 1, 1) := by decide +kernel
theorem dX0_tell_5 : decode cX0_tell 5 = .ok (.aload_n 0, 1) := by decide +kernel
theorem dX0_tell_6 : decode cX0_tell 6 = .ok (.getfield 21, 3) := by decide +kernel
theorem dX0_tell_9 : decode cX0_tell 9 = .ok (.if_icmp .lt 5, 3) := by decide +kernel
theorem dX0_tell_12 : decode cX0_tell 12 = .ok (.iconst (-1), 1) := by decide +kernel
theorem dX0_tell_13 : decode cX0_tell 13 = .ok (.ireturn, 1) := by decide +kernel
theorem dX0_tell_14 : decode cX0_tell 14 = .ok (.iload_n 2, 1) := by decide +kernel
theorem dX0_tell_15 : decode cX0_tell 15 = .ok (.tableswitch 46 0 2 #[25, 32, 39], 25) := by decide +kernel
theorem dX0_tell_40 : decode cX0_tell 40 = .ok (.aload_n 0, 1) := by decide +kernel
theorem dX0_tell_41 : decode cX0_tell 41 = .ok (.getfield 11, 3) := by decide +kernel
theorem dX0_tell_44 : decode cX0_tell 44 = .ok (.iload_n 1, 1) := by decide +kernel
theorem dX0_tell_45 : decode cX0_tell 45 = .ok (.iaload, 1) := by decide +kernel
theorem dX0_tell_46 : decode cX0_tell 46 = .ok (.ireturn, 1) := by decide +kernel
theorem dX0_tell_47 : decode cX0_tell 47 = .ok (.aload_n 0, 1) := by decide +kernel
theorem dX0_tell_48 : decode cX0_tell 48 = .ok (.getfield 15, 3) := by decide +kernel
theorem dX0_tell_51 : decode cX0_tell 51 = .ok (.iload_n 1, 1) := by decide +kernel
theorem dX0_tell_52 : decode cX0_tell 52 = .ok (.iaload, 1) := by decide +kernel
theorem dX0_tell_53 : decode cX0_tell 53 = .ok (.ireturn, 1) := by decide +kernel
theorem dX0_tell_54 : decode cX0_tell 54 = .ok (.aload_n 0, 1) := by decide +kernel
theorem dX0_tell_55 : decode cX0_tell 55 = .ok (.getfield 18, 3) := by decide +kernel
theorem dX0_tell_58 : decode cX0_tell 58 = .ok (.iload_n 1, 1) := by decide +kernel
theorem dX0_tell_59 : decode cX0_tell 59 = .ok (.iaload, 1) := by decide +kernel
theorem dX0_tell_60 : decode cX0_tell 60 = .ok (.ireturn, 1) := by decide +kernel
theorem dX0_tell_61 : decode cX0_tell 61 = .ok (.iconst (-1), 1) := by decide +kernel
theorem dX0_tell_62 : decode cX0_tell 62 = .ok (.ireturn, 1) := by decide +kernel
theorem dX1_init_0 : decode cX1_init 0 = .ok (.aload_n 0, 1) := by decide +kernel
theorem dX1_init_1 : decode cX1_init 1 = .ok (.invokespecial 3, 3) := by decide +kernel
theorem dX1_init_4 : decode cX1_init 4 = .ok (.aload_n 0, 1) := by decide +kernel
theorem dX1_init_5 : decode cX1_init 5 = .ok (.bipush 60, 2) := by decide +kernel
theorem dX1_init_7 : decode cX1_init 7 = .ok (.newarray .int, 2) := by decide +kernel
theorem dX1_init_9 : decode cX1_init 9 = .ok (.putfield 9, 3) := by decide +kernel
theorem dX1_init_12 : decode cX1_init 12 = .ok (.aload_n 0, 1) := by decide +kernel
theorem dX1_init_13 : decode cX1_init 13 = .ok (.bipush 60, 2) := by decide +kernel
theorem dX1_init_15 : decode cX1_init 15 = .ok (.newarray .int, 2) := by decide +kernel
theorem dX1_init_17 : decode cX1_init 17 = .ok (.putfield 15, 3) := by decide +kernel
theorem dX1_init_20 : decode cX1_init 20 = .ok (.aload_n 0, 1) := by decide +kernel
theorem dX1_init_21 : decode cX1_init 21 = .ok (.bipush 61, 2) := by decide +kernel
theorem dX1_init_23 : decode cX1_init 23 = .ok (.newarray .int, 2) := by decide +kernel
theorem dX1_init_25 : decode cX1_init 25 = .ok (.putfield 18, 3) := by decide +kernel
theorem dX1_init_28 : decode cX1_init 28 = .ok (.aload_n 0, 1) := by decide +kernel
theorem dX1_init_29 : decode cX1_init 29 = .ok (.iconst 0, 1) := by decide +kernel
theorem dX1_init_30 : decode cX1_init 30 = .ok (.putfield 21, 3) := by decide +kernel
theorem dX1_init_33 : decode cX1_init 33 = .ok (.return_, 1) := by decide +kernel
theorem dX1_has_0 : decode cX1_has 0 = .ok (.iload_n 1, 1) := by decide +kernel
theorem dX1_has_1 : decode cX1_has 1 = .ok (.ifCond .lt 15, 3) := by decide +kernel
theorem dX1_has_4 : decode cX1_has 4 = .ok (.iload_n 1, 1) := by decide +kernel
theorem dX1_has_5 : decode cX1_has 5 = .ok (.aload_n 0, 1) := by decide +kernel
theorem dX1_has_6 : decode cX1_has 6 = .ok (.getfield 21, 3) := by decide +kernel
theorem dX1_has_9 : decode cX1_has 9 = .ok (.if_icmp .ge 7, 3) := by decide +kernel
theorem dX1_has_12 : decode cX1_has 12 = .ok (.iconst 1, 1) := by decide +kernel
theorem dX1_has_13 : decode cX1_has 13 = .ok (.goto 4, 3) := by decide +kernel
theorem dX1_has_16 : decode cX1_has 16 = .ok (.iconst 0, 1) := by decide +kernel
theorem dX1_has_17 : decode cX1_has 17 = .ok (.ireturn, 1) := by decide +kernel
theorem dX1_hasRoom_0 : decode cX1_hasRoom 0 = .ok (.iload_n 1, 1) := by decide +kernel
theorem dX1_hasRoom_1 : decode cX1_hasRoom 1 = .ok (.iconst 1, 1) := by decide +kernel
theorem dX1_hasRoom_2 : decode cX1_hasRoom 2 = .ok (.if_icmp .lt 33, 3) := by decide +kernel
theorem dX1_hasRoom_5 : decode cX1_hasRoom 5 = .ok (.aload_n 0, 1) := by decide +kernel
theorem dX1_hasRoom_6 : decode cX1_hasRoom 6 = .ok (.getfield 21, 3) := by decide +kernel
theorem dX1_hasRoom_9 : decode cX1_hasRoom 9 = .ok (.bipush 60, 2) := by decide +kernel
theorem dX1_hasRoom_11 : decode cX1_hasRoom 11 = .ok (.if_icmp .ge 24, 3) := by decide +kernel
theorem dX1_hasRoom_14 : decode cX1_hasRoom 14 = .ok (.iload_n 1, 1) := by decide +kernel
theorem dX1_hasRoom_15 : decode cX1_hasRoom 15 = .ok (.sipush 20160, 3) := by decide +kernel
theorem dX1_hasRoom_18 : decode cX1_hasRoom 18 = .ok (.aload_n 0, 1) := by decide +kernel
theorem dX1_hasRoom_19 : decode cX1_hasRoom 19 = .ok (.getfield 18, 3) := by decide +kernel
theorem dX1_hasRoom_22 : decode cX1_hasRoom 22 = .ok (.aload_n 0, 1) := by decide +kernel
theorem dX1_hasRoom_23 : decode cX1_hasRoom 23 = .ok (.getfield 21, 3) := by decide +kernel
theorem dX1_hasRoom_26 : decode cX1_hasRoom 26 = .ok (.iaload, 1) := by decide +kernel
theorem dX1_hasRoom_27 : decode cX1_hasRoom 27 = .ok (.isub, 1) := by decide +kernel
theorem dX1_hasRoom_28 : decode cX1_hasRoom 28 = .ok (.if_icmp .gt 7, 3) := by decide +kernel
theorem dX1_hasRoom_31 : decode cX1_hasRoom 31 = .ok (.iconst 1, 1) := by decide +kernel
theorem dX1_hasRoom_32 : decode cX1_hasRoom 32 = .ok (.goto 4, 3) := by decide +kernel
theorem dX1_hasRoom_35 : decode cX1_hasRoom 35 = .ok (.iconst 0, 1) := by decide +kernel
theorem dX1_hasRoom_36 : decode cX1_hasRoom 36 = .ok (.ireturn, 1) := by decide +kernel
theorem dX1_append_0 : decode cX1_append 0 = .ok (.aload_n 0, 1) := by decide +kernel
theorem dX1_append_1 : decode cX1_append 1 = .ok (.getfield 21, 3) := by decide +kernel
theorem dX1_append_4 : decode cX1_append 4 = .ok (.istore 4, 2) := by decide +kernel
theorem dX1_append_6 : decode cX1_append 6 = .ok (.aload_n 0, 1) := by decide +kernel
theorem dX1_append_7 : decode cX1_append 7 = .ok (.dup, 1) := by decide +kernel
theorem dX1_append_8 : decode cX1_append 8 = .ok (.getfield 21, 3) := by decide +kernel
theorem dX1_append_11 : decode cX1_append 11 = .ok (.iconst 1, 1) := by decide +kernel
theorem dX1_append_12 : decode cX1_append 12 = .ok (.iadd, 1) := by decide +kernel
theorem dX1_append_13 : decode cX1_append 13 = .ok (.putfield 21, 3) := by decide +kernel
theorem dX1_append_16 : decode cX1_append 16 = .ok (.aload_n 0, 1) := by decide +kernel
theorem dX1_append_17 : decode cX1_append 17 = .ok (.getfield 18, 3) := by decide +kernel
theorem dX1_append_20 : decode cX1_append 20 = .ok (.aload_n 0, 1) := by decide +kernel
theorem dX1_append_21 : decode cX1_append 21 = .ok (.getfield 21, 3) := by decide +kernel
theorem dX1_append_24 : decode cX1_append 24 = .ok (.aload_n 0, 1) := by decide +kernel
theorem dX1_append_25 : decode cX1_append 25 = .ok (.getfield 18, 3) := by decide +kernel
theorem dX1_append_28 : decode cX1_append 28 = .ok (.iload 4, 2) := by decide +kernel
theorem dX1_append_30 : decode cX1_append 30 = .ok (.iaload, 1) := by decide +kernel
theorem dX1_append_31 : decode cX1_append 31 = .ok (.iload_n 2, 1) := by decide +kernel
theorem dX1_append_32 : decode cX1_append 32 = .ok (.iadd, 1) := by decide +kernel
theorem dX1_append_33 : decode cX1_append 33 = .ok (.iastore, 1) := by decide +kernel
theorem dX1_append_34 : decode cX1_append 34 = .ok (.aload_n 0, 1) := by decide +kernel
theorem dX1_append_35 : decode cX1_append 35 = .ok (.iload 4, 2) := by decide +kernel
theorem dX1_append_37 : decode cX1_append 37 = .ok (.iload_n 1, 1) := by decide +kernel
theorem dX1_append_38 : decode cX1_append 38 = .ok (.iload_n 3, 1) := by decide +kernel
theorem dX1_append_39 : decode cX1_append 39 = .ok (.invokevirtual 25, 3) := by decide +kernel
theorem dX1_append_42 : decode cX1_append 42 = .ok (.iload 4, 2) := by decide +kernel
theorem dX1_append_44 : decode cX1_append 44 = .ok (.ireturn, 1) := by decide +kernel
theorem dX1_change_0 : decode cX1_change 0 = .ok (.aload_n 0, 1) := by decide +kernel
theorem dX1_change_1 : decode cX1_change 1 = .ok (.getfield 9, 3) := by decide +kernel
theorem dX1_change_4 : decode cX1_change 4 = .ok (.iload_n 1, 1) := by decide +kernel
theorem dX1_change_5 : decode cX1_change 5 = .ok (.iload_n 2, 1) := by decide +kernel
theorem dX1_change_6 : decode cX1_change 6 = .ok (.iastore, 1) := by decide +kernel
theorem dX1_change_7 : decode cX1_change 7 = .ok (.aload_n 0, 1) := by decide +kernel
theorem dX1_change_8 : decode cX1_change 8 = .ok (.getfield 15, 3) := by decide +kernel
theorem dX1_change_11 : decode cX1_change 11 = .ok (.iload_n 1, 1) := by decide +kernel
theorem dX1_change_12 : decode cX1_change 12 = .ok (.iload_n 2, 1) := by decide +kernel
theorem dX1_change_13 : decode cX1_change 13 = .ok (.ifCond .ne 7, 3) := by decide +kernel
theorem dX1_change_16 : decode cX1_change 16 = .ok (.iload_n 3, 1) := by decide +kernel
theorem dX1_change_17 : decode cX1_change 17 = .ok (.goto 4, 3) := by decide +kernel
theorem dX1_change_20 : decode cX1_change 20 = .ok (.iconst (-1), 1) := by decide +kernel
theorem dX1_change_21 : decode cX1_change 21 = .ok (.iastore, 1) := by decide +kernel
theorem dX1_change_22 : decode cX1_change 22 = .ok (.return_, 1) := by decide +kernel
theorem dX1_drives_0 : decode cX1_drives 0 = .ok (.aload_n 0, 1) := by decide +kernel
theorem dX1_drives_1 : decode cX1_drives 1 = .ok (.getfield 9, 3) := by decide +kernel
theorem dX1_drives_4 : decode cX1_drives 4 = .ok (.iload_n 1, 1) := by decide +kernel
theorem dX1_drives_5 : decode cX1_drives 5 = .ok (.iaload, 1) := by decide +kernel
theorem dX1_drives_6 : decode cX1_drives 6 = .ok (.ifCond .ne 17, 3) := by decide +kernel
theorem dX1_drives_9 : decode cX1_drives 9 = .ok (.aload_n 0, 1) := by decide +kernel
theorem dX1_drives_10 : decode cX1_drives 10 = .ok (.getfield 15, 3) := by decide +kernel
theorem dX1_drives_13 : decode cX1_drives 13 = .ok (.iload_n 1, 1) := by decide +kernel
theorem dX1_drives_14 : decode cX1_drives 14 = .ok (.iaload, 1) := by decide +kernel
theorem dX1_drives_15 : decode cX1_drives 15 = .ok (.iload_n 2, 1) := by decide +kernel
theorem dX1_drives_16 : decode cX1_drives 16 = .ok (.if_icmp .ne 7, 3) := by decide +kernel
theorem dX1_drives_19 : decode cX1_drives 19 = .ok (.iconst 1, 1) := by decide +kernel
theorem dX1_drives_20 : decode cX1_drives 20 = .ok (.goto 4, 3) := by decide +kernel
theorem dX1_drives_23 : decode cX1_drives 23 = .ok (.iconst 0, 1) := by decide +kernel
theorem dX1_drives_24 : decode cX1_drives 24 = .ok (.ireturn, 1) := by decide +kernel
theorem dX1_kindRead_0 : decode cX1_kindRead 0 = .ok (.aload_n 0, 1) := by decide +kernel
theorem dX1_kindRead_1 : decode cX1_kindRead 1 = .ok (.getfield 9, 3) := by decide +kernel
theorem dX1_kindRead_4 : decode cX1_kindRead 4 = .ok (.iload_n 1, 1) := by decide +kernel
theorem dX1_kindRead_5 : decode cX1_kindRead 5 = .ok (.iaload, 1) := by decide +kernel
theorem dX1_kindRead_6 : decode cX1_kindRead 6 = .ok (.lookupswitch 64 #[(3, 36), (4, 26)], 26) := by decide +kernel
theorem dX1_kindRead_32 : decode cX1_kindRead 32 = .ok (.iload_n 2, 1) := by decide +kernel
theorem dX1_kindRead_33 : decode cX1_kindRead 33 = .ok (.ifCond .eq 7, 3) := by decide +kernel
theorem dX1_kindRead_36 : decode cX1_kindRead 36 = .ok (.iconst 0, 1) := by decide +kernel
theorem dX1_kindRead_37 : decode cX1_kindRead 37 = .ok (.goto 4, 3) := by decide +kernel
theorem dX1_kindRead_40 : decode cX1_kindRead 40 = .ok (.iconst 2, 1) := by decide +kernel
theorem dX1_kindRead_41 : decode cX1_kindRead 41 = .ok (.ireturn, 1) := by decide +kernel
theorem dX1_kindRead_42 : decode cX1_kindRead 42 = .ok (.aload_n 0, 1) := by decide +kernel
theorem dX1_kindRead_43 : decode cX1_kindRead 43 = .ok (.iload_n 1, 1) := by decide +kernel
theorem dX1_kindRead_44 : decode cX1_kindRead 44 = .ok (.iconst 1, 1) := by decide +kernel
theorem dX1_kindRead_45 : decode cX1_kindRead 45 = .ok (.isub, 1) := by decide +kernel
theorem dX1_kindRead_46 : decode cX1_kindRead 46 = .ok (.iload_n 2, 1) := by decide +kernel
theorem dX1_kindRead_47 : decode cX1_kindRead 47 = .ok (.invokevirtual 29, 3) := by decide +kernel
theorem dX1_kindRead_50 : decode cX1_kindRead 50 = .ok (.ifCond .eq 18, 3) := by decide +kernel
theorem dX1_kindRead_53 : decode cX1_kindRead 53 = .ok (.aload_n 0, 1) := by decide +kernel
theorem dX1_kindRead_54 : decode cX1_kindRead 54 = .ok (.iload_n 1, 1) := by decide +kernel
theorem dX1_kindRead_55 : decode cX1_kindRead 55 = .ok (.iconst 1, 1) := by decide +kernel
theorem dX1_kindRead_56 : decode cX1_kindRead 56 = .ok (.iadd, 1) := by decide +kernel
theorem dX1_kindRead_57 : decode cX1_kindRead 57 = .ok (.iload_n 2, 1) := by decide +kernel
theorem dX1_kindRead_58 : decode cX1_kindRead 58 = .ok (.invokevirtual 29, 3) := by decide +kernel
theorem dX1_kindRead_61 : decode cX1_kindRead 61 = .ok (.ifCond .eq 7, 3) := by decide +kernel
theorem dX1_kindRead_64 : decode cX1_kindRead 64 = .ok (.iconst 2, 1) := by decide +kernel
theorem dX1_kindRead_65 : decode cX1_kindRead 65 = .ok (.goto 4, 3) := by decide +kernel
theorem dX1_kindRead_68 : decode cX1_kindRead 68 = .ok (.iconst 1, 1) := by decide +kernel
theorem dX1_kindRead_69 : decode cX1_kindRead 69 = .ok (.ireturn, 1) := by decide +kernel
theorem dX1_kindRead_70 : decode cX1_kindRead 70 = .ok (.aload_n 0, 1) := by decide +kernel
theorem dX1_kindRead_71 : decode cX1_kindRead 71 = .ok (.getfield 9, 3) := by decide +kernel
theorem dX1_kindRead_74 : decode cX1_kindRead 74 = .ok (.iload_n 1, 1) := by decide +kernel
theorem dX1_kindRead_75 : decode cX1_kindRead 75 = .ok (.iaload, 1) := by decide +kernel
theorem dX1_kindRead_76 : decode cX1_kindRead 76 = .ok (.ireturn, 1) := by decide +kernel
theorem dX1_isRest_0 : decode cX1_isRest 0 = .ok (.aload_n 0, 1) := by decide +kernel
theorem dX1_isRest_1 : decode cX1_isRest 1 = .ok (.iload_n 1, 1) := by decide +kernel
theorem dX1_isRest_2 : decode cX1_isRest 2 = .ok (.invokevirtual 33, 3) := by decide +kernel
theorem dX1_isRest_5 : decode cX1_isRest 5 = .ok (.ifCond .eq 31, 3) := by decide +kernel
theorem dX1_isRest_8 : decode cX1_isRest 8 = .ok (.aload_n 0, 1) := by decide +kernel
theorem dX1_isRest_9 : decode cX1_isRest 9 = .ok (.getfield 9, 3) := by decide +kernel
theorem dX1_isRest_12 : decode cX1_isRest 12 = .ok (.iload_n 1, 1) := by decide +kernel
theorem dX1_isRest_13 : decode cX1_isRest 13 = .ok (.iaload, 1) := by decide +kernel
theorem dX1_isRest_14 : decode cX1_isRest 14 = .ok (.iconst 2, 1) := by decide +kernel
theorem dX1_isRest_15 : decode cX1_isRest 15 = .ok (.if_icmp .eq 17, 3) := by decide +kernel
theorem dX1_isRest_18 : decode cX1_isRest 18 = .ok (.aload_n 0, 1) := by decide +kernel
theorem dX1_isRest_19 : decode cX1_isRest 19 = .ok (.getfield 9, 3) := by decide +kernel
theorem dX1_isRest_22 : decode cX1_isRest 22 = .ok (.iload_n 1, 1) := by decide +kernel
theorem dX1_isRest_23 : decode cX1_isRest 23 = .ok (.iaload, 1) := by decide +kernel
theorem dX1_isRest_24 : decode cX1_isRest 24 = .ok (.iconst 4, 1) := by decide +kernel
theorem dX1_isRest_25 : decode cX1_isRest 25 = .ok (.if_icmp .ne 11, 3) := by decide +kernel
theorem dX1_isRest_28 : decode cX1_isRest 28 = .ok (.iload_n 2, 1) := by decide +kernel
theorem dX1_isRest_29 : decode cX1_isRest 29 = .ok (.ifCond .ne 7, 3) := by decide +kernel
theorem dX1_isRest_32 : decode cX1_isRest 32 = .ok (.iconst 1, 1) := by decide +kernel
theorem dX1_isRest_33 : decode cX1_isRest 33 = .ok (.goto 4, 3) := by decide +kernel
theorem dX1_isRest_36 : decode cX1_isRest 36 = .ok (.iconst 0, 1) := by decide +kernel
theorem dX1_isRest_37 : decode cX1_isRest 37 = .ok (.ireturn, 1) := by decide +kernel
theorem dX2_init_0 : decode cX2_init 0 = .ok (.aload_n 0, 1) := by decide +kernel
theorem dX2_init_1 : decode cX2_init 1 = .ok (.invokespecial 5, 3) := by decide +kernel
theorem dX2_init_4 : decode cX2_init 4 = .ok (.aload_n 0, 1) := by decide +kernel
theorem dX2_init_5 : decode cX2_init 5 = .ok (.iconst 4, 1) := by decide +kernel
theorem dX2_init_6 : decode cX2_init 6 = .ok (.newarray .int, 2) := by decide +kernel
theorem dX2_init_8 : decode cX2_init 8 = .ok (.putfield 11, 3) := by decide +kernel
theorem dX2_init_11 : decode cX2_init 11 = .ok (.aload_n 0, 1) := by decide +kernel
theorem dX2_init_12 : decode cX2_init 12 = .ok (.iconst 0, 1) := by decide +kernel
theorem dX2_init_13 : decode cX2_init 13 = .ok (.putfield 17, 3) := by decide +kernel
theorem dX2_init_16 : decode cX2_init 16 = .ok (.aload_n 0, 1) := by decide +kernel
theorem dX2_init_17 : decode cX2_init 17 = .ok (.iconst 0, 1) := by decide +kernel
theorem dX2_init_18 : decode cX2_init 18 = .ok (.putfield 21, 3) := by decide +kernel
theorem dX2_init_21 : decode cX2_init 21 = .ok (.aload_n 0, 1) := by decide +kernel
theorem dX2_init_22 : decode cX2_init 22 = .ok (.iconst 0, 1) := by decide +kernel
theorem dX2_init_23 : decode cX2_init 23 = .ok (.putfield 24, 3) := by decide +kernel
theorem dX2_init_26 : decode cX2_init 26 = .ok (.aload_n 0, 1) := by decide +kernel
theorem dX2_init_27 : decode cX2_init 27 = .ok (.iconst 0, 1) := by decide +kernel
theorem dX2_init_28 : decode cX2_init 28 = .ok (.putfield 27, 3) := by decide +kernel
theorem dX2_init_31 : decode cX2_init 31 = .ok (.aload_n 0, 1) := by decide +kernel
theorem dX2_init_32 : decode cX2_init 32 = .ok (.iconst 0, 1) := by decide +kernel
theorem dX2_init_33 : decode cX2_init 33 = .ok (.putfield 30, 3) := by decide +kernel
theorem dX2_init_36 : decode cX2_init 36 = .ok (.return_, 1) := by decide +kernel
theorem dX2_compare_0 : decode cX2_compare 0 = .ok (.aload_n 0, 1) := by decide +kernel
theorem dX2_compare_1 : decode cX2_compare 1 = .ok (.invokevirtual 33, 3) := by decide +kernel
theorem dX2_compare_4 : decode cX2_compare 4 = .ok (.iconst 0, 1) := by decide +kernel
theorem dX2_compare_5 : decode cX2_compare 5 = .ok (.istore 4, 2) := by decide +kernel
theorem dX2_compare_7 : decode cX2_compare 7 = .ok (.iconst 0, 1) := by decide +kernel
theorem dX2_compare_8 : decode cX2_compare 8 = .ok (.istore 5, 2) := by decide +kernel
theorem dX2_compare_10 : decode cX2_compare 10 = .ok (.iload 5, 2) := by decide +kernel
theorem dX2_compare_12 : decode cX2_compare 12 = .ok (.sipush 281, 3) := by decide +kernel
theorem dX2_compare_15 : decode cX2_compare 15 = .ok (.if_icmp .ge 98, 3) := by decide +kernel
theorem dX2_compare_18 : decode cX2_compare 18 = .ok (.iload 4, 2) := by decide +kernel
theorem dX2_compare_20 : decode cX2_compare 20 = .ok (.sipush 20160, 3) := by decide +kernel
theorem dX2_compare_23 : decode cX2_compare 23 = .ok (.if_icmp .ge 90, 3) := by decide +kernel
theorem dX2_compare_26 : decode cX2_compare 26 = .ok (.aload_n 0, 1) := by decide +kernel
theorem dX2_compare_27 : decode cX2_compare 27 = .ok (.sipush 20160, 3) := by decide +kernel
theorem dX2_compare_30 : decode cX2_compare 30 = .ok (.putfield 21, 3) := by decide +kernel
theorem dX2_compare_33 : decode cX2_compare 33 = .ok (.iconst 0, 1) := by decide +kernel
theorem dX2_compare_34 : decode cX2_compare 34 = .ok (.istore 6, 2) := by decide +kernel
theorem dX2_compare_36 : decode cX2_compare 36 = .ok (.iconst 0, 1) := by decide +kernel
theorem dX2_compare_37 : decode cX2_compare 37 = .ok (.istore 7, 2) := by decide +kernel
theorem dX2_compare_39 : decode cX2_compare 39 = .ok (.iload 7, 2) := by decide +kernel
theorem dX2_compare_41 : decode cX2_compare 41 = .ok (.iconst 4, 1) := by decide +kernel
theorem dX2_compare_42 : decode cX2_compare 42 = .ok (.if_icmp .ge 35, 3) := by decide +kernel
theorem dX2_compare_45 : decode cX2_compare 45 = .ok (.iload 6, 2) := by decide +kernel
theorem dX2_compare_47 : decode cX2_compare 47 = .ok (.aload_n 0, 1) := by decide +kernel
theorem dX2_compare_48 : decode cX2_compare 48 = .ok (.aload_n 1, 1) := by decide +kernel
theorem dX2_compare_49 : decode cX2_compare 49 = .ok (.iload 7, 2) := by decide +kernel
theorem dX2_compare_51 : decode cX2_compare 51 = .ok (.aaload, 1) := by decide +kernel
theorem dX2_compare_52 : decode cX2_compare 52 = .ok (.iload 7, 2) := by decide +kernel
theorem dX2_compare_54 : decode cX2_compare 54 = .ok (.iload 4, 2) := by decide +kernel
theorem dX2_compare_56 : decode cX2_compare 56 = .ok (.iload_n 3, 1) := by decide +kernel
theorem dX2_compare_57 : decode cX2_compare 57 = .ok (.invokevirtual 36, 3) := by decide +kernel
theorem dX2_compare_60 : decode cX2_compare 60 = .ok (.ifCond .eq 7, 3) := by decide +kernel
theorem dX2_compare_63 : decode cX2_compare 63 = .ok (.iconst 1, 1) := by decide +kernel
theorem dX2_compare_64 : decode cX2_compare 64 = .ok (.goto 4, 3) := by decide +kernel
theorem dX2_compare_67 : decode cX2_compare 67 = .ok (.iconst 0, 1) := by decide +kernel
theorem dX2_compare_68 : decode cX2_compare 68 = .ok (.iadd, 1) := by decide +kernel
theorem dX2_compare_69 : decode cX2_compare 69 = .ok (.istore 6, 2) := by decide +kernel
theorem dX2_compare_71 : decode cX2_compare 71 = .ok (.iinc 7 1, 3) := by decide +kernel
theorem dX2_compare_74 : decode cX2_compare 74 = .ok (.goto (-35), 3) := by decide +kernel
theorem dX2_compare_77 : decode cX2_compare 77 = .ok (.aload_n 0, 1) := by decide +kernel
theorem dX2_compare_78 : decode cX2_compare 78 = .ok (.aload_n 2, 1) := by decide +kernel
theorem dX2_compare_79 : decode cX2_compare 79 = .ok (.iload 4, 2) := by decide +kernel
theorem dX2_compare_81 : decode cX2_compare 81 = .ok (.invokevirtual 40, 3) := by decide +kernel
theorem dX2_compare_84 : decode cX2_compare 84 = .ok (.istore 7, 2) := by decide +kernel
theorem dX2_compare_86 : decode cX2_compare 86 = .ok (.aload_n 0, 1) := by decide +kernel
theorem dX2_compare_87 : decode cX2_compare 87 = .ok (.aload_n 0, 1) := by decide +kernel
theorem dX2_compare_88 : decode cX2_compare 88 = .ok (.getfield 21, 3) := by decide +kernel
theorem dX2_compare_91 : decode cX2_compare 91 = .ok (.iload 4, 2) := by decide +kernel
theorem dX2_compare_93 : decode cX2_compare 93 = .ok (.isub, 1) := by decide +kernel
theorem dX2_compare_94 : decode cX2_compare 94 = .ok (.iload 6, 2) := by decide +kernel
theorem dX2_compare_96 : decode cX2_compare 96 = .ok (.iload 7, 2) := by decide +kernel
theorem dX2_compare_98 : decode cX2_compare 98 = .ok (.invokevirtual 44, 3) := by decide +kernel
theorem dX2_compare_101 : decode cX2_compare 101 = .ok (.aload_n 0, 1) := by decide +kernel
theorem dX2_compare_102 : decode cX2_compare 102 = .ok (.getfield 21, 3) := by decide +kernel
theorem dX2_compare_105 : decode cX2_compare 105 = .ok (.istore 4, 2) := by decide +kernel
theorem dX2_compare_107 : decode cX2_compare 107 = .ok (.iinc 5 1, 3) := by decide +kernel
theorem dX2_compare_110 : decode cX2_compare 110 = .ok (.goto (-100), 3) := by decide +kernel
theorem dX2_compare_113 : decode cX2_compare 113 = .ok (.return_, 1) := by decide +kernel
theorem dX2_startAgain_0 : decode cX2_startAgain 0 = .ok (.iconst 0, 1) := by decide +kernel
theorem dX2_startAgain_1 : decode cX2_startAgain 1 = .ok (.istore_n 1, 1) := by decide +kernel
theorem dX2_startAgain_2 : decode cX2_startAgain 2 = .ok (.iload_n 1, 1) := by decide +kernel
theorem dX2_startAgain_3 : decode cX2_startAgain 3 = .ok (.iconst 4, 1) := by decide +kernel
theorem dX2_startAgain_4 : decode cX2_startAgain 4 = .ok (.if_icmp .ge 16, 3) := by decide +kernel
theorem dX2_startAgain_7 : decode cX2_startAgain 7 = .ok (.aload_n 0, 1) := by decide +kernel
theorem dX2_startAgain_8 : decode cX2_startAgain 8 = .ok (.getfield 11, 3) := by decide +kernel
theorem dX2_startAgain_11 : decode cX2_startAgain 11 = .ok (.iload_n 1, 1) := by decide +kernel
theorem dX2_startAgain_12 : decode cX2_startAgain 12 = .ok (.iconst 0, 1) := by decide +kernel
theorem dX2_startAgain_13 : decode cX2_startAgain 13 = .ok (.iastore, 1) := by decide +kernel
theorem dX2_startAgain_14 : decode cX2_startAgain 14 = .ok (.iinc 1 1, 3) := by decide +kernel
theorem dX2_startAgain_17 : decode cX2_startAgain 17 = .ok (.goto (-15), 3) := by decide +kernel
theorem dX2_startAgain_20 : decode cX2_startAgain 20 = .ok (.aload_n 0, 1) := by decide +kernel
theorem dX2_startAgain_21 : decode cX2_startAgain 21 = .ok (.iconst 0, 1) := by decide +kernel
theorem dX2_startAgain_22 : decode cX2_startAgain 22 = .ok (.putfield 17, 3) := by decide +kernel
theorem dX2_startAgain_25 : decode cX2_startAgain 25 = .ok (.aload_n 0, 1) := by decide +kernel
theorem dX2_startAgain_26 : decode cX2_startAgain 26 = .ok (.iconst 0, 1) := by decide +kernel
theorem dX2_startAgain_27 : decode cX2_startAgain 27 = .ok (.putfield 24, 3) := by decide +kernel
theorem dX2_startAgain_30 : decode cX2_startAgain 30 = .ok (.aload_n 0, 1) := by decide +kernel
theorem dX2_startAgain_31 : decode cX2_startAgain 31 = .ok (.iconst 0, 1) := by decide +kernel
theorem dX2_startAgain_32 : decode cX2_startAgain 32 = .ok (.putfield 27, 3) := by decide +kernel
theorem dX2_startAgain_35 : decode cX2_startAgain 35 = .ok (.aload_n 0, 1) := by decide +kernel
theorem dX2_startAgain_36 : decode cX2_startAgain 36 = .ok (.iconst 0, 1) := by decide +kernel
theorem dX2_startAgain_37 : decode cX2_startAgain 37 = .ok (.putfield 30, 3) := by decide +kernel
theorem dX2_startAgain_40 : decode cX2_startAgain 40 = .ok (.return_, 1) := by decide +kernel
theorem dX2_isDriven_0 : decode cX2_isDriven 0 = .ok (.aload_n 0, 1) := by decide +kernel
theorem dX2_isDriven_1 : decode cX2_isDriven 1 = .ok (.getfield 11, 3) := by decide +kernel
theorem dX2_isDriven_4 : decode cX2_isDriven 4 = .ok (.iload_n 2, 1) := by decide +kernel
theorem dX2_isDriven_5 : decode cX2_isDriven 5 = .ok (.iaload, 1) := by decide +kernel
theorem dX2_isDriven_6 : decode cX2_isDriven 6 = .ok (.aload_n 1, 1) := by decide +kernel
theorem dX2_isDriven_7 : decode cX2_isDriven 7 = .ok (.getfield 48, 3) := by decide +kernel
theorem dX2_isDriven_10 : decode cX2_isDriven 10 = .ok (.if_icmp .ge 30, 3) := by decide +kernel
theorem dX2_isDriven_13 : decode cX2_isDriven 13 = .ok (.aload_n 1, 1) := by decide +kernel
theorem dX2_isDriven_14 : decode cX2_isDriven 14 = .ok (.getfield 53, 3) := by decide +kernel
theorem dX2_isDriven_17 : decode cX2_isDriven 17 = .ok (.aload_n 0, 1) := by decide +kernel
theorem dX2_isDriven_18 : decode cX2_isDriven 18 = .ok (.getfield 11, 3) := by decide +kernel
theorem dX2_isDriven_21 : decode cX2_isDriven 21 = .ok (.iload_n 2, 1) := by decide +kernel
theorem dX2_isDriven_22 : decode cX2_isDriven 22 = .ok (.iaload, 1) := by decide +kernel
theorem dX2_isDriven_23 : decode cX2_isDriven 23 = .ok (.iconst 1, 1) := by decide +kernel
theorem dX2_isDriven_24 : decode cX2_isDriven 24 = .ok (.iadd, 1) := by decide +kernel
theorem dX2_isDriven_25 : decode cX2_isDriven 25 = .ok (.iaload, 1) := by decide +kernel
theorem dX2_isDriven_26 : decode cX2_isDriven 26 = .ok (.iload_n 3, 1) := by decide +kernel
theorem dX2_isDriven_27 : decode cX2_isDriven 27 = .ok (.if_icmp .gt 13, 3) := by decide +kernel
theorem dX2_isDriven_30 : decode cX2_isDriven 30 = .ok (.aload_n 0, 1) := by decide +kernel
theorem dX2_isDriven_31 : decode cX2_isDriven 31 = .ok (.getfield 11, 3) := by decide +kernel
theorem dX2_isDriven_34 : decode cX2_isDriven 34 = .ok (.iload_n 2, 1) := by decide +kernel
theorem dX2_isDriven_35 : decode cX2_isDriven 35 = .ok (.dup2, 1) := by decide +kernel
theorem dX2_isDriven_36 : decode cX2_isDriven 36 = .ok (.iaload, 1) := by decide +kernel
theorem dX2_isDriven_37 : decode cX2_isDriven 37 = .ok (.iconst 1, 1) := by decide +kernel
theorem dX2_isDriven_38 : decode cX2_isDriven 38 = .ok (.iadd, 1) := by decide +kernel
theorem dX2_isDriven_39 : decode cX2_isDriven 39 = .ok (.iastore, 1) := by decide +kernel
theorem dX2_isDriven_40 : decode cX2_isDriven 40 = .ok (.aload_n 0, 1) := by decide +kernel
theorem dX2_isDriven_41 : decode cX2_isDriven 41 = .ok (.getfield 11, 3) := by decide +kernel
theorem dX2_isDriven_44 : decode cX2_isDriven 44 = .ok (.iload_n 2, 1) := by decide +kernel
theorem dX2_isDriven_45 : decode cX2_isDriven 45 = .ok (.iaload, 1) := by decide +kernel
theorem dX2_isDriven_46 : decode cX2_isDriven 46 = .ok (.istore 5, 2) := by decide +kernel
theorem dX2_isDriven_48 : decode cX2_isDriven 48 = .ok (.iload 5, 2) := by decide +kernel
theorem dX2_isDriven_50 : decode cX2_isDriven 50 = .ok (.aload_n 1, 1) := by decide +kernel
theorem dX2_isDriven_51 : decode cX2_isDriven 51 = .ok (.getfield 48, 3) := by decide +kernel
theorem dX2_isDriven_54 : decode cX2_isDriven 54 = .ok (.if_icmp .lt 5, 3) := by decide +kernel
theorem dX2_isDriven_57 : decode cX2_isDriven 57 = .ok (.iconst 0, 1) := by decide +kernel
theorem dX2_isDriven_58 : decode cX2_isDriven 58 = .ok (.ireturn, 1) := by decide +kernel
theorem dX2_isDriven_59 : decode cX2_isDriven 59 = .ok (.aload_n 0, 1) := by decide +kernel
theorem dX2_isDriven_60 : decode cX2_isDriven 60 = .ok (.aload_n 0, 1) := by decide +kernel
theorem dX2_isDriven_61 : decode cX2_isDriven 61 = .ok (.getfield 21, 3) := by decide +kernel
theorem dX2_isDriven_64 : decode cX2_isDriven 64 = .ok (.aload_n 1, 1) := by decide +kernel
theorem dX2_isDriven_65 : decode cX2_isDriven 65 = .ok (.getfield 53, 3) := by decide +kernel
theorem dX2_isDriven_68 : decode cX2_isDriven 68 = .ok (.iload 5, 2) := by decide +kernel
theorem dX2_isDriven_70 : decode cX2_isDriven 70 = .ok (.iconst 1, 1) := by decide +kernel
theorem dX2_isDriven_71 : decode cX2_isDriven 71 = .ok (.iadd, 1) := by decide +kernel
theorem dX2_isDriven_72 : decode cX2_isDriven 72 = .ok (.iaload, 1) := by decide +kernel
theorem dX2_isDriven_73 : decode cX2_isDriven 73 = .ok (.invokestatic 56, 3) := by decide +kernel
theorem dX2_isDriven_76 : decode cX2_isDriven 76 = .ok (.putfield 21, 3) := by decide +kernel
theorem dX2_isDriven_79 : decode cX2_isDriven 79 = .ok (.aload_n 1, 1) := by decide +kernel
theorem dX2_isDriven_80 : decode cX2_isDriven 80 = .ok (.iload 5, 2) := by decide +kernel
theorem dX2_isDriven_82 : decode cX2_isDriven 82 = .ok (.iload 4, 2) := by decide +kernel
theorem dX2_isDriven_84 : decode cX2_isDriven 84 = .ok (.invokevirtual 62, 3) := by decide +kernel
theorem dX2_isDriven_87 : decode cX2_isDriven 87 = .ok (.ireturn, 1) := by decide +kernel
theorem dX2_isOnTrip_0 : decode cX2_isOnTrip 0 = .ok (.aload_n 0, 1) := by decide +kernel
theorem dX2_isOnTrip_1 : decode cX2_isOnTrip 1 = .ok (.getfield 17, 3) := by decide +kernel
theorem dX2_isOnTrip_4 : decode cX2_isOnTrip 4 = .ok (.aload_n 1, 1) := by decide +kernel
theorem dX2_isOnTrip_5 : decode cX2_isOnTrip 5 = .ok (.getfield 66, 3) := by decide +kernel
theorem dX2_isOnTrip_8 : decode cX2_isOnTrip 8 = .ok (.if_icmp .ge 26, 3) := by decide +kernel
theorem dX2_isOnTrip_11 : decode cX2_isOnTrip 11 = .ok (.aload_n 1, 1) := by decide +kernel
theorem dX2_isOnTrip_12 : decode cX2_isOnTrip 12 = .ok (.getfield 69, 3) := by decide +kernel
theorem dX2_isOnTrip_15 : decode cX2_isOnTrip 15 = .ok (.aload_n 0, 1) := by decide +kernel
theorem dX2_isOnTrip_16 : decode cX2_isOnTrip 16 = .ok (.getfield 17, 3) := by decide +kernel
theorem dX2_isOnTrip_19 : decode cX2_isOnTrip 19 = .ok (.iaload, 1) := by decide +kernel
theorem dX2_isOnTrip_20 : decode cX2_isOnTrip 20 = .ok (.iload_n 2, 1) := by decide +kernel
theorem dX2_isOnTrip_21 : decode cX2_isOnTrip 21 = .ok (.if_icmp .gt 13, 3) := by decide +kernel
theorem dX2_isOnTrip_24 : decode cX2_isOnTrip 24 = .ok (.aload_n 0, 1) := by decide +kernel
theorem dX2_isOnTrip_25 : decode cX2_isOnTrip 25 = .ok (.dup, 1) := by decide +kernel
theorem dX2_isOnTrip_26 : decode cX2_isOnTrip 26 = .ok (.getfield 17, 3) := by decide +kernel
theorem dX2_isOnTrip_29 : decode cX2_isOnTrip 29 = .ok (.iconst 1, 1) := by decide +kernel
theorem dX2_isOnTrip_30 : decode cX2_isOnTrip 30 = .ok (.iadd, 1) := by decide +kernel
theorem dX2_isOnTrip_31 : decode cX2_isOnTrip 31 = .ok (.putfield 17, 3) := by decide +kernel
theorem dX2_isOnTrip_34 : decode cX2_isOnTrip 34 = .ok (.aload_n 0, 1) := by decide +kernel
theorem dX2_isOnTrip_35 : decode cX2_isOnTrip 35 = .ok (.getfield 17, 3) := by decide +kernel
theorem dX2_isOnTrip_38 : decode cX2_isOnTrip 38 = .ok (.aload_n 1, 1) := by decide +kernel
theorem dX2_isOnTrip_39 : decode cX2_isOnTrip 39 = .ok (.getfield 66, 3) := by decide +kernel
theorem dX2_isOnTrip_42 : decode cX2_isOnTrip 42 = .ok (.if_icmp .lt 5, 3) := by decide +kernel
theorem dX2_isOnTrip_45 : decode cX2_isOnTrip 45 = .ok (.iconst 0, 1) := by decide +kernel
theorem dX2_isOnTrip_46 : decode cX2_isOnTrip 46 = .ok (.ireturn, 1) := by decide +kernel
theorem dX2_isOnTrip_47 : decode cX2_isOnTrip 47 = .ok (.aload_n 1, 1) := by decide +kernel
theorem dX2_isOnTrip_48 : decode cX2_isOnTrip 48 = .ok (.getfield 72, 3) := by decide +kernel
theorem dX2_isOnTrip_51 : decode cX2_isOnTrip 51 = .ok (.aload_n 0, 1) := by decide +kernel
theorem dX2_isOnTrip_52 : decode cX2_isOnTrip 52 = .ok (.getfield 17, 3) := by decide +kernel
theorem dX2_isOnTrip_55 : decode cX2_isOnTrip 55 = .ok (.iaload, 1) := by decide +kernel
theorem dX2_isOnTrip_56 : decode cX2_isOnTrip 56 = .ok (.iload_n 2, 1) := by decide +kernel
theorem dX2_isOnTrip_57 : decode cX2_isOnTrip 57 = .ok (.if_icmp .gt 7, 3) := by decide +kernel
theorem dX2_isOnTrip_60 : decode cX2_isOnTrip 60 = .ok (.iconst 1, 1) := by decide +kernel
theorem dX2_isOnTrip_61 : decode cX2_isOnTrip 61 = .ok (.goto 4, 3) := by decide +kernel
theorem dX2_isOnTrip_64 : decode cX2_isOnTrip 64 = .ok (.iconst 0, 1) := by decide +kernel
theorem dX2_isOnTrip_65 : decode cX2_isOnTrip 65 = .ok (.istore_n 3, 1) := by decide +kernel
theorem dX2_isOnTrip_66 : decode cX2_isOnTrip 66 = .ok (.aload_n 0, 1) := by decide +kernel
theorem dX2_isOnTrip_67 : decode cX2_isOnTrip 67 = .ok (.aload_n 0, 1) := by decide +kernel
theorem dX2_isOnTrip_68 : decode cX2_isOnTrip 68 = .ok (.getfield 21, 3) := by decide +kernel
theorem dX2_isOnTrip_71 : decode cX2_isOnTrip 71 = .ok (.iload_n 3, 1) := by decide +kernel
theorem dX2_isOnTrip_72 : decode cX2_isOnTrip 72 = .ok (.ifCond .eq 15, 3) := by decide +kernel
theorem dX2_isOnTrip_75 : decode cX2_isOnTrip 75 = .ok (.aload_n 1, 1) := by decide +kernel
theorem dX2_isOnTrip_76 : decode cX2_isOnTrip 76 = .ok (.getfield 69, 3) := by decide +kernel
theorem dX2_isOnTrip_79 : decode cX2_isOnTrip 79 = .ok (.aload_n 0, 1) := by decide +kernel
theorem dX2_isOnTrip_80 : decode cX2_isOnTrip 80 = .ok (.getfield 17, 3) := by decide +kernel
theorem dX2_isOnTrip_83 : decode cX2_isOnTrip 83 = .ok (.iaload, 1) := by decide +kernel
theorem dX2_isOnTrip_84 : decode cX2_isOnTrip 84 = .ok (.goto 12, 3) := by decide +kernel
theorem dX2_isOnTrip_87 : decode cX2_isOnTrip 87 = .ok (.aload_n 1, 1) := by decide +kernel
theorem dX2_isOnTrip_88 : decode cX2_isOnTrip 88 = .ok (.getfield 72, 3) := by decide +kernel
theorem dX2_isOnTrip_91 : decode cX2_isOnTrip 91 = .ok (.aload_n 0, 1) := by decide +kernel
theorem dX2_isOnTrip_92 : decode cX2_isOnTrip 92 = .ok (.getfield 17, 3) := by decide +kernel
theorem dX2_isOnTrip_95 : decode cX2_isOnTrip 95 = .ok (.iaload, 1) := by decide +kernel
theorem dX2_isOnTrip_96 : decode cX2_isOnTrip 96 = .ok (.invokestatic 56, 3) := by decide +kernel
theorem dX2_isOnTrip_99 : decode cX2_isOnTrip 99 = .ok (.putfield 21, 3) := by decide +kernel
theorem dX2_isOnTrip_102 : decode cX2_isOnTrip 102 = .ok (.iload_n 3, 1) := by decide +kernel
theorem dX2_isOnTrip_103 : decode cX2_isOnTrip 103 = .ok (.ireturn, 1) := by decide +kernel
theorem dX2_addMinutes_0 : decode cX2_addMinutes 0 = .ok (.iload_n 3, 1) := by decide +kernel
theorem dX2_addMinutes_1 : decode cX2_addMinutes 1 = .ok (.ifCond .eq 17, 3) := by decide +kernel
theorem dX2_addMinutes_4 : decode cX2_addMinutes 4 = .ok (.iload_n 2, 1) := by decide +kernel
theorem dX2_addMinutes_5 : decode cX2_addMinutes 5 = .ok (.ifCond .ne 13, 3) := by decide +kernel
theorem dX2_addMinutes_8 : decode cX2_addMinutes 8 = .ok (.aload_n 0, 1) := by decide +kernel
theorem dX2_addMinutes_9 : decode cX2_addMinutes 9 = .ok (.dup, 1) := by decide +kernel
theorem dX2_addMinutes_10 : decode cX2_addMinutes 10 = .ok (.getfield 24, 3) := by decide +kernel
theorem dX2_addMinutes_13 : decode cX2_addMinutes 13 = .ok (.iload_n 1, 1) := by decide +kernel
theorem dX2_addMinutes_14 : decode cX2_addMinutes 14 = .ok (.iadd, 1) := by decide +kernel
theorem dX2_addMinutes_15 : decode cX2_addMinutes 15 = .ok (.putfield 24, 3) := by decide +kernel
theorem dX2_addMinutes_18 : decode cX2_addMinutes 18 = .ok (.iload_n 2, 1) := by decide +kernel
theorem dX2_addMinutes_19 : decode cX2_addMinutes 19 = .ok (.iconst 2, 1) := by decide +kernel
theorem dX2_addMinutes_20 : decode cX2_addMinutes 20 = .ok (.if_icmp .lt 13, 3) := by decide +kernel
theorem dX2_addMinutes_23 : decode cX2_addMinutes 23 = .ok (.aload_n 0, 1) := by decide +kernel
theorem dX2_addMinutes_24 : decode cX2_addMinutes 24 = .ok (.dup, 1) := by decide +kernel
theorem dX2_addMinutes_25 : decode cX2_addMinutes 25 = .ok (.getfield 27, 3) := by decide +kernel
theorem dX2_addMinutes_28 : decode cX2_addMinutes 28 = .ok (.iload_n 1, 1) := by decide +kernel
theorem dX2_addMinutes_29 : decode cX2_addMinutes 29 = .ok (.iadd, 1) := by decide +kernel
theorem dX2_addMinutes_30 : decode cX2_addMinutes 30 = .ok (.putfield 27, 3) := by decide +kernel
theorem dX2_addMinutes_33 : decode cX2_addMinutes 33 = .ok (.iload_n 2, 1) := by decide +kernel
theorem dX2_addMinutes_34 : decode cX2_addMinutes 34 = .ok (.iconst 1, 1) := by decide +kernel
theorem dX2_addMinutes_35 : decode cX2_addMinutes 35 = .ok (.if_icmp .lt 17, 3) := by decide +kernel
theorem dX2_addMinutes_38 : decode cX2_addMinutes 38 = .ok (.iload_n 3, 1) := by decide +kernel
theorem dX2_addMinutes_39 : decode cX2_addMinutes 39 = .ok (.ifCond .ne 13, 3) := by decide +kernel
theorem dX2_addMinutes_42 : decode cX2_addMinutes 42 = .ok (.aload_n 0, 1) := by decide +kernel
theorem dX2_addMinutes_43 : decode cX2_addMinutes 43 = .ok (.dup, 1) := by decide +kernel
theorem dX2_addMinutes_44 : decode cX2_addMinutes 44 = .ok (.getfield 30, 3) := by decide +kernel
theorem dX2_addMinutes_47 : decode cX2_addMinutes 47 = .ok (.iload_n 1, 1) := by decide +kernel
theorem dX2_addMinutes_48 : decode cX2_addMinutes 48 = .ok (.iadd, 1) := by decide +kernel
theorem dX2_addMinutes_49 : decode cX2_addMinutes 49 = .ok (.putfield 30, 3) := by decide +kernel
theorem dX2_addMinutes_52 : decode cX2_addMinutes 52 = .ok (.return_, 1) := by decide +kernel
theorem dX3_init_0 : decode cX3_init 0 = .ok (.aload_n 0, 1) := by decide +kernel
theorem dX3_init_1 : decode cX3_init 1 = .ok (.invokespecial 3, 3) := by decide +kernel
theorem dX3_init_4 : decode cX3_init 4 = .ok (.aload_n 0, 1) := by decide +kernel
theorem dX3_init_5 : decode cX3_init 5 = .ok (.bipush 61, 2) := by decide +kernel
theorem dX3_init_7 : decode cX3_init 7 = .ok (.newarray .int, 2) := by decide +kernel
theorem dX3_init_9 : decode cX3_init 9 = .ok (.putfield 11, 3) := by decide +kernel
theorem dX3_init_12 : decode cX3_init 12 = .ok (.aload_n 0, 1) := by decide +kernel
theorem dX3_init_13 : decode cX3_init 13 = .ok (.bipush 61, 2) := by decide +kernel
theorem dX3_init_15 : decode cX3_init 15 = .ok (.newarray .int, 2) := by decide +kernel
theorem dX3_init_17 : decode cX3_init 17 = .ok (.putfield 15, 3) := by decide +kernel
theorem dX3_init_20 : decode cX3_init 20 = .ok (.aload_n 0, 1) := by decide +kernel
theorem dX3_init_21 : decode cX3_init 21 = .ok (.bipush 61, 2) := by decide +kernel
theorem dX3_init_23 : decode cX3_init 23 = .ok (.newarray .int, 2) := by decide +kernel
theorem dX3_init_25 : decode cX3_init 25 = .ok (.putfield 18, 3) := by decide +kernel
theorem dX3_init_28 : decode cX3_init 28 = .ok (.aload_n 0, 1) := by decide +kernel
theorem dX3_init_29 : decode cX3_init 29 = .ok (.bipush 61, 2) := by decide +kernel
theorem dX3_init_31 : decode cX3_init 31 = .ok (.newarray .int, 2) := by decide +kernel
theorem dX3_init_33 : decode cX3_init 33 = .ok (.putfield 21, 3) := by decide +kernel
theorem dX3_init_36 : decode cX3_init 36 = .ok (.aload_n 0, 1) := by decide +kernel
theorem dX3_init_37 : decode cX3_init 37 = .ok (.bipush 61, 2) := by decide +kernel
theorem dX3_init_39 : decode cX3_init 39 = .ok (.newarray .int, 2) := by decide +kernel
theorem dX3_init_41 : decode cX3_init 41 = .ok (.putfield 24, 3) := by decide +kernel
theorem dX3_init_44 : decode cX3_init 44 = .ok (.aload_n 0, 1) := by decide +kernel
theorem dX3_init_45 : decode cX3_init 45 = .ok (.bipush 61, 2) := by decide +kernel
theorem dX3_init_47 : decode cX3_init 47 = .ok (.newarray .int, 2) := by decide +kernel
theorem dX3_init_49 : decode cX3_init 49 = .ok (.putfield 27, 3) := by decide +kernel
theorem dX3_init_52 : decode cX3_init 52 = .ok (.aload_n 0, 1) := by decide +kernel
theorem dX3_init_53 : decode cX3_init 53 = .ok (.bipush 61, 2) := by decide +kernel
theorem dX3_init_55 : decode cX3_init 55 = .ok (.newarray .int, 2) := by decide +kernel
theorem dX3_init_57 : decode cX3_init 57 = .ok (.putfield 30, 3) := by decide +kernel
theorem dX3_init_60 : decode cX3_init 60 = .ok (.aload_n 0, 1) := by decide +kernel
theorem dX3_init_61 : decode cX3_init 61 = .ok (.iconst 0, 1) := by decide +kernel
theorem dX3_init_62 : decode cX3_init 62 = .ok (.putfield 33, 3) := by decide +kernel
theorem dX3_init_65 : decode cX3_init 65 = .ok (.return_, 1) := by decide +kernel
theorem dX3_addSpan_0 : decode cX3_addSpan 0 = .ok (.aload_n 0, 1) := by decide +kernel
theorem dX3_addSpan_1 : decode cX3_addSpan 1 = .ok (.getfield 33, 3) := by decide +kernel
theorem dX3_addSpan_4 : decode cX3_addSpan 4 = .ok (.bipush 61, 2) := by decide +kernel
theorem dX3_addSpan_6 : decode cX3_addSpan 6 = .ok (.if_icmp .ge 43, 3) := by decide +kernel
theorem dX3_addSpan_9 : decode cX3_addSpan 9 = .ok (.aload_n 0, 1) := by decide +kernel
theorem dX3_addSpan_10 : decode cX3_addSpan 10 = .ok (.getfield 11, 3) := by decide +kernel
theorem dX3_addSpan_13 : decode cX3_addSpan 13 = .ok (.aload_n 0, 1) := by decide +kernel
theorem dX3_addSpan_14 : decode cX3_addSpan 14 = .ok (.getfield 33, 3) := by decide +kernel
theorem dX3_addSpan_17 : decode cX3_addSpan 17 = .ok (.iload_n 1, 1) := by decide +kernel
theorem dX3_addSpan_18 : decode cX3_addSpan 18 = .ok (.iastore, 1) := by decide +kernel
theorem dX3_addSpan_19 : decode cX3_addSpan 19 = .ok (.aload_n 0, 1) := by decide +kernel
theorem dX3_addSpan_20 : decode cX3_addSpan 20 = .ok (.getfield 15, 3) := by decide +kernel
theorem dX3_addSpan_23 : decode cX3_addSpan 23 = .ok (.aload_n 0, 1) := by decide +kernel
theorem dX3_addSpan_24 : decode cX3_addSpan 24 = .ok (.getfield 33, 3) := by decide +kernel
theorem dX3_addSpan_27 : decode cX3_addSpan 27 = .ok (.iload_n 2, 1) := by decide +kernel
theorem dX3_addSpan_28 : decode cX3_addSpan 28 = .ok (.iastore, 1) := by decide +kernel
theorem dX3_addSpan_29 : decode cX3_addSpan 29 = .ok (.aload_n 0, 1) := by decide +kernel
theorem dX3_addSpan_30 : decode cX3_addSpan 30 = .ok (.getfield 24, 3) := by decide +kernel
theorem dX3_addSpan_33 : decode cX3_addSpan 33 = .ok (.aload_n 0, 1) := by decide +kernel
theorem dX3_addSpan_34 : decode cX3_addSpan 34 = .ok (.getfield 33, 3) := by decide +kernel
theorem dX3_addSpan_37 : decode cX3_addSpan 37 = .ok (.iload_n 3, 1) := by decide +kernel
theorem dX3_addSpan_38 : decode cX3_addSpan 38 = .ok (.iastore, 1) := by decide +kernel
theorem dX3_addSpan_39 : decode cX3_addSpan 39 = .ok (.aload_n 0, 1) := by decide +kernel
theorem dX3_addSpan_40 : decode cX3_addSpan 40 = .ok (.dup, 1) := by decide +kernel
theorem dX3_addSpan_41 : decode cX3_addSpan 41 = .ok (.getfield 33, 3) := by decide +kernel
theorem dX3_addSpan_44 : decode cX3_addSpan 44 = .ok (.iconst 1, 1) := by decide +kernel
theorem dX3_addSpan_45 : decode cX3_addSpan 45 = .ok (.iadd, 1) := by decide +kernel
theorem dX3_addSpan_46 : decode cX3_addSpan 46 = .ok (.putfield 33, 3) := by decide +kernel
theorem dX3_addSpan_49 : decode cX3_addSpan 49 = .ok (.return_, 1) := by decide +kernel
theorem dX3_setLast_0 : decode cX3_setLast 0 = .ok (.aload_n 0, 1) := by decide +kernel
theorem dX3_setLast_1 : decode cX3_setLast 1 = .ok (.getfield 33, 3) := by decide +kernel
theorem dX3_setLast_4 : decode cX3_setLast 4 = .ok (.ifCond .le 52, 3) := by decide +kernel
theorem dX3_setLast_7 : decode cX3_setLast 7 = .ok (.aload_n 0, 1) := by decide +kernel
theorem dX3_setLast_8 : decode cX3_setLast 8 = .ok (.getfield 18, 3) := by decide +kernel
theorem dX3_setLast_11 : decode cX3_setLast 11 = .ok (.aload_n 0, 1) := by decide +kernel
theorem dX3_setLast_12 : decode cX3_setLast 12 = .ok (.getfield 33, 3) := by decide +kernel
theorem dX3_setLast_15 : decode cX3_setLast 15 = .ok (.iconst 1, 1) := by decide +kernel
theorem dX3_setLast_16 : decode cX3_setLast 16 = .ok (.isub, 1) := by decide +kernel
theorem dX3_setLast_17 : decode cX3_setLast 17 = .ok (.iload_n 1, 1) := by decide +kernel
theorem dX3_setLast_18 : decode cX3_setLast 18 = .ok (.iastore, 1) := by decide +kernel
theorem dX3_setLast_19 : decode cX3_setLast 19 = .ok (.aload_n 0, 1) := by decide +kernel
theorem dX3_setLast_20 : decode cX3_setLast 20 = .ok (.getfield 21, 3) := by decide +kernel
theorem dX3_setLast_23 : decode cX3_setLast 23 = .ok (.aload_n 0, 1) := by decide +kernel
theorem dX3_setLast_24 : decode cX3_setLast 24 = .ok (.getfield 33, 3) := by decide +kernel
theorem dX3_setLast_27 : decode cX3_setLast 27 = .ok (.iconst 1, 1) := by decide +kernel
theorem dX3_setLast_28 : decode cX3_setLast 28 = .ok (.isub, 1) := by decide +kernel
theorem dX3_setLast_29 : decode cX3_setLast 29 = .ok (.iload_n 2, 1) := by decide +kernel
theorem dX3_setLast_30 : decode cX3_setLast 30 = .ok (.iastore, 1) := by decide +kernel
theorem dX3_setLast_31 : decode cX3_setLast 31 = .ok (.aload_n 0, 1) := by decide +kernel
theorem dX3_setLast_32 : decode cX3_setLast 32 = .ok (.getfield 27, 3) := by decide +kernel
theorem dX3_setLast_35 : decode cX3_setLast 35 = .ok (.aload_n 0, 1) := by decide +kernel
theorem dX3_setLast_36 : decode cX3_setLast 36 = .ok (.getfield 33, 3) := by decide +kernel
theorem dX3_setLast_39 : decode cX3_setLast 39 = .ok (.iconst 1, 1) := by decide +kernel
theorem dX3_setLast_40 : decode cX3_setLast 40 = .ok (.isub, 1) := by decide +kernel
theorem dX3_setLast_41 : decode cX3_setLast 41 = .ok (.iload_n 3, 1) := by decide +kernel
theorem dX3_setLast_42 : decode cX3_setLast 42 = .ok (.iastore, 1) := by decide +kernel
theorem dX3_setLast_43 : decode cX3_setLast 43 = .ok (.aload_n 0, 1) := by decide +kernel
theorem dX3_setLast_44 : decode cX3_setLast 44 = .ok (.getfield 30, 3) := by decide +kernel
theorem dX3_setLast_47 : decode cX3_setLast 47 = .ok (.aload_n 0, 1) := by decide +kernel
theorem dX3_setLast_48 : decode cX3_setLast 48 = .ok (.getfield 33, 3) := by decide +kernel
theorem dX3_setLast_51 : decode cX3_setLast 51 = .ok (.iconst 1, 1) := by decide +kernel
theorem dX3_setLast_52 : decode cX3_setLast 52 = .ok (.isub, 1) := by decide +kernel
theorem dX3_setLast_53 : decode cX3_setLast 53 = .ok (.iload 4, 2) := by decide +kernel
theorem dX3_setLast_55 : decode cX3_setLast 55 = .ok (.iastore, 1) := by decide +kernel
theorem dX3_setLast_56 : decode cX3_setLast 56 = .ok (.return_, 1) := by decide +kernel
theorem dX3_overAndLate_0 : decode cX3_overAndLate 0 = .ok (.iconst 0, 1) := by decide +kernel
theorem dX3_overAndLate_1 : decode cX3_overAndLate 1 = .ok (.istore_n 1, 1) := by decide +kernel
theorem dX3_overAndLate_2 : decode cX3_overAndLate 2 = .ok (.iconst 0, 1) := by decide +kernel
theorem dX3_overAndLate_3 : decode cX3_overAndLate 3 = .ok (.istore_n 2, 1) := by decide +kernel
theorem dX3_overAndLate_4 : decode cX3_overAndLate 4 = .ok (.iload_n 2, 1) := by decide +kernel
theorem dX3_overAndLate_5 : decode cX3_overAndLate 5 = .ok (.aload_n 0, 1) := by decide +kernel
theorem dX3_overAndLate_6 : decode cX3_overAndLate 6 = .ok (.getfield 33, 3) := by decide +kernel
theorem dX3_overAndLate_9 : decode cX3_overAndLate 9 = .ok (.if_icmp .ge 25, 3) := by decide +kernel
theorem dX3_overAndLate_12 : decode cX3_overAndLate 12 = .ok (.iload_n 1, 1) := by decide +kernel
theorem dX3_overAndLate_13 : decode cX3_overAndLate 13 = .ok (.aload_n 0, 1) := by decide +kernel
theorem dX3_overAndLate_14 : decode cX3_overAndLate 14 = .ok (.getfield 27, 3) := by decide +kernel
theorem dX3_overAndLate_17 : decode cX3_overAndLate 17 = .ok (.iload_n 2, 1) := by decide +kernel
theorem dX3_overAndLate_18 : decode cX3_overAndLate 18 = .ok (.iaload, 1) := by decide +kernel
theorem dX3_overAndLate_19 : decode cX3_overAndLate 19 = .ok (.aload_n 0, 1) := by decide +kernel
theorem dX3_overAndLate_20 : decode cX3_overAndLate 20 = .ok (.getfield 30, 3) := by decide +kernel
theorem dX3_overAndLate_23 : decode cX3_overAndLate 23 = .ok (.iload_n 2, 1) := by decide +kernel
theorem dX3_overAndLate_24 : decode cX3_overAndLate 24 = .ok (.iaload, 1) := by decide +kernel
theorem dX3_overAndLate_25 : decode cX3_overAndLate 25 = .ok (.iadd, 1) := by decide +kernel
theorem dX3_overAndLate_26 : decode cX3_overAndLate 26 = .ok (.iadd, 1) := by decide +kernel
theorem dX3_overAndLate_27 : decode cX3_overAndLate 27 = .ok (.istore_n 1, 1) := by decide +kernel
theorem dX3_overAndLate_28 : decode cX3_overAndLate 28 = .ok (.iinc 2 1, 3) := by decide +kernel
theorem dX3_overAndLate_31 : decode cX3_overAndLate 31 = .ok (.goto (-27), 3) := by decide +kernel
theorem dX3_overAndLate_34 : decode cX3_overAndLate 34 = .ok (.iload_n 1, 1) := by decide +kernel
theorem dX3_overAndLate_35 : decode cX3_overAndLate 35 = .ok (.ireturn, 1) := by decide +kernel
theorem dX3_tellOverAndLate_0 : decode cX3_tellOverAndLate 0 = .ok (.iconst 0, 1) := by decide +kernel
theorem dX3_tellOverAndLate_1 : decode cX3_tellOverAndLate 1 = .ok (.istore 4, 2) := by decide +kernel
theorem dX3_tellOverAndLate_3 : decode cX3_tellOverAndLate 3 = .ok (.iconst 0, 1) := by decide +kernel
theorem dX3_tellOverAndLate_4 : decode cX3_tellOverAndLate 4 = .ok (.istore 5, 2) := by decide +kernel
theorem dX3_tellOverAndLate_6 : decode cX3_tellOverAndLate 6 = .ok (.iload 5, 2) := by decide +kernel
theorem dX3_tellOverAndLate_8 : decode cX3_tellOverAndLate 8 = .ok (.aload_n 0, 1) := by decide +kernel
theorem dX3_tellOverAndLate_9 : decode cX3_tellOverAndLate 9 = .ok (.getfield 33, 3) := by decide +kernel
theorem dX3_tellOverAndLate_12 : decode cX3_tellOverAndLate 12 = .ok (.if_icmp .ge 108, 3) := by decide +kernel
theorem dX3_tellOverAndLate_15 : decode cX3_tellOverAndLate 15 = .ok (.aload_n 0, 1) := by decide +kernel
theorem dX3_tellOverAndLate_16 : decode cX3_tellOverAndLate 16 = .ok (.getfield 27, 3) := by decide +kernel
theorem dX3_tellOverAndLate_19 : decode cX3_tellOverAndLate 19 = .ok (.iload 5, 2) := by decide +kernel
theorem dX3_tellOverAndLate_21 : decode cX3_tellOverAndLate 21 = .ok (.iaload, 1) := by decide +kernel
theorem dX3_tellOverAndLate_22 : decode cX3_tellOverAndLate 22 = .ok (.ifCond .le 47, 3) := by decide +kernel
theorem dX3_tellOverAndLate_25 : decode cX3_tellOverAndLate 25 = .ok (.aload_n 2, 1) := by decide +kernel
theorem dX3_tellOverAndLate_26 : decode cX3_tellOverAndLate 26 = .ok (.getfield 37, 3) := by decide +kernel
theorem dX3_tellOverAndLate_29 : decode cX3_tellOverAndLate 29 = .ok (.aload_n 0, 1) := by decide +kernel
theorem dX3_tellOverAndLate_30 : decode cX3_tellOverAndLate 30 = .ok (.getfield 21, 3) := by decide +kernel
theorem dX3_tellOverAndLate_33 : decode cX3_tellOverAndLate 33 = .ok (.iload 5, 2) := by decide +kernel
theorem dX3_tellOverAndLate_35 : decode cX3_tellOverAndLate 35 = .ok (.iaload, 1) := by decide +kernel
theorem dX3_tellOverAndLate_36 : decode cX3_tellOverAndLate 36 = .ok (.iconst 1, 1) := by decide +kernel
theorem dX3_tellOverAndLate_37 : decode cX3_tellOverAndLate 37 = .ok (.if_icmp .ne 7, 3) := by decide +kernel
theorem dX3_tellOverAndLate_40 : decode cX3_tellOverAndLate 40 = .ok (.iconst 5, 1) := by decide +kernel
theorem dX3_tellOverAndLate_41 : decode cX3_tellOverAndLate 41 = .ok (.goto 4, 3) := by decide +kernel
theorem dX3_tellOverAndLate_44 : decode cX3_tellOverAndLate 44 = .ok (.iconst 4, 1) := by decide +kernel
theorem dX3_tellOverAndLate_45 : decode cX3_tellOverAndLate 45 = .ok (.iaload, 1) := by decide +kernel
theorem dX3_tellOverAndLate_46 : decode cX3_tellOverAndLate 46 = .ok (.istore 6, 2) := by decide +kernel
theorem dX3_tellOverAndLate_48 : decode cX3_tellOverAndLate 48 = .ok (.aload_n 1, 1) := by decide +kernel
theorem dX3_tellOverAndLate_49 : decode cX3_tellOverAndLate 49 = .ok (.aload_n 3, 1) := by decide +kernel
theorem dX3_tellOverAndLate_50 : decode cX3_tellOverAndLate 50 = .ok (.iload 4, 2) := by decide +kernel
theorem dX3_tellOverAndLate_52 : decode cX3_tellOverAndLate 52 = .ok (.iload 6, 2) := by decide +kernel
theorem dX3_tellOverAndLate_54 : decode cX3_tellOverAndLate 54 = .ok (.iadd, 1) := by decide +kernel
theorem dX3_tellOverAndLate_55 : decode cX3_tellOverAndLate 55 = .ok (.invokevirtual 42, 3) := by decide +kernel
theorem dX3_tellOverAndLate_58 : decode cX3_tellOverAndLate 58 = .ok (.iconst 2, 1) := by decide +kernel
theorem dX3_tellOverAndLate_59 : decode cX3_tellOverAndLate 59 = .ok (.aload_n 0, 1) := by decide +kernel
theorem dX3_tellOverAndLate_60 : decode cX3_tellOverAndLate 60 = .ok (.getfield 27, 3) := by decide +kernel
theorem dX3_tellOverAndLate_63 : decode cX3_tellOverAndLate 63 = .ok (.iload 5, 2) := by decide +kernel
theorem dX3_tellOverAndLate_65 : decode cX3_tellOverAndLate 65 = .ok (.iaload, 1) := by decide +kernel
theorem dX3_tellOverAndLate_66 : decode cX3_tellOverAndLate 66 = .ok (.invokevirtual 48, 3) := by decide +kernel
theorem dX3_tellOverAndLate_69 : decode cX3_tellOverAndLate 69 = .ok (.aload_n 0, 1) := by decide +kernel
theorem dX3_tellOverAndLate_70 : decode cX3_tellOverAndLate 70 = .ok (.getfield 30, 3) := by decide +kernel
theorem dX3_tellOverAndLate_73 : decode cX3_tellOverAndLate 73 = .ok (.iload 5, 2) := by decide +kernel
theorem dX3_tellOverAndLate_75 : decode cX3_tellOverAndLate 75 = .ok (.iaload, 1) := by decide +kernel
theorem dX3_tellOverAndLate_76 : decode cX3_tellOverAndLate 76 = .ok (.ifCond .le 26, 3) := by decide +kernel
theorem dX3_tellOverAndLate_79 : decode cX3_tellOverAndLate 79 = .ok (.aload_n 1, 1) := by decide +kernel
theorem dX3_tellOverAndLate_80 : decode cX3_tellOverAndLate 80 = .ok (.aload_n 0, 1) := by decide +kernel
theorem dX3_tellOverAndLate_81 : decode cX3_tellOverAndLate 81 = .ok (.getfield 11, 3) := by decide +kernel
theorem dX3_tellOverAndLate_84 : decode cX3_tellOverAndLate 84 = .ok (.iload 5, 2) := by decide +kernel
theorem dX3_tellOverAndLate_86 : decode cX3_tellOverAndLate 86 = .ok (.iaload, 1) := by decide +kernel
theorem dX3_tellOverAndLate_87 : decode cX3_tellOverAndLate 87 = .ok (.sipush 1440, 3) := by decide +kernel
theorem dX3_tellOverAndLate_90 : decode cX3_tellOverAndLate 90 = .ok (.iadd, 1) := by decide +kernel
theorem dX3_tellOverAndLate_91 : decode cX3_tellOverAndLate 91 = .ok (.iconst 3, 1) := by decide +kernel
theorem dX3_tellOverAndLate_92 : decode cX3_tellOverAndLate 92 = .ok (.aload_n 0, 1) := by decide +kernel
theorem dX3_tellOverAndLate_93 : decode cX3_tellOverAndLate 93 = .ok (.getfield 30, 3) := by decide +kernel
theorem dX3_tellOverAndLate_96 : decode cX3_tellOverAndLate 96 = .ok (.iload 5, 2) := by decide +kernel
theorem dX3_tellOverAndLate_98 : decode cX3_tellOverAndLate 98 = .ok (.iaload, 1) := by decide +kernel
theorem dX3_tellOverAndLate_99 : decode cX3_tellOverAndLate 99 = .ok (.invokevirtual 48, 3) := by decide +kernel
theorem dX3_tellOverAndLate_102 : decode cX3_tellOverAndLate 102 = .ok (.iload 4, 2) := by decide +kernel
theorem dX3_tellOverAndLate_104 : decode cX3_tellOverAndLate 104 = .ok (.aload_n 0, 1) := by decide +kernel
theorem dX3_tellOverAndLate_105 : decode cX3_tellOverAndLate 105 = .ok (.getfield 18, 3) := by decide +kernel
theorem dX3_tellOverAndLate_108 : decode cX3_tellOverAndLate 108 = .ok (.iload 5, 2) := by decide +kernel
theorem dX3_tellOverAndLate_110 : decode cX3_tellOverAndLate 110 = .ok (.iaload, 1) := by decide +kernel
theorem dX3_tellOverAndLate_111 : decode cX3_tellOverAndLate 111 = .ok (.iadd, 1) := by decide +kernel
theorem dX3_tellOverAndLate_112 : decode cX3_tellOverAndLate 112 = .ok (.istore 4, 2) := by decide +kernel
theorem dX3_tellOverAndLate_114 : decode cX3_tellOverAndLate 114 = .ok (.iinc 5 1, 3) := by decide +kernel
theorem dX3_tellOverAndLate_117 : decode cX3_tellOverAndLate 117 = .ok (.goto (-111), 3) := by decide +kernel
theorem dX3_tellOverAndLate_120 : decode cX3_tellOverAndLate 120 = .ok (.return_, 1) := by decide +kernel
theorem dX3_tell_0 : decode cX3_tell 0 = .ok (.iload_n 1, 1) := by decide +kernel
theorem dX3_tell_1 : decode cX3_tell 1 = .ok (.ifCond .lt 11, 3) := by decide +kernel
theorem dX3_tell_4 : decode cX3_tell 4 = .ok (.iload_n 1, 1) := by decide +kernel
theorem dX3_tell_5 : decode cX3_tell 5 = .ok (.aload_n 0, 1) := by decide +kernel
theorem dX3_tell_6 : decode cX3_tell 6 = .ok (.getfield 33, 3) := by decide +kernel
theorem dX3_tell_9 : decode cX3_tell 9 = .ok (.if_icmp .lt 5, 3) := by decide +kernel
theorem dX3_tell_12 : decode cX3_tell 12 = .ok (.iconst (-1), 1) := by decide +kernel
theorem dX3_tell_13 : decode cX3_tell 13 = .ok (.ireturn, 1) := by decide +kernel
theorem dX3_tell_14 : decode cX3_tell 14 = .ok (.iload_n 2, 1) := by decide +kernel
theorem dX3_tell_15 : decode cX3_tell 15 = .ok (.tableswitch 68 0 4 #[33, 40, 47, 54, 61], 33) := by decide +kernel
theorem dX3_tell_48 : decode cX3_tell 48 = .ok (.aload_n 0, 1) := by decide +kernel
theorem dX3_tell_49 : decode cX3_tell 49 = .ok (.getfield 11, 3) := by decide +kernel
theorem dX3_tell_52 : decode cX3_tell 52 = .ok (.iload_n 1, 1) := by decide +kernel
theorem dX3_tell_53 : decode cX3_tell 53 = .ok (.iaload, 1) := by decide +kernel
theorem dX3_tell_54 : decode cX3_tell 54 = .ok (.ireturn, 1) := by decide +kernel
theorem dX3_tell_55 : decode cX3_tell 55 = .ok (.aload_n 0, 1) := by decide +kernel
theorem dX3_tell_56 : decode cX3_tell 56 = .ok (.getfield 15, 3) := by decide +kernel
theorem dX3_tell_59 : decode cX3_tell 59 = .ok (.iload_n 1, 1) := by decide +kernel
theorem dX3_tell_60 : decode cX3_tell 60 = .ok (.iaload, 1) := by decide +kernel
theorem dX3_tell_61 : decode cX3_tell 61 = .ok (.ireturn, 1) := by decide +kernel
theorem dX3_tell_62 : decode cX3_tell 62 = .ok (.aload_n 0, 1) := by decide +kernel
theorem dX3_tell_63 : decode cX3_tell 63 = .ok (.getfield 18, 3) := by decide +kernel
theorem dX3_tell_66 : decode cX3_tell 66 = .ok (.iload_n 1, 1) := by decide +kernel
theorem dX3_tell_67 : decode cX3_tell 67 = .ok (.iaload, 1) := by decide +kernel
theorem dX3_tell_68 : decode cX3_tell 68 = .ok (.ireturn, 1) := by decide +kernel
theorem dX3_tell_69 : decode cX3_tell 69 = .ok (.aload_n 0, 1) := by decide +kernel
theorem dX3_tell_70 : decode cX3_tell 70 = .ok (.getfield 21, 3) := by decide +kernel
theorem dX3_tell_73 : decode cX3_tell 73 = .ok (.iload_n 1, 1) := by decide +kernel
theorem dX3_tell_74 : decode cX3_tell 74 = .ok (.iaload, 1) := by decide +kernel
theorem dX3_tell_75 : decode cX3_tell 75 = .ok (.ireturn, 1) := by decide +kernel
theorem dX3_tell_76 : decode cX3_tell 76 = .ok (.aload_n 0, 1) := by decide +kernel
theorem dX3_tell_77 : decode cX3_tell 77 = .ok (.getfield 24, 3) := by decide +kernel
theorem dX3_tell_80 : decode cX3_tell 80 = .ok (.iload_n 1, 1) := by decide +kernel
theorem dX3_tell_81 : decode cX3_tell 81 = .ok (.iaload, 1) := by decide +kernel
theorem dX3_tell_82 : decode cX3_tell 82 = .ok (.ireturn, 1) := by decide +kernel
theorem dX3_tell_83 : decode cX3_tell 83 = .ok (.iconst (-1), 1) := by decide +kernel
theorem dX3_tell_84 : decode cX3_tell 84 = .ok (.ireturn, 1) := by decide +kernel
theorem dX4_init_0 : decode cX4_init 0 = .ok (.aload_n 0, 1) := by decide +kernel
theorem dX4_init_1 : decode cX4_init 1 = .ok (.invokespecial 3, 3) := by decide +kernel
theorem dX4_init_4 : decode cX4_init 4 = .ok (.aload_n 0, 1) := by decide +kernel
theorem dX4_init_5 : decode cX4_init 5 = .ok (.getstatic 9, 3) := by decide +kernel
theorem dX4_init_8 : decode cX4_init 8 = .ok (.invokevirtual 15, 3) := by decide +kernel
theorem dX4_init_11 : decode cX4_init 11 = .ok (.checkcast 16, 3) := by decide +kernel
theorem dX4_init_14 : decode cX4_init 14 = .ok (.putfield 20, 3) := by decide +kernel
theorem dX4_init_17 : decode cX4_init 17 = .ok (.aload_n 0, 1) := by decide +kernel
theorem dX4_init_18 : decode cX4_init 18 = .ok (.getstatic 9, 3) := by decide +kernel
theorem dX4_init_21 : decode cX4_init 21 = .ok (.arraylength, 1) := by decide +kernel
theorem dX4_init_22 : decode cX4_init 22 = .ok (.newarray .int, 2) := by decide +kernel
theorem dX4_init_24 : decode cX4_init 24 = .ok (.putfield 23, 3) := by decide +kernel
theorem dX4_init_27 : decode cX4_init 27 = .ok (.return_, 1) := by decide +kernel
theorem dX4_placeOf_0 : decode cX4_placeOf 0 = .ok (.iconst 0, 1) := by decide +kernel
theorem dX4_placeOf_1 : decode cX4_placeOf 1 = .ok (.istore_n 1, 1) := by decide +kernel
theorem dX4_placeOf_2 : decode cX4_placeOf 2 = .ok (.iload_n 1, 1) := by decide +kernel
theorem dX4_placeOf_3 : decode cX4_placeOf 3 = .ok (.getstatic 26, 3) := by decide +kernel
theorem dX4_placeOf_6 : decode cX4_placeOf 6 = .ok (.arraylength, 1) := by decide +kernel
theorem dX4_placeOf_7 : decode cX4_placeOf 7 = .ok (.if_icmp .ge 20, 3) := by decide +kernel
theorem dX4_placeOf_10 : decode cX4_placeOf 10 = .ok (.getstatic 26, 3) := by decide +kernel
theorem dX4_placeOf_13 : decode cX4_placeOf 13 = .ok (.iload_n 1, 1) := by decide +kernel
theorem dX4_placeOf_14 : decode cX4_placeOf 14 = .ok (.caload, 1) := by decide +kernel
theorem dX4_placeOf_15 : decode cX4_placeOf 15 = .ok (.iload_n 0, 1) := by decide +kernel
theorem dX4_placeOf_16 : decode cX4_placeOf 16 = .ok (.if_icmp .ne 5, 3) := by decide +kernel
theorem dX4_placeOf_19 : decode cX4_placeOf 19 = .ok (.iload_n 1, 1) := by decide +kernel
theorem dX4_placeOf_20 : decode cX4_placeOf 20 = .ok (.ireturn, 1) := by decide +kernel
theorem dX4_placeOf_21 : decode cX4_placeOf 21 = .ok (.iinc 1 1, 3) := by decide +kernel
theorem dX4_placeOf_24 : decode cX4_placeOf 24 = .ok (.goto (-22), 3) := by decide +kernel
theorem dX4_placeOf_27 : decode cX4_placeOf 27 = .ok (.iconst (-1), 1) := by decide +kernel
theorem dX4_placeOf_28 : decode cX4_placeOf 28 = .ok (.ireturn, 1) := by decide +kernel
theorem dX4_tell_0 : decode cX4_tell 0 = .ok (.iload_n 2, 1) := by decide +kernel
theorem dX4_tell_1 : decode cX4_tell 1 = .ok (.aload_n 1, 1) := by decide +kernel
theorem dX4_tell_2 : decode cX4_tell 2 = .ok (.arraylength, 1) := by decide +kernel
theorem dX4_tell_3 : decode cX4_tell 3 = .ok (.invokestatic 30, 3) := by decide +kernel
theorem dX4_tell_6 : decode cX4_tell 6 = .ok (.istore_n 3, 1) := by decide +kernel
theorem dX4_tell_7 : decode cX4_tell 7 = .ok (.getstatic 9, 3) := by decide +kernel
theorem dX4_tell_10 : decode cX4_tell 10 = .ok (.iconst 0, 1) := by decide +kernel
theorem dX4_tell_11 : decode cX4_tell 11 = .ok (.aload_n 0, 1) := by decide +kernel
theorem dX4_tell_12 : decode cX4_tell 12 = .ok (.getfield 23, 3) := by decide +kernel
theorem dX4_tell_15 : decode cX4_tell 15 = .ok (.iconst 0, 1) := by decide +kernel
theorem dX4_tell_16 : decode cX4_tell 16 = .ok (.getstatic 9, 3) := by decide +kernel
theorem dX4_tell_19 : decode cX4_tell 19 = .ok (.arraylength, 1) := by decide +kernel
theorem dX4_tell_20 : decode cX4_tell 20 = .ok (.invokestatic 36, 3) := by decide +kernel
theorem dX4_tell_23 : decode cX4_tell 23 = .ok (.iconst 0, 1) := by decide +kernel
theorem dX4_tell_24 : decode cX4_tell 24 = .ok (.istore 4, 2) := by decide +kernel
theorem dX4_tell_26 : decode cX4_tell 26 = .ok (.iload 4, 2) := by decide +kernel
theorem dX4_tell_28 : decode cX4_tell 28 = .ok (.iload_n 3, 1) := by decide +kernel
theorem dX4_tell_29 : decode cX4_tell 29 = .ok (.if_icmp .ge 158, 3) := by decide +kernel
theorem dX4_tell_32 : decode cX4_tell 32 = .ok (.aload_n 1, 1) := by decide +kernel
theorem dX4_tell_33 : decode cX4_tell 33 = .ok (.iload 4, 2) := by decide +kernel
theorem dX4_tell_35 : decode cX4_tell 35 = .ok (.iaload, 1) := by decide +kernel
theorem dX4_tell_36 : decode cX4_tell 36 = .ok (.invokestatic 42, 3) := by decide +kernel
theorem dX4_tell_39 : decode cX4_tell 39 = .ok (.istore 5, 2) := by decide +kernel
theorem dX4_tell_41 : decode cX4_tell 41 = .ok (.iload 5, 2) := by decide +kernel
theorem dX4_tell_43 : decode cX4_tell 43 = .ok (.iconst (-1), 1) := by decide +kernel
theorem dX4_tell_44 : decode cX4_tell 44 = .ok (.if_icmp .ne 9, 3) := by decide +kernel
theorem dX4_tell_47 : decode cX4_tell 47 = .ok (.bipush 100, 2) := by decide +kernel
theorem dX4_tell_49 : decode cX4_tell 49 = .ok (.iload 4, 2) := by decide +kernel
theorem dX4_tell_51 : decode cX4_tell 51 = .ok (.iadd, 1) := by decide +kernel
theorem dX4_tell_52 : decode cX4_tell 52 = .ok (.ireturn, 1) := by decide +kernel
theorem dX4_tell_53 : decode cX4_tell 53 = .ok (.iload 4, 2) := by decide +kernel
theorem dX4_tell_55 : decode cX4_tell 55 = .ok (.iconst 1, 1) := by decide +kernel
theorem dX4_tell_56 : decode cX4_tell 56 = .ok (.iadd, 1) := by decide +kernel
theorem dX4_tell_57 : decode cX4_tell 57 = .ok (.istore 6, 2) := by decide +kernel
theorem dX4_tell_59 : decode cX4_tell 59 = .ok (.aload_n 1, 1) := by decide +kernel
theorem dX4_tell_60 : decode cX4_tell 60 = .ok (.iload 6, 2) := by decide +kernel
theorem dX4_tell_62 : decode cX4_tell 62 = .ok (.iload_n 3, 1) := by decide +kernel
theorem dX4_tell_63 : decode cX4_tell 63 = .ok (.invokestatic 46, 3) := by decide +kernel
theorem dX4_tell_66 : decode cX4_tell 66 = .ok (.istore 7, 2) := by decide +kernel
theorem dX4_tell_68 : decode cX4_tell 68 = .ok (.iload 7, 2) := by decide +kernel
theorem dX4_tell_70 : decode cX4_tell 70 = .ok (.iload 6, 2) := by decide +kernel
theorem dX4_tell_72 : decode cX4_tell 72 = .ok (.if_icmp .ne 10, 3) := by decide +kernel
theorem dX4_tell_75 : decode cX4_tell 75 = .ok (.sipush 200, 3) := by decide +kernel
theorem dX4_tell_78 : decode cX4_tell 78 = .ok (.iload 6, 2) := by decide +kernel
theorem dX4_tell_80 : decode cX4_tell 80 = .ok (.iadd, 1) := by decide +kernel
theorem dX4_tell_81 : decode cX4_tell 81 = .ok (.ireturn, 1) := by decide +kernel
theorem dX4_tell_82 : decode cX4_tell 82 = .ok (.iload 7, 2) := by decide +kernel
theorem dX4_tell_84 : decode cX4_tell 84 = .ok (.iload 6, 2) := by decide +kernel
theorem dX4_tell_86 : decode cX4_tell 86 = .ok (.isub, 1) := by decide +kernel
theorem dX4_tell_87 : decode cX4_tell 87 = .ok (.iconst 4, 1) := by decide +kernel
theorem dX4_tell_88 : decode cX4_tell 88 = .ok (.if_icmp .le 12, 3) := by decide +kernel
theorem dX4_tell_91 : decode cX4_tell 91 = .ok (.sipush 300, 3) := by decide +kernel
theorem dX4_tell_94 : decode cX4_tell 94 = .ok (.iload 6, 2) := by decide +kernel
theorem dX4_tell_96 : decode cX4_tell 96 = .ok (.iadd, 1) := by decide +kernel
theorem dX4_tell_97 : decode cX4_tell 97 = .ok (.iconst 4, 1) := by decide +kernel
theorem dX4_tell_98 : decode cX4_tell 98 = .ok (.iadd, 1) := by decide +kernel
theorem dX4_tell_99 : decode cX4_tell 99 = .ok (.ireturn, 1) := by decide +kernel
theorem dX4_tell_100 : decode cX4_tell 100 = .ok (.aload_n 1, 1) := by decide +kernel
theorem dX4_tell_101 : decode cX4_tell 101 = .ok (.iload 6, 2) := by decide +kernel
theorem dX4_tell_103 : decode cX4_tell 103 = .ok (.iload 7, 2) := by decide +kernel
theorem dX4_tell_105 : decode cX4_tell 105 = .ok (.invokestatic 50, 3) := by decide +kernel
theorem dX4_tell_108 : decode cX4_tell 108 = .ok (.istore 8, 2) := by decide +kernel
theorem dX4_tell_110 : decode cX4_tell 110 = .ok (.iload 5, 2) := by decide +kernel
theorem dX4_tell_112 : decode cX4_tell 112 = .ok (.iload 8, 2) := by decide +kernel
theorem dX4_tell_114 : decode cX4_tell 114 = .ok (.invokestatic 53, 3) := by decide +kernel
theorem dX4_tell_117 : decode cX4_tell 117 = .ok (.ifCond .ne 10, 3) := by decide +kernel
theorem dX4_tell_120 : decode cX4_tell 120 = .ok (.sipush 400, 3) := by decide +kernel
theorem dX4_tell_123 : decode cX4_tell 123 = .ok (.iload 6, 2) := by decide +kernel
theorem dX4_tell_125 : decode cX4_tell 125 = .ok (.iadd, 1) := by decide +kernel
theorem dX4_tell_126 : decode cX4_tell 126 = .ok (.ireturn, 1) := by decide +kernel
theorem dX4_tell_127 : decode cX4_tell 127 = .ok (.aload_n 0, 1) := by decide +kernel
theorem dX4_tell_128 : decode cX4_tell 128 = .ok (.getfield 23, 3) := by decide +kernel
theorem dX4_tell_131 : decode cX4_tell 131 = .ok (.iload 5, 2) := by decide +kernel
theorem dX4_tell_133 : decode cX4_tell 133 = .ok (.iload 8, 2) := by decide +kernel
theorem dX4_tell_135 : decode cX4_tell 135 = .ok (.iastore, 1) := by decide +kernel
theorem dX4_tell_136 : decode cX4_tell 136 = .ok (.iload 7, 2) := by decide +kernel
theorem dX4_tell_138 : decode cX4_tell 138 = .ok (.iload_n 3, 1) := by decide +kernel
theorem dX4_tell_139 : decode cX4_tell 139 = .ok (.if_icmp .lt 23, 3) := by decide +kernel
theorem dX4_tell_142 : decode cX4_tell 142 = .ok (.aload_n 0, 1) := by decide +kernel
theorem dX4_tell_143 : decode cX4_tell 143 = .ok (.getfield 23, 3) := by decide +kernel
theorem dX4_tell_146 : decode cX4_tell 146 = .ok (.iconst 0, 1) := by decide +kernel
theorem dX4_tell_147 : decode cX4_tell 147 = .ok (.aload_n 0, 1) := by decide +kernel
theorem dX4_tell_148 : decode cX4_tell 148 = .ok (.getfield 20, 3) := by decide +kernel
theorem dX4_tell_151 : decode cX4_tell 151 = .ok (.iconst 0, 1) := by decide +kernel
theorem dX4_tell_152 : decode cX4_tell 152 = .ok (.aload_n 0, 1) := by decide +kernel
theorem dX4_tell_153 : decode cX4_tell 153 = .ok (.getfield 20, 3) := by decide +kernel
theorem dX4_tell_156 : decode cX4_tell 156 = .ok (.arraylength, 1) := by decide +kernel
theorem dX4_tell_157 : decode cX4_tell 157 = .ok (.invokestatic 36, 3) := by decide +kernel
theorem dX4_tell_160 : decode cX4_tell 160 = .ok (.iconst 0, 1) := by decide +kernel
theorem dX4_tell_161 : decode cX4_tell 161 = .ok (.ireturn, 1) := by decide +kernel
theorem dX4_tell_162 : decode cX4_tell 162 = .ok (.aload_n 1, 1) := by decide +kernel
theorem dX4_tell_163 : decode cX4_tell 163 = .ok (.iload 7, 2) := by decide +kernel
theorem dX4_tell_165 : decode cX4_tell 165 = .ok (.iaload, 1) := by decide +kernel
theorem dX4_tell_166 : decode cX4_tell 166 = .ok (.bipush 59, 2) := by decide +kernel
theorem dX4_tell_168 : decode cX4_tell 168 = .ok (.if_icmp .eq 10, 3) := by decide +kernel
theorem dX4_tell_171 : decode cX4_tell 171 = .ok (.sipush 500, 3) := by decide +kernel
theorem dX4_tell_174 : decode cX4_tell 174 = .ok (.iload 7, 2) := by decide +kernel
theorem dX4_tell_176 : decode cX4_tell 176 = .ok (.iadd, 1) := by decide +kernel
theorem dX4_tell_177 : decode cX4_tell 177 = .ok (.ireturn, 1) := by decide +kernel
theorem dX4_tell_178 : decode cX4_tell 178 = .ok (.iload 7, 2) := by decide +kernel
theorem dX4_tell_180 : decode cX4_tell 180 = .ok (.iconst 1, 1) := by decide +kernel
theorem dX4_tell_181 : decode cX4_tell 181 = .ok (.iadd, 1) := by decide +kernel
theorem dX4_tell_182 : decode cX4_tell 182 = .ok (.istore 4, 2) := by decide +kernel
theorem dX4_tell_184 : decode cX4_tell 184 = .ok (.goto (-158), 3) := by decide +kernel
theorem dX4_tell_187 : decode cX4_tell 187 = .ok (.bipush 100, 2) := by decide +kernel
theorem dX4_tell_189 : decode cX4_tell 189 = .ok (.iload_n 3, 1) := by decide +kernel
theorem dX4_tell_190 : decode cX4_tell 190 = .ok (.iadd, 1) := by decide +kernel
theorem dX4_tell_191 : decode cX4_tell 191 = .ok (.ireturn, 1) := by decide +kernel
theorem dX4_endOfDigits_0 : decode cX4_endOfDigits 0 = .ok (.iload_n 1, 1) := by decide +kernel
theorem dX4_endOfDigits_1 : decode cX4_endOfDigits 1 = .ok (.istore_n 3, 1) := by decide +kernel
theorem dX4_endOfDigits_2 : decode cX4_endOfDigits 2 = .ok (.iload_n 3, 1) := by decide +kernel
theorem dX4_endOfDigits_3 : decode cX4_endOfDigits 3 = .ok (.iload_n 2, 1) := by decide +kernel
theorem dX4_endOfDigits_4 : decode cX4_endOfDigits 4 = .ok (.if_icmp .ge 25, 3) := by decide +kernel
theorem dX4_endOfDigits_7 : decode cX4_endOfDigits 7 = .ok (.aload_n 0, 1) := by decide +kernel
theorem dX4_endOfDigits_8 : decode cX4_endOfDigits 8 = .ok (.iload_n 3, 1) := by decide +kernel
theorem dX4_endOfDigits_9 : decode cX4_endOfDigits 9 = .ok (.iaload, 1) := by decide +kernel
theorem dX4_endOfDigits_10 : decode cX4_endOfDigits 10 = .ok (.bipush 48, 2) := by decide +kernel
theorem dX4_endOfDigits_12 : decode cX4_endOfDigits 12 = .ok (.if_icmp .lt 17, 3) := by decide +kernel
theorem dX4_endOfDigits_15 : decode cX4_endOfDigits 15 = .ok (.aload_n 0, 1) := by decide +kernel
theorem dX4_endOfDigits_16 : decode cX4_endOfDigits 16 = .ok (.iload_n 3, 1) := by decide +kernel
theorem dX4_endOfDigits_17 : decode cX4_endOfDigits 17 = .ok (.iaload, 1) := by decide +kernel
theorem dX4_endOfDigits_18 : decode cX4_endOfDigits 18 = .ok (.bipush 57, 2) := by decide +kernel
theorem dX4_endOfDigits_20 : decode cX4_endOfDigits 20 = .ok (.if_icmp .gt 9, 3) := by decide +kernel
theorem dX4_endOfDigits_23 : decode cX4_endOfDigits 23 = .ok (.iinc 3 1, 3) := by decide +kernel
theorem dX4_endOfDigits_26 : decode cX4_endOfDigits 26 = .ok (.goto (-24), 3) := by decide +kernel
theorem dX4_endOfDigits_29 : decode cX4_endOfDigits 29 = .ok (.iload_n 3, 1) := by decide +kernel
theorem dX4_endOfDigits_30 : decode cX4_endOfDigits 30 = .ok (.ireturn, 1) := by decide +kernel
theorem dX4_numberOf_0 : decode cX4_numberOf 0 = .ok (.iconst 0, 1) := by decide +kernel
theorem dX4_numberOf_1 : decode cX4_numberOf 1 = .ok (.istore_n 3, 1) := by decide +kernel
theorem dX4_numberOf_2 : decode cX4_numberOf 2 = .ok (.iload_n 1, 1) := by decide +kernel
theorem dX4_numberOf_3 : decode cX4_numberOf 3 = .ok (.istore 4, 2) := by decide +kernel
theorem dX4_numberOf_5 : decode cX4_numberOf 5 = .ok (.iload 4, 2) := by decide +kernel
theorem dX4_numberOf_7 : decode cX4_numberOf 7 = .ok (.iload_n 2, 1) := by decide +kernel
theorem dX4_numberOf_8 : decode cX4_numberOf 8 = .ok (.if_icmp .ge 22, 3) := by decide +kernel
theorem dX4_numberOf_11 : decode cX4_numberOf 11 = .ok (.iload_n 3, 1) := by decide +kernel
theorem dX4_numberOf_12 : decode cX4_numberOf 12 = .ok (.bipush 10, 2) := by decide +kernel
theorem dX4_numberOf_14 : decode cX4_numberOf 14 = .ok (.imul, 1) := by decide +kernel
theorem dX4_numberOf_15 : decode cX4_numberOf 15 = .ok (.aload_n 0, 1) := by decide +kernel
theorem dX4_numberOf_16 : decode cX4_numberOf 16 = .ok (.iload 4, 2) := by decide +kernel
theorem dX4_numberOf_18 : decode cX4_numberOf 18 = .ok (.iaload, 1) := by decide +kernel
theorem dX4_numberOf_19 : decode cX4_numberOf 19 = .ok (.iadd, 1) := by decide +kernel
theorem dX4_numberOf_20 : decode cX4_numberOf 20 = .ok (.bipush 48, 2) := by decide +kernel
theorem dX4_numberOf_22 : decode cX4_numberOf 22 = .ok (.isub, 1) := by decide +kernel
theorem dX4_numberOf_23 : decode cX4_numberOf 23 = .ok (.istore_n 3, 1) := by decide +kernel
theorem dX4_numberOf_24 : decode cX4_numberOf 24 = .ok (.iinc 4 1, 3) := by decide +kernel
theorem dX4_numberOf_27 : decode cX4_numberOf 27 = .ok (.goto (-22), 3) := by decide +kernel
theorem dX4_numberOf_30 : decode cX4_numberOf 30 = .ok (.iload_n 3, 1) := by decide +kernel
theorem dX4_numberOf_31 : decode cX4_numberOf 31 = .ok (.ireturn, 1) := by decide +kernel
theorem dX4_canBe_0 : decode cX4_canBe 0 = .ok (.iload_n 0, 1) := by decide +kernel
theorem dX4_canBe_1 : decode cX4_canBe 1 = .ok (.bipush 6, 2) := by decide +kernel
theorem dX4_canBe_3 : decode cX4_canBe 3 = .ok (.if_icmp .eq 9, 3) := by decide +kernel
theorem dX4_canBe_6 : decode cX4_canBe 6 = .ok (.iload_n 0, 1) := by decide +kernel
theorem dX4_canBe_7 : decode cX4_canBe 7 = .ok (.bipush 9, 2) := by decide +kernel
theorem dX4_canBe_9 : decode cX4_canBe 9 = .ok (.if_icmp .ne 15, 3) := by decide +kernel
theorem dX4_canBe_12 : decode cX4_canBe 12 = .ok (.iload_n 1, 1) := by decide +kernel
theorem dX4_canBe_13 : decode cX4_canBe 13 = .ok (.bipush 99, 2) := by decide +kernel
theorem dX4_canBe_15 : decode cX4_canBe 15 = .ok (.if_icmp .gt 7, 3) := by decide +kernel
theorem dX4_canBe_18 : decode cX4_canBe 18 = .ok (.iconst 1, 1) := by decide +kernel
theorem dX4_canBe_19 : decode cX4_canBe 19 = .ok (.goto 4, 3) := by decide +kernel
theorem dX4_canBe_22 : decode cX4_canBe 22 = .ok (.iconst 0, 1) := by decide +kernel
theorem dX4_canBe_23 : decode cX4_canBe 23 = .ok (.ireturn, 1) := by decide +kernel
theorem dX4_canBe_24 : decode cX4_canBe 24 = .ok (.iload_n 1, 1) := by decide +kernel
theorem dX4_canBe_25 : decode cX4_canBe 25 = .ok (.iconst 1, 1) := by decide +kernel
theorem dX4_canBe_26 : decode cX4_canBe 26 = .ok (.if_icmp .lt 7, 3) := by decide +kernel
theorem dX4_canBe_29 : decode cX4_canBe 29 = .ok (.iconst 1, 1) := by decide +kernel
theorem dX4_canBe_30 : decode cX4_canBe 30 = .ok (.goto 4, 3) := by decide +kernel
theorem dX4_canBe_33 : decode cX4_canBe 33 = .ok (.iconst 0, 1) := by decide +kernel
theorem dX4_canBe_34 : decode cX4_canBe 34 = .ok (.ireturn, 1) := by decide +kernel
theorem dX5_init_0 : decode cX5_init 0 = .ok (.aload_n 0, 1) := by decide +kernel
theorem dX5_init_1 : decode cX5_init 1 = .ok (.invokespecial 3, 3) := by decide +kernel
theorem dX5_init_4 : decode cX5_init 4 = .ok (.aload_n 0, 1) := by decide +kernel
theorem dX5_init_5 : decode cX5_init 5 = .ok (.bipush 62, 2) := by decide +kernel
theorem dX5_init_7 : decode cX5_init 7 = .ok (.newarray .int, 2) := by decide +kernel
theorem dX5_init_9 : decode cX5_init 9 = .ok (.putfield 11, 3) := by decide +kernel
theorem dX5_init_12 : decode cX5_init 12 = .ok (.aload_n 0, 1) := by decide +kernel
theorem dX5_init_13 : decode cX5_init 13 = .ok (.bipush 62, 2) := by decide +kernel
theorem dX5_init_15 : decode cX5_init 15 = .ok (.newarray .int, 2) := by decide +kernel
theorem dX5_init_17 : decode cX5_init 17 = .ok (.putfield 15, 3) := by decide +kernel
theorem dX5_init_20 : decode cX5_init 20 = .ok (.aload_n 0, 1) := by decide +kernel
theorem dX5_init_21 : decode cX5_init 21 = .ok (.bipush 62, 2) := by decide +kernel
theorem dX5_init_23 : decode cX5_init 23 = .ok (.newarray .int, 2) := by decide +kernel
theorem dX5_init_25 : decode cX5_init 25 = .ok (.putfield 18, 3) := by decide +kernel
theorem dX5_init_28 : decode cX5_init 28 = .ok (.aload_n 0, 1) := by decide +kernel
theorem dX5_init_29 : decode cX5_init 29 = .ok (.bipush 62, 2) := by decide +kernel
theorem dX5_init_31 : decode cX5_init 31 = .ok (.newarray .int, 2) := by decide +kernel
theorem dX5_init_33 : decode cX5_init 33 = .ok (.putfield 21, 3) := by decide +kernel
theorem dX5_init_36 : decode cX5_init 36 = .ok (.aload_n 0, 1) := by decide +kernel
theorem dX5_init_37 : decode cX5_init 37 = .ok (.bipush 62, 2) := by decide +kernel
theorem dX5_init_39 : decode cX5_init 39 = .ok (.newarray .long, 2) := by decide +kernel
theorem dX5_init_41 : decode cX5_init 41 = .ok (.putfield 24, 3) := by decide +kernel
theorem dX5_init_44 : decode cX5_init 44 = .ok (.aload_n 0, 1) := by decide +kernel
theorem dX5_init_45 : decode cX5_init 45 = .ok (.iconst 0, 1) := by decide +kernel
theorem dX5_init_46 : decode cX5_init 46 = .ok (.putfield 28, 3) := by decide +kernel
theorem dX5_init_49 : decode cX5_init 49 = .ok (.aload_n 0, 1) := by decide +kernel
theorem dX5_init_50 : decode cX5_init 50 = .ok (.iconst 0, 1) := by decide +kernel
theorem dX5_init_51 : decode cX5_init 51 = .ok (.putfield 32, 3) := by decide +kernel
theorem dX5_init_54 : decode cX5_init 54 = .ok (.aload_n 0, 1) := by decide +kernel
theorem dX5_init_55 : decode cX5_init 55 = .ok (.iconst 0, 1) := by decide +kernel
theorem dX5_init_56 : decode cX5_init 56 = .ok (.putfield 35, 3) := by decide +kernel
theorem dX5_init_59 : decode cX5_init 59 = .ok (.aload_n 0, 1) := by decide +kernel
theorem dX5_init_60 : decode cX5_init 60 = .ok (.sipush 256, 3) := by decide +kernel
theorem dX5_init_63 : decode cX5_init 63 = .ok (.newarray .long, 2) := by decide +kernel
theorem dX5_init_65 : decode cX5_init 65 = .ok (.putfield 38, 3) := by decide +kernel
theorem dX5_init_68 : decode cX5_init 68 = .ok (.aload_n 0, 1) := by decide +kernel
theorem dX5_init_69 : decode cX5_init 69 = .ok (.aload_n 1, 1) := by decide +kernel
theorem dX5_init_70 : decode cX5_init 70 = .ok (.putfield 41, 3) := by decide +kernel
theorem dX5_init_73 : decode cX5_init 73 = .ok (.aload_n 0, 1) := by decide +kernel
theorem dX5_init_74 : decode cX5_init 74 = .ok (.aload_n 2, 1) := by decide +kernel
theorem dX5_init_75 : decode cX5_init 75 = .ok (.putfield 45, 3) := by decide +kernel
theorem dX5_init_78 : decode cX5_init 78 = .ok (.aload_n 0, 1) := by decide +kernel
theorem dX5_init_79 : decode cX5_init 79 = .ok (.aload_n 3, 1) := by decide +kernel
theorem dX5_init_80 : decode cX5_init 80 = .ok (.putfield 49, 3) := by decide +kernel
theorem dX5_init_83 : decode cX5_init 83 = .ok (.return_, 1) := by decide +kernel
theorem dX5_findPrices_0 : decode cX5_findPrices 0 = .ok (.aload_n 0, 1) := by decide +kernel
theorem dX5_findPrices_1 : decode cX5_findPrices 1 = .ok (.invokevirtual 53, 3) := by decide +kernel
theorem dX5_findPrices_4 : decode cX5_findPrices 4 = .ok (.aload_n 0, 1) := by decide +kernel
theorem dX5_findPrices_5 : decode cX5_findPrices 5 = .ok (.invokevirtual 56, 3) := by decide +kernel
theorem dX5_findPrices_8 : decode cX5_findPrices 8 = .ok (.aload_n 0, 1) := by decide +kernel
theorem dX5_findPrices_9 : decode cX5_findPrices 9 = .ok (.getfield 28, 3) := by decide +kernel
theorem dX5_findPrices_12 : decode cX5_findPrices 12 = .ok (.iconst 1, 1) := by decide +kernel
theorem dX5_findPrices_13 : decode cX5_findPrices 13 = .ok (.isub, 1) := by decide +kernel
theorem dX5_findPrices_14 : decode cX5_findPrices 14 = .ok (.istore_n 1, 1) := by decide +kernel
theorem dX5_findPrices_15 : decode cX5_findPrices 15 = .ok (.iload_n 1, 1) := by decide +kernel
theorem dX5_findPrices_16 : decode cX5_findPrices 16 = .ok (.ifCond .lt 14, 3) := by decide +kernel
theorem dX5_findPrices_19 : decode cX5_findPrices 19 = .ok (.aload_n 0, 1) := by decide +kernel
theorem dX5_findPrices_20 : decode cX5_findPrices 20 = .ok (.iload_n 1, 1) := by decide +kernel
theorem dX5_findPrices_21 : decode cX5_findPrices 21 = .ok (.invokevirtual 59, 3) := by decide +kernel
theorem dX5_findPrices_24 : decode cX5_findPrices 24 = .ok (.iinc 1 (-1), 3) := by decide +kernel
theorem dX5_findPrices_27 : decode cX5_findPrices 27 = .ok (.goto (-12), 3) := by decide +kernel
theorem dX5_findPrices_30 : decode cX5_findPrices 30 = .ok (.return_, 1) := by decide +kernel
theorem dX5_findMarks_0 : decode cX5_findMarks 0 = .ok (.iconst 0, 1) := by decide +kernel
theorem dX5_findMarks_1 : decode cX5_findMarks 1 = .ok (.istore_n 1, 1) := by decide +kernel
theorem dX5_findMarks_2 : decode cX5_findMarks 2 = .ok (.aload_n 0, 1) := by decide +kernel
theorem dX5_findMarks_3 : decode cX5_findMarks 3 = .ok (.iconst 0, 1) := by decide +kernel
theorem dX5_findMarks_4 : decode cX5_findMarks 4 = .ok (.putfield 28, 3) := by decide +kernel
theorem dX5_findMarks_7 : decode cX5_findMarks 7 = .ok (.aload_n 0, 1) := by decide +kernel
theorem dX5_findMarks_8 : decode cX5_findMarks 8 = .ok (.iconst 0, 1) := by decide +kernel
theorem dX5_findMarks_9 : decode cX5_findMarks 9 = .ok (.iconst 0, 1) := by decide +kernel
theorem dX5_findMarks_10 : decode cX5_findMarks 10 = .ok (.iconst 0, 1) := by decide +kernel
theorem dX5_findMarks_11 : decode cX5_findMarks 11 = .ok (.iconst 0, 1) := by decide +kernel
theorem dX5_findMarks_12 : decode cX5_findMarks 12 = .ok (.lconst 0, 1) := by decide +kernel
theorem dX5_findMarks_13 : decode cX5_findMarks 13 = .ok (.invokevirtual 65, 3) := by decide +kernel
theorem dX5_findMarks_16 : decode cX5_findMarks 16 = .ok (.iconst 0, 1) := by decide +kernel
theorem dX5_findMarks_17 : decode cX5_findMarks 17 = .ok (.istore_n 2, 1) := by decide +kernel
theorem dX5_findMarks_18 : decode cX5_findMarks 18 = .ok (.iload_n 2, 1) := by decide +kernel
theorem dX5_findMarks_19 : decode cX5_findMarks 19 = .ok (.aload_n 0, 1) := by decide +kernel
theorem dX5_findMarks_20 : decode cX5_findMarks 20 = .ok (.getfield 45, 3) := by decide +kernel
theorem dX5_findMarks_23 : decode cX5_findMarks 23 = .ok (.getfield 69, 3) := by decide +kernel
theorem dX5_findMarks_26 : decode cX5_findMarks 26 = .ok (.if_icmp .ge 100, 3) := by decide +kernel
theorem dX5_findMarks_29 : decode cX5_findMarks 29 = .ok (.aload_n 0, 1) := by decide +kernel
theorem dX5_findMarks_30 : decode cX5_findMarks 30 = .ok (.getfield 45, 3) := by decide +kernel
theorem dX5_findMarks_33 : decode cX5_findMarks 33 = .ok (.iload_n 2, 1) := by decide +kernel
theorem dX5_findMarks_34 : decode cX5_findMarks 34 = .ok (.invokevirtual 74, 3) := by decide +kernel
theorem dX5_findMarks_37 : decode cX5_findMarks 37 = .ok (.istore_n 3, 1) := by decide +kernel
theorem dX5_findMarks_38 : decode cX5_findMarks 38 = .ok (.iload_n 3, 1) := by decide +kernel
theorem dX5_findMarks_39 : decode cX5_findMarks 39 = .ok (.aload_n 0, 1) := by decide +kernel
theorem dX5_findMarks_40 : decode cX5_findMarks 40 = .ok (.getfield 41, 3) := by decide +kernel
theorem dX5_findMarks_43 : decode cX5_findMarks 43 = .ok (.getfield 78, 3) := by decide +kernel
theorem dX5_findMarks_46 : decode cX5_findMarks 46 = .ok (.bipush 7, 2) := by decide +kernel
theorem dX5_findMarks_48 : decode cX5_findMarks 48 = .ok (.iaload, 1) := by decide +kernel
theorem dX5_findMarks_49 : decode cX5_findMarks 49 = .ok (.if_icmp .lt 23, 3) := by decide +kernel
theorem dX5_findMarks_52 : decode cX5_findMarks 52 = .ok (.aload_n 0, 1) := by decide +kernel
theorem dX5_findMarks_53 : decode cX5_findMarks 53 = .ok (.iload_n 2, 1) := by decide +kernel
theorem dX5_findMarks_54 : decode cX5_findMarks 54 = .ok (.aload_n 0, 1) := by decide +kernel
theorem dX5_findMarks_55 : decode cX5_findMarks 55 = .ok (.getfield 41, 3) := by decide +kernel
theorem dX5_findMarks_58 : decode cX5_findMarks 58 = .ok (.getfield 78, 3) := by decide +kernel
theorem dX5_findMarks_61 : decode cX5_findMarks 61 = .ok (.bipush 7, 2) := by decide +kernel
theorem dX5_findMarks_63 : decode cX5_findMarks 63 = .ok (.iaload, 1) := by decide +kernel
theorem dX5_findMarks_64 : decode cX5_findMarks 64 = .ok (.iconst 1, 1) := by decide +kernel
theorem dX5_findMarks_65 : decode cX5_findMarks 65 = .ok (.lconst 0, 1) := by decide +kernel
theorem dX5_findMarks_66 : decode cX5_findMarks 66 = .ok (.invokevirtual 83, 3) := by decide +kernel
theorem dX5_findMarks_69 : decode cX5_findMarks 69 = .ok (.goto 51, 3) := by decide +kernel
theorem dX5_findMarks_72 : decode cX5_findMarks 72 = .ok (.iload_n 3, 1) := by decide +kernel
theorem dX5_findMarks_73 : decode cX5_findMarks 73 = .ok (.aload_n 0, 1) := by decide +kernel
theorem dX5_findMarks_74 : decode cX5_findMarks 74 = .ok (.getfield 41, 3) := by decide +kernel
theorem dX5_findMarks_77 : decode cX5_findMarks 77 = .ok (.getfield 78, 3) := by decide +kernel
theorem dX5_findMarks_80 : decode cX5_findMarks 80 = .ok (.bipush 8, 2) := by decide +kernel
theorem dX5_findMarks_82 : decode cX5_findMarks 82 = .ok (.iaload, 1) := by decide +kernel
theorem dX5_findMarks_83 : decode cX5_findMarks 83 = .ok (.if_icmp .lt 37, 3) := by decide +kernel
theorem dX5_findMarks_86 : decode cX5_findMarks 86 = .ok (.iload_n 1, 1) := by decide +kernel
theorem dX5_findMarks_87 : decode cX5_findMarks 87 = .ok (.bipush 12, 2) := by decide +kernel
theorem dX5_findMarks_89 : decode cX5_findMarks 89 = .ok (.if_icmp .ge 31, 3) := by decide +kernel
theorem dX5_findMarks_92 : decode cX5_findMarks 92 = .ok (.aload_n 0, 1) := by decide +kernel
theorem dX5_findMarks_93 : decode cX5_findMarks 93 = .ok (.iload_n 2, 1) := by decide +kernel
theorem dX5_findMarks_94 : decode cX5_findMarks 94 = .ok (.aload_n 0, 1) := by decide +kernel
theorem dX5_findMarks_95 : decode cX5_findMarks 95 = .ok (.getfield 41, 3) := by decide +kernel
theorem dX5_findMarks_98 : decode cX5_findMarks 98 = .ok (.getfield 78, 3) := by decide +kernel
theorem dX5_findMarks_101 : decode cX5_findMarks 101 = .ok (.bipush 8, 2) := by decide +kernel
theorem dX5_findMarks_103 : decode cX5_findMarks 103 = .ok (.iaload, 1) := by decide +kernel
theorem dX5_findMarks_104 : decode cX5_findMarks 104 = .ok (.iconst 2, 1) := by decide +kernel
theorem dX5_findMarks_105 : decode cX5_findMarks 105 = .ok (.ldc2_w 87, 3) := by decide +kernel
theorem dX5_findMarks_108 : decode cX5_findMarks 108 = .ok (.ldc2_w 89, 3) := by decide +kernel
theorem dX5_findMarks_111 : decode cX5_findMarks 111 = .ok (.iload_n 1, 1) := by decide +kernel
theorem dX5_findMarks_112 : decode cX5_findMarks 112 = .ok (.lshr, 1) := by decide +kernel
theorem dX5_findMarks_113 : decode cX5_findMarks 113 = .ok (.lsub, 1) := by decide +kernel
theorem dX5_findMarks_114 : decode cX5_findMarks 114 = .ok (.invokevirtual 83, 3) := by decide +kernel
theorem dX5_findMarks_117 : decode cX5_findMarks 117 = .ok (.iinc 1 1, 3) := by decide +kernel
theorem dX5_findMarks_120 : decode cX5_findMarks 120 = .ok (.iinc 2 1, 3) := by decide +kernel
theorem dX5_findMarks_123 : decode cX5_findMarks 123 = .ok (.goto (-105), 3) := by decide +kernel
theorem dX5_findMarks_126 : decode cX5_findMarks 126 = .ok (.aload_n 0, 1) := by decide +kernel
theorem dX5_findMarks_127 : decode cX5_findMarks 127 = .ok (.aload_n 0, 1) := by decide +kernel
theorem dX5_findMarks_128 : decode cX5_findMarks 128 = .ok (.getfield 45, 3) := by decide +kernel
theorem dX5_findMarks_131 : decode cX5_findMarks 131 = .ok (.getfield 91, 3) := by decide +kernel
theorem dX5_findMarks_134 : decode cX5_findMarks 134 = .ok (.aload_n 0, 1) := by decide +kernel
theorem dX5_findMarks_135 : decode cX5_findMarks 135 = .ok (.getfield 45, 3) := by decide +kernel
theorem dX5_findMarks_138 : decode cX5_findMarks 138 = .ok (.getfield 94, 3) := by decide +kernel
theorem dX5_findMarks_141 : decode cX5_findMarks 141 = .ok (.aload_n 0, 1) := by decide +kernel
theorem dX5_findMarks_142 : decode cX5_findMarks 142 = .ok (.getfield 45, 3) := by decide +kernel
theorem dX5_findMarks_145 : decode cX5_findMarks 145 = .ok (.getfield 91, 3) := by decide +kernel
theorem dX5_findMarks_148 : decode cX5_findMarks 148 = .ok (.iconst 0, 1) := by decide +kernel
theorem dX5_findMarks_149 : decode cX5_findMarks 149 = .ok (.lconst 0, 1) := by decide +kernel
theorem dX5_findMarks_150 : decode cX5_findMarks 150 = .ok (.invokevirtual 65, 3) := by decide +kernel
theorem dX5_findMarks_153 : decode cX5_findMarks 153 = .ok (.aload_n 0, 1) := by decide +kernel
theorem dX5_findMarks_154 : decode cX5_findMarks 154 = .ok (.aload_n 0, 1) := by decide +kernel
theorem dX5_findMarks_155 : decode cX5_findMarks 155 = .ok (.getfield 41, 3) := by decide +kernel
theorem dX5_findMarks_158 : decode cX5_findMarks 158 = .ok (.getfield 78, 3) := by decide +kernel
theorem dX5_findMarks_161 : decode cX5_findMarks 161 = .ok (.bipush 9, 2) := by decide +kernel
theorem dX5_findMarks_163 : decode cX5_findMarks 163 = .ok (.iaload, 1) := by decide +kernel
theorem dX5_findMarks_164 : decode cX5_findMarks 164 = .ok (.iload_n 1, 1) := by decide +kernel
theorem dX5_findMarks_165 : decode cX5_findMarks 165 = .ok (.invokestatic 96, 3) := by decide +kernel
theorem dX5_findMarks_168 : decode cX5_findMarks 168 = .ok (.putfield 32, 3) := by decide +kernel
theorem dX5_findMarks_171 : decode cX5_findMarks 171 = .ok (.aload_n 0, 1) := by decide +kernel
theorem dX5_findMarks_172 : decode cX5_findMarks 172 = .ok (.aload_n 0, 1) := by decide +kernel
theorem dX5_findMarks_173 : decode cX5_findMarks 173 = .ok (.getfield 41, 3) := by decide +kernel
theorem dX5_findMarks_176 : decode cX5_findMarks 176 = .ok (.getfield 78, 3) := by decide +kernel
theorem dX5_findMarks_179 : decode cX5_findMarks 179 = .ok (.bipush 6, 2) := by decide +kernel
theorem dX5_findMarks_181 : decode cX5_findMarks 181 = .ok (.iaload, 1) := by decide +kernel
theorem dX5_findMarks_182 : decode cX5_findMarks 182 = .ok (.aload_n 0, 1) := by decide +kernel
theorem dX5_findMarks_183 : decode cX5_findMarks 183 = .ok (.getfield 28, 3) := by decide +kernel
theorem dX5_findMarks_186 : decode cX5_findMarks 186 = .ok (.invokestatic 96, 3) := by decide +kernel
theorem dX5_findMarks_189 : decode cX5_findMarks 189 = .ok (.putfield 35, 3) := by decide +kernel
theorem dX5_findMarks_192 : decode cX5_findMarks 192 = .ok (.return_, 1) := by decide +kernel
theorem dX5_addRest_0 : decode cX5_addRest 0 = .ok (.aload_n 0, 1) := by decide +kernel
theorem dX5_addRest_1 : decode cX5_addRest 1 = .ok (.aload_n 0, 1) := by decide +kernel
theorem dX5_addRest_2 : decode cX5_addRest 2 = .ok (.getfield 45, 3) := by decide +kernel
theorem dX5_addRest_5 : decode cX5_addRest 5 = .ok (.getfield 102, 3) := by decide +kernel
theorem dX5_addRest_8 : decode cX5_addRest 8 = .ok (.iload_n 1, 1) := by decide +kernel
theorem dX5_addRest_9 : decode cX5_addRest 9 = .ok (.iaload, 1) := by decide +kernel
theorem dX5_addRest_10 : decode cX5_addRest 10 = .ok (.aload_n 0, 1) := by decide +kernel
theorem dX5_addRest_11 : decode cX5_addRest 11 = .ok (.getfield 45, 3) := by decide +kernel
theorem dX5_addRest_14 : decode cX5_addRest 14 = .ok (.getfield 105, 3) := by decide +kernel
theorem dX5_addRest_17 : decode cX5_addRest 17 = .ok (.iload_n 1, 1) := by decide +kernel
theorem dX5_addRest_18 : decode cX5_addRest 18 = .ok (.iaload, 1) := by decide +kernel
theorem dX5_addRest_19 : decode cX5_addRest 19 = .ok (.aload_n 0, 1) := by decide +kernel
theorem dX5_addRest_20 : decode cX5_addRest 20 = .ok (.getfield 45, 3) := by decide +kernel
theorem dX5_addRest_23 : decode cX5_addRest 23 = .ok (.getfield 108, 3) := by decide +kernel
theorem dX5_addRest_26 : decode cX5_addRest 26 = .ok (.iload_n 1, 1) := by decide +kernel
theorem dX5_addRest_27 : decode cX5_addRest 27 = .ok (.iaload, 1) := by decide +kernel
theorem dX5_addRest_28 : decode cX5_addRest 28 = .ok (.iload_n 2, 1) := by decide +kernel
theorem dX5_addRest_29 : decode cX5_addRest 29 = .ok (.iadd, 1) := by decide +kernel
theorem dX5_addRest_30 : decode cX5_addRest 30 = .ok (.iload_n 3, 1) := by decide +kernel
theorem dX5_addRest_31 : decode cX5_addRest 31 = .ok (.lload 4, 2) := by decide +kernel
theorem dX5_addRest_33 : decode cX5_addRest 33 = .ok (.invokevirtual 65, 3) := by decide +kernel
theorem dX5_addRest_36 : decode cX5_addRest 36 = .ok (.return_, 1) := by decide +kernel
theorem dX5_addMark_0 : decode cX5_addMark 0 = .ok (.aload_n 0, 1) := by decide +kernel
theorem dX5_addMark_1 : decode cX5_addMark 1 = .ok (.getfield 28, 3) := by decide +kernel
theorem dX5_addMark_4 : decode cX5_addMark 4 = .ok (.bipush 62, 2) := by decide +kernel
theorem dX5_addMark_6 : decode cX5_addMark 6 = .ok (.if_icmp .ge 65, 3) := by decide +kernel
theorem dX5_addMark_9 : decode cX5_addMark 9 = .ok (.aload_n 0, 1) := by decide +kernel
theorem dX5_addMark_10 : decode cX5_addMark 10 = .ok (.getfield 11, 3) := by decide +kernel
theorem dX5_addMark_13 : decode cX5_addMark 13 = .ok (.aload_n 0, 1) := by decide +kernel
theorem dX5_addMark_14 : decode cX5_addMark 14 = .ok (.getfield 28, 3) := by decide +kernel
theorem dX5_addMark_17 : decode cX5_addMark 17 = .ok (.iload_n 1, 1) := by decide +kernel
theorem dX5_addMark_18 : decode cX5_addMark 18 = .ok (.iastore, 1) := by decide +kernel
theorem dX5_addMark_19 : decode cX5_addMark 19 = .ok (.aload_n 0, 1) := by decide +kernel
theorem dX5_addMark_20 : decode cX5_addMark 20 = .ok (.getfield 15, 3) := by decide +kernel
theorem dX5_addMark_23 : decode cX5_addMark 23 = .ok (.aload_n 0, 1) := by decide +kernel
theorem dX5_addMark_24 : decode cX5_addMark 24 = .ok (.getfield 28, 3) := by decide +kernel
theorem dX5_addMark_27 : decode cX5_addMark 27 = .ok (.iload_n 2, 1) := by decide +kernel
theorem dX5_addMark_28 : decode cX5_addMark 28 = .ok (.iastore, 1) := by decide +kernel
theorem dX5_addMark_29 : decode cX5_addMark 29 = .ok (.aload_n 0, 1) := by decide +kernel
theorem dX5_addMark_30 : decode cX5_addMark 30 = .ok (.getfield 18, 3) := by decide +kernel
theorem dX5_addMark_33 : decode cX5_addMark 33 = .ok (.aload_n 0, 1) := by decide +kernel
theorem dX5_addMark_34 : decode cX5_addMark 34 = .ok (.getfield 28, 3) := by decide +kernel
theorem dX5_addMark_37 : decode cX5_addMark 37 = .ok (.iload_n 3, 1) := by decide +kernel
theorem dX5_addMark_38 : decode cX5_addMark 38 = .ok (.iastore, 1) := by decide +kernel
theorem dX5_addMark_39 : decode cX5_addMark 39 = .ok (.aload_n 0, 1) := by decide +kernel
theorem dX5_addMark_40 : decode cX5_addMark 40 = .ok (.getfield 21, 3) := by decide +kernel
theorem dX5_addMark_43 : decode cX5_addMark 43 = .ok (.aload_n 0, 1) := by decide +kernel
theorem dX5_addMark_44 : decode cX5_addMark 44 = .ok (.getfield 28, 3) := by decide +kernel
theorem dX5_addMark_47 : decode cX5_addMark 47 = .ok (.iload 4, 2) := by decide +kernel
theorem dX5_addMark_49 : decode cX5_addMark 49 = .ok (.iastore, 1) := by decide +kernel
theorem dX5_addMark_50 : decode cX5_addMark 50 = .ok (.aload_n 0, 1) := by decide +kernel
theorem dX5_addMark_51 : decode cX5_addMark 51 = .ok (.getfield 24, 3) := by decide +kernel
theorem dX5_addMark_54 : decode cX5_addMark 54 = .ok (.aload_n 0, 1) := by decide +kernel
theorem dX5_addMark_55 : decode cX5_addMark 55 = .ok (.getfield 28, 3) := by decide +kernel
theorem dX5_addMark_58 : decode cX5_addMark 58 = .ok (.lload 5, 2) := by decide +kernel
theorem dX5_addMark_60 : decode cX5_addMark 60 = .ok (.lastore, 1) := by decide +kernel
theorem dX5_addMark_61 : decode cX5_addMark 61 = .ok (.aload_n 0, 1) := by decide +kernel
theorem dX5_addMark_62 : decode cX5_addMark 62 = .ok (.dup, 1) := by decide +kernel
theorem dX5_addMark_63 : decode cX5_addMark 63 = .ok (.getfield 28, 3) := by decide +kernel
theorem dX5_addMark_66 : decode cX5_addMark 66 = .ok (.iconst 1, 1) := by decide +kernel
theorem dX5_addMark_67 : decode cX5_addMark 67 = .ok (.iadd, 1) := by decide +kernel
theorem dX5_addMark_68 : decode cX5_addMark 68 = .ok (.putfield 28, 3) := by decide +kernel
theorem dX5_addMark_71 : decode cX5_addMark 71 = .ok (.return_, 1) := by decide +kernel
theorem dX5_makeRoom_0 : decode cX5_makeRoom 0 = .ok (.aload_n 0, 1) := by decide +kernel
theorem dX5_makeRoom_1 : decode cX5_makeRoom 1 = .ok (.aload_n 0, 1) := by decide +kernel
theorem dX5_makeRoom_2 : decode cX5_makeRoom 2 = .ok (.getfield 28, 3) := by decide +kernel
theorem dX5_makeRoom_5 : decode cX5_makeRoom 5 = .ok (.iconst 0, 1) := by decide +kernel
theorem dX5_makeRoom_6 : decode cX5_makeRoom 6 = .ok (.iconst 0, 1) := by decide +kernel
theorem dX5_makeRoom_7 : decode cX5_makeRoom 7 = .ok (.invokevirtual 111, 3) := by decide +kernel
theorem dX5_makeRoom_10 : decode cX5_makeRoom 10 = .ok (.istore_n 1, 1) := by decide +kernel
theorem dX5_makeRoom_11 : decode cX5_makeRoom 11 = .ok (.iload_n 1, 1) := by decide +kernel
theorem dX5_makeRoom_12 : decode cX5_makeRoom 12 = .ok (.aload_n 0, 1) := by decide +kernel
theorem dX5_makeRoom_13 : decode cX5_makeRoom 13 = .ok (.getfield 38, 3) := by decide +kernel
theorem dX5_makeRoom_16 : decode cX5_makeRoom 16 = .ok (.arraylength, 1) := by decide +kernel
theorem dX5_makeRoom_17 : decode cX5_makeRoom 17 = .ok (.if_icmp .le 20, 3) := by decide +kernel
theorem dX5_makeRoom_20 : decode cX5_makeRoom 20 = .ok (.aload_n 0, 1) := by decide +kernel
theorem dX5_makeRoom_21 : decode cX5_makeRoom 21 = .ok (.iload_n 1, 1) := by decide +kernel
theorem dX5_makeRoom_22 : decode cX5_makeRoom 22 = .ok (.iconst 2, 1) := by decide +kernel
theorem dX5_makeRoom_23 : decode cX5_makeRoom 23 = .ok (.aload_n 0, 1) := by decide +kernel
theorem dX5_makeRoom_24 : decode cX5_makeRoom 24 = .ok (.getfield 38, 3) := by decide +kernel
theorem dX5_makeRoom_27 : decode cX5_makeRoom 27 = .ok (.arraylength, 1) := by decide +kernel
theorem dX5_makeRoom_28 : decode cX5_makeRoom 28 = .ok (.imul, 1) := by decide +kernel
theorem dX5_makeRoom_29 : decode cX5_makeRoom 29 = .ok (.invokestatic 115, 3) := by decide +kernel
theorem dX5_makeRoom_32 : decode cX5_makeRoom 32 = .ok (.newarray .long, 2) := by decide +kernel
theorem dX5_makeRoom_34 : decode cX5_makeRoom 34 = .ok (.putfield 38, 3) := by decide +kernel
theorem dX5_makeRoom_37 : decode cX5_makeRoom 37 = .ok (.return_, 1) := by decide +kernel
theorem dX5_placeOf_0 : decode cX5_placeOf 0 = .ok (.iload_n 1, 1) := by decide +kernel
theorem dX5_placeOf_1 : decode cX5_placeOf 1 = .ok (.aload_n 0, 1) := by decide +kernel
theorem dX5_placeOf_2 : decode cX5_placeOf 2 = .ok (.getfield 32, 3) := by decide +kernel
theorem dX5_placeOf_5 : decode cX5_placeOf 5 = .ok (.iconst 1, 1) := by decide +kernel
theorem dX5_placeOf_6 : decode cX5_placeOf 6 = .ok (.iadd, 1) := by decide +kernel
theorem dX5_placeOf_7 : decode cX5_placeOf 7 = .ok (.imul, 1) := by decide +kernel
theorem dX5_placeOf_8 : decode cX5_placeOf 8 = .ok (.iload_n 2, 1) := by decide +kernel
theorem dX5_placeOf_9 : decode cX5_placeOf 9 = .ok (.iadd, 1) := by decide +kernel
theorem dX5_placeOf_10 : decode cX5_placeOf 10 = .ok (.aload_n 0, 1) := by decide +kernel
theorem dX5_placeOf_11 : decode cX5_placeOf 11 = .ok (.getfield 35, 3) := by decide +kernel
theorem dX5_placeOf_14 : decode cX5_placeOf 14 = .ok (.iconst 1, 1) := by decide +kernel
theorem dX5_placeOf_15 : decode cX5_placeOf 15 = .ok (.iadd, 1) := by decide +kernel
theorem dX5_placeOf_16 : decode cX5_placeOf 16 = .ok (.imul, 1) := by decide +kernel
theorem dX5_placeOf_17 : decode cX5_placeOf 17 = .ok (.iload_n 3, 1) := by decide +kernel
theorem dX5_placeOf_18 : decode cX5_placeOf 18 = .ok (.iadd, 1) := by decide +kernel
theorem dX5_placeOf_19 : decode cX5_placeOf 19 = .ok (.ireturn, 1) := by decide +kernel
theorem dX5_findLeast_0 : decode cX5_findLeast 0 = .ok (.aload_n 0, 1) := by decide +kernel
theorem dX5_findLeast_1 : decode cX5_findLeast 1 = .ok (.getfield 11, 3) := by decide +kernel
theorem dX5_findLeast_4 : decode cX5_findLeast 4 = .ok (.iload_n 1, 1) := by decide +kernel
theorem dX5_findLeast_5 : decode cX5_findLeast 5 = .ok (.iaload, 1) := by decide +kernel
theorem dX5_findLeast_6 : decode cX5_findLeast 6 = .ok (.aload_n 0, 1) := by decide +kernel
theorem dX5_findLeast_7 : decode cX5_findLeast 7 = .ok (.getfield 45, 3) := by decide +kernel
theorem dX5_findLeast_10 : decode cX5_findLeast 10 = .ok (.getfield 91, 3) := by decide +kernel
theorem dX5_findLeast_13 : decode cX5_findLeast 13 = .ok (.if_icmp .lt 7, 3) := by decide +kernel
theorem dX5_findLeast_16 : decode cX5_findLeast 16 = .ok (.iconst 1, 1) := by decide +kernel
theorem dX5_findLeast_17 : decode cX5_findLeast 17 = .ok (.goto 4, 3) := by decide +kernel
theorem dX5_findLeast_20 : decode cX5_findLeast 20 = .ok (.iconst 0, 1) := by decide +kernel
theorem dX5_findLeast_21 : decode cX5_findLeast 21 = .ok (.istore_n 2, 1) := by decide +kernel
theorem dX5_findLeast_22 : decode cX5_findLeast 22 = .ok (.aload_n 0, 1) := by decide +kernel
theorem dX5_findLeast_23 : decode cX5_findLeast 23 = .ok (.iload_n 1, 1) := by decide +kernel
theorem dX5_findLeast_24 : decode cX5_findLeast 24 = .ok (.iconst 1, 1) := by decide +kernel
theorem dX5_findLeast_25 : decode cX5_findLeast 25 = .ok (.iadd, 1) := by decide +kernel
theorem dX5_findLeast_26 : decode cX5_findLeast 26 = .ok (.iconst 0, 1) := by decide +kernel
theorem dX5_findLeast_27 : decode cX5_findLeast 27 = .ok (.iconst 0, 1) := by decide +kernel
theorem dX5_findLeast_28 : decode cX5_findLeast 28 = .ok (.invokevirtual 111, 3) := by decide +kernel
theorem dX5_findLeast_31 : decode cX5_findLeast 31 = .ok (.istore_n 3, 1) := by decide +kernel
theorem dX5_findLeast_32 : decode cX5_findLeast 32 = .ok (.aload_n 0, 1) := by decide +kernel
theorem dX5_findLeast_33 : decode cX5_findLeast 33 = .ok (.iload_n 1, 1) := by decide +kernel
theorem dX5_findLeast_34 : decode cX5_findLeast 34 = .ok (.iconst 0, 1) := by decide +kernel
theorem dX5_findLeast_35 : decode cX5_findLeast 35 = .ok (.iconst 0, 1) := by decide +kernel
theorem dX5_findLeast_36 : decode cX5_findLeast 36 = .ok (.invokevirtual 111, 3) := by decide +kernel
theorem dX5_findLeast_39 : decode cX5_findLeast 39 = .ok (.istore 4, 2) := by decide +kernel
theorem dX5_findLeast_41 : decode cX5_findLeast 41 = .ok (.iload 4, 2) := by decide +kernel
theorem dX5_findLeast_43 : decode cX5_findLeast 43 = .ok (.iload_n 3, 1) := by decide +kernel
theorem dX5_findLeast_44 : decode cX5_findLeast 44 = .ok (.if_icmp .ge 27, 3) := by decide +kernel
theorem dX5_findLeast_47 : decode cX5_findLeast 47 = .ok (.aload_n 0, 1) := by decide +kernel
theorem dX5_findLeast_48 : decode cX5_findLeast 48 = .ok (.getfield 38, 3) := by decide +kernel
theorem dX5_findLeast_51 : decode cX5_findLeast 51 = .ok (.iload 4, 2) := by decide +kernel
theorem dX5_findLeast_53 : decode cX5_findLeast 53 = .ok (.iload_n 2, 1) := by decide +kernel
theorem dX5_findLeast_54 : decode cX5_findLeast 54 = .ok (.ifCond .eq 7, 3) := by decide +kernel
theorem dX5_findLeast_57 : decode cX5_findLeast 57 = .ok (.lconst 0, 1) := by decide +kernel
theorem dX5_findLeast_58 : decode cX5_findLeast 58 = .ok (.goto 6, 3) := by decide +kernel
theorem dX5_findLeast_61 : decode cX5_findLeast 61 = .ok (.ldc2_w 118, 3) := by decide +kernel
theorem dX5_findLeast_64 : decode cX5_findLeast 64 = .ok (.lastore, 1) := by decide +kernel
theorem dX5_findLeast_65 : decode cX5_findLeast 65 = .ok (.iinc 4 1, 3) := by decide +kernel
theorem dX5_findLeast_68 : decode cX5_findLeast 68 = .ok (.goto (-27), 3) := by decide +kernel
theorem dX5_findLeast_71 : decode cX5_findLeast 71 = .ok (.iload_n 2, 1) := by decide +kernel
theorem dX5_findLeast_72 : decode cX5_findLeast 72 = .ok (.ifCond .eq 4, 3) := by decide +kernel
theorem dX5_findLeast_75 : decode cX5_findLeast 75 = .ok (.return_, 1) := by decide +kernel
theorem dX5_findLeast_76 : decode cX5_findLeast 76 = .ok (.aload_n 0, 1) := by decide +kernel
theorem dX5_findLeast_77 : decode cX5_findLeast 77 = .ok (.iload_n 1, 1) := by decide +kernel
theorem dX5_findLeast_78 : decode cX5_findLeast 78 = .ok (.invokevirtual 120, 3) := by decide +kernel
theorem dX5_findLeast_81 : decode cX5_findLeast 81 = .ok (.istore 4, 2) := by decide +kernel
theorem dX5_findLeast_83 : decode cX5_findLeast 83 = .ok (.iload_n 1, 1) := by decide +kernel
theorem dX5_findLeast_84 : decode cX5_findLeast 84 = .ok (.iconst 1, 1) := by decide +kernel
theorem dX5_findLeast_85 : decode cX5_findLeast 85 = .ok (.iadd, 1) := by decide +kernel
theorem dX5_findLeast_86 : decode cX5_findLeast 86 = .ok (.istore 5, 2) := by decide +kernel
theorem dX5_findLeast_88 : decode cX5_findLeast 88 = .ok (.iload 5, 2) := by decide +kernel
theorem dX5_findLeast_90 : decode cX5_findLeast 90 = .ok (.iload 4, 2) := by decide +kernel
theorem dX5_findLeast_92 : decode cX5_findLeast 92 = .ok (.if_icmp .gt 25, 3) := by decide +kernel
theorem dX5_findLeast_95 : decode cX5_findLeast 95 = .ok (.aload_n 0, 1) := by decide +kernel
theorem dX5_findLeast_96 : decode cX5_findLeast 96 = .ok (.iload_n 1, 1) := by decide +kernel
theorem dX5_findLeast_97 : decode cX5_findLeast 97 = .ok (.iload 5, 2) := by decide +kernel
theorem dX5_findLeast_99 : decode cX5_findLeast 99 = .ok (.iconst 0, 1) := by decide +kernel
theorem dX5_findLeast_100 : decode cX5_findLeast 100 = .ok (.invokevirtual 123, 3) := by decide +kernel
theorem dX5_findLeast_103 : decode cX5_findLeast 103 = .ok (.aload_n 0, 1) := by decide +kernel
theorem dX5_findLeast_104 : decode cX5_findLeast 104 = .ok (.iload_n 1, 1) := by decide +kernel
theorem dX5_findLeast_105 : decode cX5_findLeast 105 = .ok (.iload 5, 2) := by decide +kernel
theorem dX5_findLeast_107 : decode cX5_findLeast 107 = .ok (.iconst 1, 1) := by decide +kernel
theorem dX5_findLeast_108 : decode cX5_findLeast 108 = .ok (.invokevirtual 123, 3) := by decide +kernel
theorem dX5_findLeast_111 : decode cX5_findLeast 111 = .ok (.iinc 5 1, 3) := by decide +kernel
theorem dX5_findLeast_114 : decode cX5_findLeast 114 = .ok (.goto (-26), 3) := by decide +kernel
theorem dX5_findLeast_117 : decode cX5_findLeast 117 = .ok (.return_, 1) := by decide +kernel
theorem dX5_lastEnd_0 : decode cX5_lastEnd 0 = .ok (.iload_n 1, 1) := by decide +kernel
theorem dX5_lastEnd_1 : decode cX5_lastEnd 1 = .ok (.iconst 1, 1) := by decide +kernel
theorem dX5_lastEnd_2 : decode cX5_lastEnd 2 = .ok (.iadd, 1) := by decide +kernel
theorem dX5_lastEnd_3 : decode cX5_lastEnd 3 = .ok (.istore_n 2, 1) := by decide +kernel
theorem dX5_lastEnd_4 : decode cX5_lastEnd 4 = .ok (.iload_n 2, 1) := by decide +kernel
theorem dX5_lastEnd_5 : decode cX5_lastEnd 5 = .ok (.aload_n 0, 1) := by decide +kernel
theorem dX5_lastEnd_6 : decode cX5_lastEnd 6 = .ok (.getfield 28, 3) := by decide +kernel
theorem dX5_lastEnd_9 : decode cX5_lastEnd 9 = .ok (.iconst 1, 1) := by decide +kernel
theorem dX5_lastEnd_10 : decode cX5_lastEnd 10 = .ok (.isub, 1) := by decide +kernel
theorem dX5_lastEnd_11 : decode cX5_lastEnd 11 = .ok (.if_icmp .ge 19, 3) := by decide +kernel
theorem dX5_lastEnd_14 : decode cX5_lastEnd 14 = .ok (.aload_n 0, 1) := by decide +kernel
theorem dX5_lastEnd_15 : decode cX5_lastEnd 15 = .ok (.getfield 21, 3) := by decide +kernel
theorem dX5_lastEnd_18 : decode cX5_lastEnd 18 = .ok (.iload_n 2, 1) := by decide +kernel
theorem dX5_lastEnd_19 : decode cX5_lastEnd 19 = .ok (.iaload, 1) := by decide +kernel
theorem dX5_lastEnd_20 : decode cX5_lastEnd 20 = .ok (.iconst 2, 1) := by decide +kernel
theorem dX5_lastEnd_21 : decode cX5_lastEnd 21 = .ok (.if_icmp .ne 9, 3) := by decide +kernel
theorem dX5_lastEnd_24 : decode cX5_lastEnd 24 = .ok (.iinc 2 1, 3) := by decide +kernel
theorem dX5_lastEnd_27 : decode cX5_lastEnd 27 = .ok (.goto (-23), 3) := by decide +kernel
theorem dX5_lastEnd_30 : decode cX5_lastEnd 30 = .ok (.iload_n 2, 1) := by decide +kernel
theorem dX5_lastEnd_31 : decode cX5_lastEnd 31 = .ok (.aload_n 0, 1) := by decide +kernel
theorem dX5_lastEnd_32 : decode cX5_lastEnd 32 = .ok (.getfield 28, 3) := by decide +kernel
theorem dX5_lastEnd_35 : decode cX5_lastEnd 35 = .ok (.iconst 1, 1) := by decide +kernel
theorem dX5_lastEnd_36 : decode cX5_lastEnd 36 = .ok (.isub, 1) := by decide +kernel
theorem dX5_lastEnd_37 : decode cX5_lastEnd 37 = .ok (.invokestatic 96, 3) := by decide +kernel
theorem dX5_lastEnd_40 : decode cX5_lastEnd 40 = .ok (.ireturn, 1) := by decide +kernel
theorem dX5_offer_0 : decode cX5_offer 0 = .ok (.aload_n 0, 1) := by decide +kernel
theorem dX5_offer_1 : decode cX5_offer 1 = .ok (.iload_n 1, 1) := by decide +kernel
theorem dX5_offer_2 : decode cX5_offer 2 = .ok (.iload_n 2, 1) := by decide +kernel
theorem dX5_offer_3 : decode cX5_offer 3 = .ok (.iload_n 3, 1) := by decide +kernel
theorem dX5_offer_4 : decode cX5_offer 4 = .ok (.invokevirtual 127, 3) := by decide +kernel
theorem dX5_offer_7 : decode cX5_offer 7 = .ok (.lstore 4, 2) := by decide +kernel
theorem dX5_offer_9 : decode cX5_offer 9 = .ok (.iconst 0, 1) := by decide +kernel
theorem dX5_offer_10 : decode cX5_offer 10 = .ok (.istore 6, 2) := by decide +kernel
theorem dX5_offer_12 : decode cX5_offer 12 = .ok (.iload 6, 2) := by decide +kernel
theorem dX5_offer_14 : decode cX5_offer 14 = .ok (.aload_n 0, 1) := by decide +kernel
theorem dX5_offer_15 : decode cX5_offer 15 = .ok (.getfield 32, 3) := by decide +kernel
theorem dX5_offer_18 : decode cX5_offer 18 = .ok (.if_icmp .gt 89, 3) := by decide +kernel
theorem dX5_offer_21 : decode cX5_offer 21 = .ok (.aload_n 0, 1) := by decide +kernel
theorem dX5_offer_22 : decode cX5_offer 22 = .ok (.iload_n 1, 1) := by decide +kernel
theorem dX5_offer_23 : decode cX5_offer 23 = .ok (.iload_n 2, 1) := by decide +kernel
theorem dX5_offer_24 : decode cX5_offer 24 = .ok (.iload 6, 2) := by decide +kernel
theorem dX5_offer_26 : decode cX5_offer 26 = .ok (.invokevirtual 131, 3) := by decide +kernel
theorem dX5_offer_29 : decode cX5_offer 29 = .ok (.istore 7, 2) := by decide +kernel
theorem dX5_offer_31 : decode cX5_offer 31 = .ok (.iconst 0, 1) := by decide +kernel
theorem dX5_offer_32 : decode cX5_offer 32 = .ok (.istore 8, 2) := by decide +kernel
theorem dX5_offer_34 : decode cX5_offer 34 = .ok (.iload 8, 2) := by decide +kernel
theorem dX5_offer_36 : decode cX5_offer 36 = .ok (.aload_n 0, 1) := by decide +kernel
theorem dX5_offer_37 : decode cX5_offer 37 = .ok (.getfield 35, 3) := by decide +kernel
theorem dX5_offer_40 : decode cX5_offer 40 = .ok (.if_icmp .gt 61, 3) := by decide +kernel
theorem dX5_offer_43 : decode cX5_offer 43 = .ok (.aload_n 0, 1) := by decide +kernel
theorem dX5_offer_44 : decode cX5_offer 44 = .ok (.iload_n 1, 1) := by decide +kernel
theorem dX5_offer_45 : decode cX5_offer 45 = .ok (.iload 6, 2) := by decide +kernel
theorem dX5_offer_47 : decode cX5_offer 47 = .ok (.iload 8, 2) := by decide +kernel
theorem dX5_offer_49 : decode cX5_offer 49 = .ok (.invokevirtual 111, 3) := by decide +kernel
theorem dX5_offer_52 : decode cX5_offer 52 = .ok (.istore 9, 2) := by decide +kernel
theorem dX5_offer_54 : decode cX5_offer 54 = .ok (.aload_n 0, 1) := by decide +kernel
theorem dX5_offer_55 : decode cX5_offer 55 = .ok (.iload_n 1, 1) := by decide +kernel
theorem dX5_offer_56 : decode cX5_offer 56 = .ok (.iload_n 2, 1) := by decide +kernel
theorem dX5_offer_57 : decode cX5_offer 57 = .ok (.iload 8, 2) := by decide +kernel
theorem dX5_offer_59 : decode cX5_offer 59 = .ok (.iload_n 3, 1) := by decide +kernel
theorem dX5_offer_60 : decode cX5_offer 60 = .ok (.isub, 1) := by decide +kernel
theorem dX5_offer_61 : decode cX5_offer 61 = .ok (.invokevirtual 134, 3) := by decide +kernel
theorem dX5_offer_64 : decode cX5_offer 64 = .ok (.istore 10, 2) := by decide +kernel
theorem dX5_offer_66 : decode cX5_offer 66 = .ok (.aload_n 0, 1) := by decide +kernel
theorem dX5_offer_67 : decode cX5_offer 67 = .ok (.getfield 38, 3) := by decide +kernel
theorem dX5_offer_70 : decode cX5_offer 70 = .ok (.iload 9, 2) := by decide +kernel
theorem dX5_offer_72 : decode cX5_offer 72 = .ok (.aload_n 0, 1) := by decide +kernel
theorem dX5_offer_73 : decode cX5_offer 73 = .ok (.getfield 38, 3) := by decide +kernel
theorem dX5_offer_76 : decode cX5_offer 76 = .ok (.iload 9, 2) := by decide +kernel
theorem dX5_offer_78 : decode cX5_offer 78 = .ok (.laload, 1) := by decide +kernel
theorem dX5_offer_79 : decode cX5_offer 79 = .ok (.lload 4, 2) := by decide +kernel
theorem dX5_offer_81 : decode cX5_offer 81 = .ok (.aload_n 0, 1) := by decide +kernel
theorem dX5_offer_82 : decode cX5_offer 82 = .ok (.iload_n 2, 1) := by decide +kernel
theorem dX5_offer_83 : decode cX5_offer 83 = .ok (.iload 7, 2) := by decide +kernel
theorem dX5_offer_85 : decode cX5_offer 85 = .ok (.iload 10, 2) := by decide +kernel
theorem dX5_offer_87 : decode cX5_offer 87 = .ok (.invokevirtual 137, 3) := by decide +kernel
theorem dX5_offer_90 : decode cX5_offer 90 = .ok (.ladd, 1) := by decide +kernel
theorem dX5_offer_91 : decode cX5_offer 91 = .ok (.invokestatic 140, 3) := by decide +kernel
theorem dX5_offer_94 : decode cX5_offer 94 = .ok (.lastore, 1) := by decide +kernel
theorem dX5_offer_95 : decode cX5_offer 95 = .ok (.iinc 8 1, 3) := by decide +kernel
theorem dX5_offer_98 : decode cX5_offer 98 = .ok (.goto (-64), 3) := by decide +kernel
theorem dX5_offer_101 : decode cX5_offer 101 = .ok (.iinc 6 1, 3) := by decide +kernel
theorem dX5_offer_104 : decode cX5_offer 104 = .ok (.goto (-92), 3) := by decide +kernel
theorem dX5_offer_107 : decode cX5_offer 107 = .ok (.return_, 1) := by decide +kernel
theorem dX5_priceOf_0 : decode cX5_priceOf 0 = .ok (.aload_n 0, 1) := by decide +kernel
theorem dX5_priceOf_1 : decode cX5_priceOf 1 = .ok (.iload_n 1, 1) := by decide +kernel
theorem dX5_priceOf_2 : decode cX5_priceOf 2 = .ok (.iload_n 2, 1) := by decide +kernel
theorem dX5_priceOf_3 : decode cX5_priceOf 3 = .ok (.iload_n 3, 1) := by decide +kernel
theorem dX5_priceOf_4 : decode cX5_priceOf 4 = .ok (.invokevirtual 143, 3) := by decide +kernel
theorem dX5_priceOf_7 : decode cX5_priceOf 7 = .ok (.aload_n 0, 1) := by decide +kernel
theorem dX5_priceOf_8 : decode cX5_priceOf 8 = .ok (.iload_n 1, 1) := by decide +kernel
theorem dX5_priceOf_9 : decode cX5_priceOf 9 = .ok (.iload_n 2, 1) := by decide +kernel
theorem dX5_priceOf_10 : decode cX5_priceOf 10 = .ok (.invokevirtual 146, 3) := by decide +kernel
theorem dX5_priceOf_13 : decode cX5_priceOf 13 = .ok (.iadd, 1) := by decide +kernel
theorem dX5_priceOf_14 : decode cX5_priceOf 14 = .ok (.i2l, 1) := by decide +kernel
theorem dX5_priceOf_15 : decode cX5_priceOf 15 = .ok (.lstore 4, 2) := by decide +kernel
theorem dX5_priceOf_17 : decode cX5_priceOf 17 = .ok (.lload 4, 2) := by decide +kernel
theorem dX5_priceOf_19 : decode cX5_priceOf 19 = .ok (.ldc2_w 149, 3) := by decide +kernel
theorem dX5_priceOf_22 : decode cX5_priceOf 22 = .ok (.lmul, 1) := by decide +kernel
theorem dX5_priceOf_23 : decode cX5_priceOf 23 = .ok (.iload_n 3, 1) := by decide +kernel
theorem dX5_priceOf_24 : decode cX5_priceOf 24 = .ok (.i2l, 1) := by decide +kernel
theorem dX5_priceOf_25 : decode cX5_priceOf 25 = .ok (.ldc2_w 151, 3) := by decide +kernel
theorem dX5_priceOf_28 : decode cX5_priceOf 28 = .ok (.lmul, 1) := by decide +kernel
theorem dX5_priceOf_29 : decode cX5_priceOf 29 = .ok (.ladd, 1) := by decide +kernel
theorem dX5_priceOf_30 : decode cX5_priceOf 30 = .ok (.aload_n 0, 1) := by decide +kernel
theorem dX5_priceOf_31 : decode cX5_priceOf 31 = .ok (.getfield 24, 3) := by decide +kernel
theorem dX5_priceOf_34 : decode cX5_priceOf 34 = .ok (.iload_n 2, 1) := by decide +kernel
theorem dX5_priceOf_35 : decode cX5_priceOf 35 = .ok (.laload, 1) := by decide +kernel
theorem dX5_priceOf_36 : decode cX5_priceOf 36 = .ok (.ladd, 1) := by decide +kernel
theorem dX5_priceOf_37 : decode cX5_priceOf 37 = .ok (.lreturn, 1) := by decide +kernel
theorem dX5_overOf_0 : decode cX5_overOf 0 = .ok (.iconst 0, 1) := by decide +kernel
theorem dX5_overOf_1 : decode cX5_overOf 1 = .ok (.aload_n 0, 1) := by decide +kernel
theorem dX5_overOf_2 : decode cX5_overOf 2 = .ok (.getfield 15, 3) := by decide +kernel
theorem dX5_overOf_5 : decode cX5_overOf 5 = .ok (.iload_n 2, 1) := by decide +kernel
theorem dX5_overOf_6 : decode cX5_overOf 6 = .ok (.iaload, 1) := by decide +kernel
theorem dX5_overOf_7 : decode cX5_overOf 7 = .ok (.aload_n 0, 1) := by decide +kernel
theorem dX5_overOf_8 : decode cX5_overOf 8 = .ok (.getfield 15, 3) := by decide +kernel
theorem dX5_overOf_11 : decode cX5_overOf 11 = .ok (.iload_n 1, 1) := by decide +kernel
theorem dX5_overOf_12 : decode cX5_overOf 12 = .ok (.iaload, 1) := by decide +kernel
theorem dX5_overOf_13 : decode cX5_overOf 13 = .ok (.isub, 1) := by decide +kernel
theorem dX5_overOf_14 : decode cX5_overOf 14 = .ok (.aload_n 0, 1) := by decide +kernel
theorem dX5_overOf_15 : decode cX5_overOf 15 = .ok (.getfield 41, 3) := by decide +kernel
theorem dX5_overOf_18 : decode cX5_overOf 18 = .ok (.getfield 78, 3) := by decide +kernel
theorem dX5_overOf_21 : decode cX5_overOf 21 = .ok (.iload_n 3, 1) := by decide +kernel
theorem dX5_overOf_22 : decode cX5_overOf 22 = .ok (.iconst 1, 1) := by decide +kernel
theorem dX5_overOf_23 : decode cX5_overOf 23 = .ok (.if_icmp .ne 7, 3) := by decide +kernel
theorem dX5_overOf_26 : decode cX5_overOf 26 = .ok (.iconst 5, 1) := by decide +kernel
theorem dX5_overOf_27 : decode cX5_overOf 27 = .ok (.goto 4, 3) := by decide +kernel
theorem dX5_overOf_30 : decode cX5_overOf 30 = .ok (.iconst 4, 1) := by decide +kernel
theorem dX5_overOf_31 : decode cX5_overOf 31 = .ok (.iaload, 1) := by decide +kernel
theorem dX5_overOf_32 : decode cX5_overOf 32 = .ok (.isub, 1) := by decide +kernel
theorem dX5_overOf_33 : decode cX5_overOf 33 = .ok (.invokestatic 115, 3) := by decide +kernel
theorem dX5_overOf_36 : decode cX5_overOf 36 = .ok (.ireturn, 1) := by decide +kernel
theorem dX5_lateOf_0 : decode cX5_lateOf 0 = .ok (.iconst 0, 1) := by decide +kernel
theorem dX5_lateOf_1 : decode cX5_lateOf 1 = .ok (.aload_n 0, 1) := by decide +kernel
theorem dX5_lateOf_2 : decode cX5_lateOf 2 = .ok (.getfield 18, 3) := by decide +kernel
theorem dX5_lateOf_5 : decode cX5_lateOf 5 = .ok (.iload_n 2, 1) := by decide +kernel
theorem dX5_lateOf_6 : decode cX5_lateOf 6 = .ok (.iaload, 1) := by decide +kernel
theorem dX5_lateOf_7 : decode cX5_lateOf 7 = .ok (.aload_n 0, 1) := by decide +kernel
theorem dX5_lateOf_8 : decode cX5_lateOf 8 = .ok (.getfield 11, 3) := by decide +kernel
theorem dX5_lateOf_11 : decode cX5_lateOf 11 = .ok (.iload_n 1, 1) := by decide +kernel
theorem dX5_lateOf_12 : decode cX5_lateOf 12 = .ok (.iaload, 1) := by decide +kernel
theorem dX5_lateOf_13 : decode cX5_lateOf 13 = .ok (.isub, 1) := by decide +kernel
theorem dX5_lateOf_14 : decode cX5_lateOf 14 = .ok (.sipush 1440, 3) := by decide +kernel
theorem dX5_lateOf_17 : decode cX5_lateOf 17 = .ok (.isub, 1) := by decide +kernel
theorem dX5_lateOf_18 : decode cX5_lateOf 18 = .ok (.invokestatic 115, 3) := by decide +kernel
theorem dX5_lateOf_21 : decode cX5_lateOf 21 = .ok (.ireturn, 1) := by decide +kernel
theorem dX5_takenLeft_0 : decode cX5_takenLeft 0 = .ok (.aload_n 0, 1) := by decide +kernel
theorem dX5_takenLeft_1 : decode cX5_takenLeft 1 = .ok (.getfield 11, 3) := by decide +kernel
theorem dX5_takenLeft_4 : decode cX5_takenLeft 4 = .ok (.iload_n 2, 1) := by decide +kernel
theorem dX5_takenLeft_5 : decode cX5_takenLeft 5 = .ok (.iaload, 1) := by decide +kernel
theorem dX5_takenLeft_6 : decode cX5_takenLeft 6 = .ok (.iconst 1, 1) := by decide +kernel
theorem dX5_takenLeft_7 : decode cX5_takenLeft 7 = .ok (.isub, 1) := by decide +kernel
theorem dX5_takenLeft_8 : decode cX5_takenLeft 8 = .ok (.sipush 10080, 3) := by decide +kernel
theorem dX5_takenLeft_11 : decode cX5_takenLeft 11 = .ok (.idiv, 1) := by decide +kernel
theorem dX5_takenLeft_12 : decode cX5_takenLeft 12 = .ok (.istore 4, 2) := by decide +kernel
theorem dX5_takenLeft_14 : decode cX5_takenLeft 14 = .ok (.iload 4, 2) := by decide +kernel
theorem dX5_takenLeft_16 : decode cX5_takenLeft 16 = .ok (.aload_n 0, 1) := by decide +kernel
theorem dX5_takenLeft_17 : decode cX5_takenLeft 17 = .ok (.getfield 11, 3) := by decide +kernel
theorem dX5_takenLeft_20 : decode cX5_takenLeft 20 = .ok (.iload_n 1, 1) := by decide +kernel
theorem dX5_takenLeft_21 : decode cX5_takenLeft 21 = .ok (.iaload, 1) := by decide +kernel
theorem dX5_takenLeft_22 : decode cX5_takenLeft 22 = .ok (.sipush 10080, 3) := by decide +kernel
theorem dX5_takenLeft_25 : decode cX5_takenLeft 25 = .ok (.idiv, 1) := by decide +kernel
theorem dX5_takenLeft_26 : decode cX5_takenLeft 26 = .ok (.if_icmp .ne 7, 3) := by decide +kernel
theorem dX5_takenLeft_29 : decode cX5_takenLeft 29 = .ok (.iload_n 3, 1) := by decide +kernel
theorem dX5_takenLeft_30 : decode cX5_takenLeft 30 = .ok (.goto 7, 3) := by decide +kernel
theorem dX5_takenLeft_33 : decode cX5_takenLeft 33 = .ok (.aload_n 0, 1) := by decide +kernel
theorem dX5_takenLeft_34 : decode cX5_takenLeft 34 = .ok (.getfield 32, 3) := by decide +kernel
theorem dX5_takenLeft_37 : decode cX5_takenLeft 37 = .ok (.istore 5, 2) := by decide +kernel
theorem dX5_takenLeft_39 : decode cX5_takenLeft 39 = .ok (.aload_n 0, 1) := by decide +kernel
theorem dX5_takenLeft_40 : decode cX5_takenLeft 40 = .ok (.getfield 21, 3) := by decide +kernel
theorem dX5_takenLeft_43 : decode cX5_takenLeft 43 = .ok (.iload_n 2, 1) := by decide +kernel
theorem dX5_takenLeft_44 : decode cX5_takenLeft 44 = .ok (.iaload, 1) := by decide +kernel
theorem dX5_takenLeft_45 : decode cX5_takenLeft 45 = .ok (.iconst 2, 1) := by decide +kernel
theorem dX5_takenLeft_46 : decode cX5_takenLeft 46 = .ok (.if_icmp .ne 6, 3) := by decide +kernel
theorem dX5_takenLeft_49 : decode cX5_takenLeft 49 = .ok (.iinc 5 (-1), 3) := by decide +kernel
theorem dX5_takenLeft_52 : decode cX5_takenLeft 52 = .ok (.iload 5, 2) := by decide +kernel
theorem dX5_takenLeft_54 : decode cX5_takenLeft 54 = .ok (.ifCond .lt 18, 3) := by decide +kernel
theorem dX5_takenLeft_57 : decode cX5_takenLeft 57 = .ok (.iload 4, 2) := by decide +kernel
theorem dX5_takenLeft_59 : decode cX5_takenLeft 59 = .ok (.aload_n 0, 1) := by decide +kernel
theorem dX5_takenLeft_60 : decode cX5_takenLeft 60 = .ok (.getfield 11, 3) := by decide +kernel
theorem dX5_takenLeft_63 : decode cX5_takenLeft 63 = .ok (.iload_n 2, 1) := by decide +kernel
theorem dX5_takenLeft_64 : decode cX5_takenLeft 64 = .ok (.iaload, 1) := by decide +kernel
theorem dX5_takenLeft_65 : decode cX5_takenLeft 65 = .ok (.sipush 10080, 3) := by decide +kernel
theorem dX5_takenLeft_68 : decode cX5_takenLeft 68 = .ok (.idiv, 1) := by decide +kernel
theorem dX5_takenLeft_69 : decode cX5_takenLeft 69 = .ok (.if_icmp .ne 8, 3) := by decide +kernel
theorem dX5_takenLeft_72 : decode cX5_takenLeft 72 = .ok (.iload 5, 2) := by decide +kernel
theorem dX5_takenLeft_74 : decode cX5_takenLeft 74 = .ok (.goto 7, 3) := by decide +kernel
theorem dX5_takenLeft_77 : decode cX5_takenLeft 77 = .ok (.aload_n 0, 1) := by decide +kernel
theorem dX5_takenLeft_78 : decode cX5_takenLeft 78 = .ok (.getfield 32, 3) := by decide +kernel
theorem dX5_takenLeft_81 : decode cX5_takenLeft 81 = .ok (.ireturn, 1) := by decide +kernel
theorem dX5_extendedLeft_0 : decode cX5_extendedLeft 0 = .ok (.iload_n 3, 1) := by decide +kernel
theorem dX5_extendedLeft_1 : decode cX5_extendedLeft 1 = .ok (.ifCond .lt 26, 3) := by decide +kernel
theorem dX5_extendedLeft_4 : decode cX5_extendedLeft 4 = .ok (.aload_n 0, 1) := by decide +kernel
theorem dX5_extendedLeft_5 : decode cX5_extendedLeft 5 = .ok (.getfield 11, 3) := by decide +kernel
theorem dX5_extendedLeft_8 : decode cX5_extendedLeft 8 = .ok (.iload_n 1, 1) := by decide +kernel
theorem dX5_extendedLeft_9 : decode cX5_extendedLeft 9 = .ok (.iaload, 1) := by decide +kernel
theorem dX5_extendedLeft_10 : decode cX5_extendedLeft 10 = .ok (.sipush 10080, 3) := by decide +kernel
theorem dX5_extendedLeft_13 : decode cX5_extendedLeft 13 = .ok (.idiv, 1) := by decide +kernel
theorem dX5_extendedLeft_14 : decode cX5_extendedLeft 14 = .ok (.aload_n 0, 1) := by decide +kernel
theorem dX5_extendedLeft_15 : decode cX5_extendedLeft 15 = .ok (.getfield 11, 3) := by decide +kernel
theorem dX5_extendedLeft_18 : decode cX5_extendedLeft 18 = .ok (.iload_n 2, 1) := by decide +kernel
theorem dX5_extendedLeft_19 : decode cX5_extendedLeft 19 = .ok (.iaload, 1) := by decide +kernel
theorem dX5_extendedLeft_20 : decode cX5_extendedLeft 20 = .ok (.sipush 10080, 3) := by decide +kernel
theorem dX5_extendedLeft_23 : decode cX5_extendedLeft 23 = .ok (.idiv, 1) := by decide +kernel
theorem dX5_extendedLeft_24 : decode cX5_extendedLeft 24 = .ok (.if_icmp .ne 7, 3) := by decide +kernel
theorem dX5_extendedLeft_27 : decode cX5_extendedLeft 27 = .ok (.iload_n 3, 1) := by decide +kernel
theorem dX5_extendedLeft_28 : decode cX5_extendedLeft 28 = .ok (.goto 7, 3) := by decide +kernel
theorem dX5_extendedLeft_31 : decode cX5_extendedLeft 31 = .ok (.aload_n 0, 1) := by decide +kernel
theorem dX5_extendedLeft_32 : decode cX5_extendedLeft 32 = .ok (.getfield 35, 3) := by decide +kernel
theorem dX5_extendedLeft_35 : decode cX5_extendedLeft 35 = .ok (.ireturn, 1) := by decide +kernel
theorem dX5_leastFrom_0 : decode cX5_leastFrom 0 = .ok (.iload_n 2, 1) := by decide +kernel
theorem dX5_leastFrom_1 : decode cX5_leastFrom 1 = .ok (.ifCond .lt 7, 3) := by decide +kernel
theorem dX5_leastFrom_4 : decode cX5_leastFrom 4 = .ok (.iload_n 3, 1) := by decide +kernel
theorem dX5_leastFrom_5 : decode cX5_leastFrom 5 = .ok (.ifCond .ge 9, 3) := by decide +kernel
theorem dX5_leastFrom_8 : decode cX5_leastFrom 8 = .ok (.ldc2_w 118, 3) := by decide +kernel
theorem dX5_leastFrom_11 : decode cX5_leastFrom 11 = .ok (.goto 15, 3) := by decide +kernel
theorem dX5_leastFrom_14 : decode cX5_leastFrom 14 = .ok (.aload_n 0, 1) := by decide +kernel
theorem dX5_leastFrom_15 : decode cX5_leastFrom 15 = .ok (.getfield 38, 3) := by decide +kernel
theorem dX5_leastFrom_18 : decode cX5_leastFrom 18 = .ok (.aload_n 0, 1) := by decide +kernel
theorem dX5_leastFrom_19 : decode cX5_leastFrom 19 = .ok (.iload_n 1, 1) := by decide +kernel
theorem dX5_leastFrom_20 : decode cX5_leastFrom 20 = .ok (.iload_n 2, 1) := by decide +kernel
theorem dX5_leastFrom_21 : decode cX5_leastFrom 21 = .ok (.iload_n 3, 1) := by decide +kernel
theorem dX5_leastFrom_22 : decode cX5_leastFrom 22 = .ok (.invokevirtual 111, 3) := by decide +kernel
theorem dX5_leastFrom_25 : decode cX5_leastFrom 25 = .ok (.laload, 1) := by decide +kernel
theorem dX5_leastFrom_26 : decode cX5_leastFrom 26 = .ok (.lreturn, 1) := by decide +kernel
theorem dX5_tellDays_0 : decode cX5_tellDays 0 = .ok (.aload_n 0, 1) := by decide +kernel
theorem dX5_tellDays_1 : decode cX5_tellDays 1 = .ok (.getfield 49, 3) := by decide +kernel
theorem dX5_tellDays_4 : decode cX5_tellDays 4 = .ok (.iconst 0, 1) := by decide +kernel
theorem dX5_tellDays_5 : decode cX5_tellDays 5 = .ok (.putfield 153, 3) := by decide +kernel
theorem dX5_tellDays_8 : decode cX5_tellDays 8 = .ok (.iconst 0, 1) := by decide +kernel
theorem dX5_tellDays_9 : decode cX5_tellDays 9 = .ok (.istore_n 1, 1) := by decide +kernel
theorem dX5_tellDays_10 : decode cX5_tellDays 10 = .ok (.aload_n 0, 1) := by decide +kernel
theorem dX5_tellDays_11 : decode cX5_tellDays 11 = .ok (.getfield 32, 3) := by decide +kernel
theorem dX5_tellDays_14 : decode cX5_tellDays 14 = .ok (.istore_n 2, 1) := by decide +kernel
theorem dX5_tellDays_15 : decode cX5_tellDays 15 = .ok (.aload_n 0, 1) := by decide +kernel
theorem dX5_tellDays_16 : decode cX5_tellDays 16 = .ok (.getfield 35, 3) := by decide +kernel
theorem dX5_tellDays_19 : decode cX5_tellDays 19 = .ok (.istore_n 3, 1) := by decide +kernel
theorem dX5_tellDays_20 : decode cX5_tellDays 20 = .ok (.iconst 0, 1) := by decide +kernel
theorem dX5_tellDays_21 : decode cX5_tellDays 21 = .ok (.istore 4, 2) := by decide +kernel
theorem dX5_tellDays_23 : decode cX5_tellDays 23 = .ok (.iload 4, 2) := by decide +kernel
theorem dX5_tellDays_25 : decode cX5_tellDays 25 = .ok (.aload_n 0, 1) := by decide +kernel
theorem dX5_tellDays_26 : decode cX5_tellDays 26 = .ok (.getfield 28, 3) := by decide +kernel
theorem dX5_tellDays_29 : decode cX5_tellDays 29 = .ok (.if_icmp .ge 136, 3) := by decide +kernel
theorem dX5_tellDays_32 : decode cX5_tellDays 32 = .ok (.aload_n 0, 1) := by decide +kernel
theorem dX5_tellDays_33 : decode cX5_tellDays 33 = .ok (.getfield 11, 3) := by decide +kernel
theorem dX5_tellDays_36 : decode cX5_tellDays 36 = .ok (.iload_n 1, 1) := by decide +kernel
theorem dX5_tellDays_37 : decode cX5_tellDays 37 = .ok (.iaload, 1) := by decide +kernel
theorem dX5_tellDays_38 : decode cX5_tellDays 38 = .ok (.aload_n 0, 1) := by decide +kernel
theorem dX5_tellDays_39 : decode cX5_tellDays 39 = .ok (.getfield 45, 3) := by decide +kernel
theorem dX5_tellDays_42 : decode cX5_tellDays 42 = .ok (.getfield 91, 3) := by decide +kernel
theorem dX5_tellDays_45 : decode cX5_tellDays 45 = .ok (.if_icmp .ge 120, 3) := by decide +kernel
theorem dX5_tellDays_48 : decode cX5_tellDays 48 = .ok (.aload_n 0, 1) := by decide +kernel
theorem dX5_tellDays_49 : decode cX5_tellDays 49 = .ok (.iload_n 1, 1) := by decide +kernel
theorem dX5_tellDays_50 : decode cX5_tellDays 50 = .ok (.iload_n 2, 1) := by decide +kernel
theorem dX5_tellDays_51 : decode cX5_tellDays 51 = .ok (.iload_n 3, 1) := by decide +kernel
theorem dX5_tellDays_52 : decode cX5_tellDays 52 = .ok (.invokevirtual 156, 3) := by decide +kernel
theorem dX5_tellDays_55 : decode cX5_tellDays 55 = .ok (.istore 5, 2) := by decide +kernel
theorem dX5_tellDays_57 : decode cX5_tellDays 57 = .ok (.iload 5, 2) := by decide +kernel
theorem dX5_tellDays_59 : decode cX5_tellDays 59 = .ok (.iconst 2, 1) := by decide +kernel
theorem dX5_tellDays_60 : decode cX5_tellDays 60 = .ok (.idiv, 1) := by decide +kernel
theorem dX5_tellDays_61 : decode cX5_tellDays 61 = .ok (.istore 6, 2) := by decide +kernel
theorem dX5_tellDays_63 : decode cX5_tellDays 63 = .ok (.iload 5, 2) := by decide +kernel
theorem dX5_tellDays_65 : decode cX5_tellDays 65 = .ok (.iconst 2, 1) := by decide +kernel
theorem dX5_tellDays_66 : decode cX5_tellDays 66 = .ok (.irem, 1) := by decide +kernel
theorem dX5_tellDays_67 : decode cX5_tellDays 67 = .ok (.istore 7, 2) := by decide +kernel
theorem dX5_tellDays_69 : decode cX5_tellDays 69 = .ok (.aload_n 0, 1) := by decide +kernel
theorem dX5_tellDays_70 : decode cX5_tellDays 70 = .ok (.getfield 49, 3) := by decide +kernel
theorem dX5_tellDays_73 : decode cX5_tellDays 73 = .ok (.aload_n 0, 1) := by decide +kernel
theorem dX5_tellDays_74 : decode cX5_tellDays 74 = .ok (.getfield 11, 3) := by decide +kernel
theorem dX5_tellDays_77 : decode cX5_tellDays 77 = .ok (.iload_n 1, 1) := by decide +kernel
theorem dX5_tellDays_78 : decode cX5_tellDays 78 = .ok (.iaload, 1) := by decide +kernel
theorem dX5_tellDays_79 : decode cX5_tellDays 79 = .ok (.aload_n 0, 1) := by decide +kernel
theorem dX5_tellDays_80 : decode cX5_tellDays 80 = .ok (.getfield 11, 3) := by decide +kernel
theorem dX5_tellDays_83 : decode cX5_tellDays 83 = .ok (.iload 6, 2) := by decide +kernel
theorem dX5_tellDays_85 : decode cX5_tellDays 85 = .ok (.iaload, 1) := by decide +kernel
theorem dX5_tellDays_86 : decode cX5_tellDays 86 = .ok (.aload_n 0, 1) := by decide +kernel
theorem dX5_tellDays_87 : decode cX5_tellDays 87 = .ok (.getfield 21, 3) := by decide +kernel
theorem dX5_tellDays_90 : decode cX5_tellDays 90 = .ok (.iload 6, 2) := by decide +kernel
theorem dX5_tellDays_92 : decode cX5_tellDays 92 = .ok (.iaload, 1) := by decide +kernel
theorem dX5_tellDays_93 : decode cX5_tellDays 93 = .ok (.invokevirtual 159, 3) := by decide +kernel
theorem dX5_tellDays_96 : decode cX5_tellDays 96 = .ok (.aload_n 0, 1) := by decide +kernel
theorem dX5_tellDays_97 : decode cX5_tellDays 97 = .ok (.getfield 49, 3) := by decide +kernel
theorem dX5_tellDays_100 : decode cX5_tellDays 100 = .ok (.aload_n 0, 1) := by decide +kernel
theorem dX5_tellDays_101 : decode cX5_tellDays 101 = .ok (.getfield 15, 3) := by decide +kernel
theorem dX5_tellDays_104 : decode cX5_tellDays 104 = .ok (.iload 6, 2) := by decide +kernel
theorem dX5_tellDays_106 : decode cX5_tellDays 106 = .ok (.iaload, 1) := by decide +kernel
theorem dX5_tellDays_107 : decode cX5_tellDays 107 = .ok (.aload_n 0, 1) := by decide +kernel
theorem dX5_tellDays_108 : decode cX5_tellDays 108 = .ok (.getfield 15, 3) := by decide +kernel
theorem dX5_tellDays_111 : decode cX5_tellDays 111 = .ok (.iload_n 1, 1) := by decide +kernel
theorem dX5_tellDays_112 : decode cX5_tellDays 112 = .ok (.iaload, 1) := by decide +kernel
theorem dX5_tellDays_113 : decode cX5_tellDays 113 = .ok (.isub, 1) := by decide +kernel
theorem dX5_tellDays_114 : decode cX5_tellDays 114 = .ok (.iload 7, 2) := by decide +kernel
theorem dX5_tellDays_116 : decode cX5_tellDays 116 = .ok (.aload_n 0, 1) := by decide +kernel
theorem dX5_tellDays_117 : decode cX5_tellDays 117 = .ok (.iload_n 1, 1) := by decide +kernel
theorem dX5_tellDays_118 : decode cX5_tellDays 118 = .ok (.iload 6, 2) := by decide +kernel
theorem dX5_tellDays_120 : decode cX5_tellDays 120 = .ok (.iload 7, 2) := by decide +kernel
theorem dX5_tellDays_122 : decode cX5_tellDays 122 = .ok (.invokevirtual 143, 3) := by decide +kernel
theorem dX5_tellDays_125 : decode cX5_tellDays 125 = .ok (.aload_n 0, 1) := by decide +kernel
theorem dX5_tellDays_126 : decode cX5_tellDays 126 = .ok (.iload_n 1, 1) := by decide +kernel
theorem dX5_tellDays_127 : decode cX5_tellDays 127 = .ok (.iload 6, 2) := by decide +kernel
theorem dX5_tellDays_129 : decode cX5_tellDays 129 = .ok (.invokevirtual 146, 3) := by decide +kernel
theorem dX5_tellDays_132 : decode cX5_tellDays 132 = .ok (.invokevirtual 162, 3) := by decide +kernel
theorem dX5_tellDays_135 : decode cX5_tellDays 135 = .ok (.aload_n 0, 1) := by decide +kernel
theorem dX5_tellDays_136 : decode cX5_tellDays 136 = .ok (.iload_n 1, 1) := by decide +kernel
theorem dX5_tellDays_137 : decode cX5_tellDays 137 = .ok (.iload 6, 2) := by decide +kernel
theorem dX5_tellDays_139 : decode cX5_tellDays 139 = .ok (.iload_n 2, 1) := by decide +kernel
theorem dX5_tellDays_140 : decode cX5_tellDays 140 = .ok (.invokevirtual 131, 3) := by decide +kernel
theorem dX5_tellDays_143 : decode cX5_tellDays 143 = .ok (.istore_n 2, 1) := by decide +kernel
theorem dX5_tellDays_144 : decode cX5_tellDays 144 = .ok (.aload_n 0, 1) := by decide +kernel
theorem dX5_tellDays_145 : decode cX5_tellDays 145 = .ok (.iload_n 1, 1) := by decide +kernel
theorem dX5_tellDays_146 : decode cX5_tellDays 146 = .ok (.iload 6, 2) := by decide +kernel
theorem dX5_tellDays_148 : decode cX5_tellDays 148 = .ok (.iload_n 3, 1) := by decide +kernel
theorem dX5_tellDays_149 : decode cX5_tellDays 149 = .ok (.iload 7, 2) := by decide +kernel
theorem dX5_tellDays_151 : decode cX5_tellDays 151 = .ok (.isub, 1) := by decide +kernel
theorem dX5_tellDays_152 : decode cX5_tellDays 152 = .ok (.invokevirtual 134, 3) := by decide +kernel
theorem dX5_tellDays_155 : decode cX5_tellDays 155 = .ok (.istore_n 3, 1) := by decide +kernel
theorem dX5_tellDays_156 : decode cX5_tellDays 156 = .ok (.iload 6, 2) := by decide +kernel
theorem dX5_tellDays_158 : decode cX5_tellDays 158 = .ok (.istore_n 1, 1) := by decide +kernel
theorem dX5_tellDays_159 : decode cX5_tellDays 159 = .ok (.iinc 4 1, 3) := by decide +kernel
theorem dX5_tellDays_162 : decode cX5_tellDays 162 = .ok (.goto (-139), 3) := by decide +kernel
theorem dX5_tellDays_165 : decode cX5_tellDays 165 = .ok (.return_, 1) := by decide +kernel
theorem dX5_choiceAt_0 : decode cX5_choiceAt 0 = .ok (.aload_n 0, 1) := by decide +kernel
theorem dX5_choiceAt_1 : decode cX5_choiceAt 1 = .ok (.iload_n 1, 1) := by decide +kernel
theorem dX5_choiceAt_2 : decode cX5_choiceAt 2 = .ok (.invokevirtual 120, 3) := by decide +kernel
theorem dX5_choiceAt_5 : decode cX5_choiceAt 5 = .ok (.istore 4, 2) := by decide +kernel
theorem dX5_choiceAt_7 : decode cX5_choiceAt 7 = .ok (.aload_n 0, 1) := by decide +kernel
theorem dX5_choiceAt_8 : decode cX5_choiceAt 8 = .ok (.iload_n 1, 1) := by decide +kernel
theorem dX5_choiceAt_9 : decode cX5_choiceAt 9 = .ok (.iload_n 2, 1) := by decide +kernel
theorem dX5_choiceAt_10 : decode cX5_choiceAt 10 = .ok (.iload_n 3, 1) := by decide +kernel
theorem dX5_choiceAt_11 : decode cX5_choiceAt 11 = .ok (.invokevirtual 137, 3) := by decide +kernel
theorem dX5_choiceAt_14 : decode cX5_choiceAt 14 = .ok (.lstore 5, 2) := by decide +kernel
theorem dX5_choiceAt_16 : decode cX5_choiceAt 16 = .ok (.iload_n 1, 1) := by decide +kernel
theorem dX5_choiceAt_17 : decode cX5_choiceAt 17 = .ok (.iconst 1, 1) := by decide +kernel
theorem dX5_choiceAt_18 : decode cX5_choiceAt 18 = .ok (.iadd, 1) := by decide +kernel
theorem dX5_choiceAt_19 : decode cX5_choiceAt 19 = .ok (.istore 7, 2) := by decide +kernel
theorem dX5_choiceAt_21 : decode cX5_choiceAt 21 = .ok (.iload 7, 2) := by decide +kernel
theorem dX5_choiceAt_23 : decode cX5_choiceAt 23 = .ok (.iload 4, 2) := by decide +kernel
theorem dX5_choiceAt_25 : decode cX5_choiceAt 25 = .ok (.if_icmp .gt 80, 3) := by decide +kernel
theorem dX5_choiceAt_28 : decode cX5_choiceAt 28 = .ok (.aload_n 0, 1) := by decide +kernel
theorem dX5_choiceAt_29 : decode cX5_choiceAt 29 = .ok (.iload_n 1, 1) := by decide +kernel
theorem dX5_choiceAt_30 : decode cX5_choiceAt 30 = .ok (.iload 7, 2) := by decide +kernel
theorem dX5_choiceAt_32 : decode cX5_choiceAt 32 = .ok (.iload_n 2, 1) := by decide +kernel
theorem dX5_choiceAt_33 : decode cX5_choiceAt 33 = .ok (.invokevirtual 131, 3) := by decide +kernel
theorem dX5_choiceAt_36 : decode cX5_choiceAt 36 = .ok (.istore 8, 2) := by decide +kernel
theorem dX5_choiceAt_38 : decode cX5_choiceAt 38 = .ok (.iconst 1, 1) := by decide +kernel
theorem dX5_choiceAt_39 : decode cX5_choiceAt 39 = .ok (.istore 9, 2) := by decide +kernel
theorem dX5_choiceAt_41 : decode cX5_choiceAt 41 = .ok (.iload 9, 2) := by decide +kernel
theorem dX5_choiceAt_43 : decode cX5_choiceAt 43 = .ok (.ifCond .lt 56, 3) := by decide +kernel
theorem dX5_choiceAt_46 : decode cX5_choiceAt 46 = .ok (.aload_n 0, 1) := by decide +kernel
theorem dX5_choiceAt_47 : decode cX5_choiceAt 47 = .ok (.iload_n 1, 1) := by decide +kernel
theorem dX5_choiceAt_48 : decode cX5_choiceAt 48 = .ok (.iload 7, 2) := by decide +kernel
theorem dX5_choiceAt_50 : decode cX5_choiceAt 50 = .ok (.iload_n 3, 1) := by decide +kernel
theorem dX5_choiceAt_51 : decode cX5_choiceAt 51 = .ok (.iload 9, 2) := by decide +kernel
theorem dX5_choiceAt_53 : decode cX5_choiceAt 53 = .ok (.isub, 1) := by decide +kernel
theorem dX5_choiceAt_54 : decode cX5_choiceAt 54 = .ok (.invokevirtual 134, 3) := by decide +kernel
theorem dX5_choiceAt_57 : decode cX5_choiceAt 57 = .ok (.istore 10, 2) := by decide +kernel
theorem dX5_choiceAt_59 : decode cX5_choiceAt 59 = .ok (.aload_n 0, 1) := by decide +kernel
theorem dX5_choiceAt_60 : decode cX5_choiceAt 60 = .ok (.iload_n 1, 1) := by decide +kernel
theorem dX5_choiceAt_61 : decode cX5_choiceAt 61 = .ok (.iload 7, 2) := by decide +kernel
theorem dX5_choiceAt_63 : decode cX5_choiceAt 63 = .ok (.iload 9, 2) := by decide +kernel
theorem dX5_choiceAt_65 : decode cX5_choiceAt 65 = .ok (.invokevirtual 127, 3) := by decide +kernel
theorem dX5_choiceAt_68 : decode cX5_choiceAt 68 = .ok (.aload_n 0, 1) := by decide +kernel
theorem dX5_choiceAt_69 : decode cX5_choiceAt 69 = .ok (.iload 7, 2) := by decide +kernel
theorem dX5_choiceAt_71 : decode cX5_choiceAt 71 = .ok (.iload 8, 2) := by decide +kernel
theorem dX5_choiceAt_73 : decode cX5_choiceAt 73 = .ok (.iload 10, 2) := by decide +kernel
theorem dX5_choiceAt_75 : decode cX5_choiceAt 75 = .ok (.invokevirtual 137, 3) := by decide +kernel
theorem dX5_choiceAt_78 : decode cX5_choiceAt 78 = .ok (.ladd, 1) := by decide +kernel
theorem dX5_choiceAt_79 : decode cX5_choiceAt 79 = .ok (.lload 5, 2) := by decide +kernel
theorem dX5_choiceAt_81 : decode cX5_choiceAt 81 = .ok (.lcmp, 1) := by decide +kernel
theorem dX5_choiceAt_82 : decode cX5_choiceAt 82 = .ok (.ifCond .ne 11, 3) := by decide +kernel
theorem dX5_choiceAt_85 : decode cX5_choiceAt 85 = .ok (.iconst 2, 1) := by decide +kernel
theorem dX5_choiceAt_86 : decode cX5_choiceAt 86 = .ok (.iload 7, 2) := by decide +kernel
theorem dX5_choiceAt_88 : decode cX5_choiceAt 88 = .ok (.imul, 1) := by decide +kernel
theorem dX5_choiceAt_89 : decode cX5_choiceAt 89 = .ok (.iload 9, 2) := by decide +kernel
theorem dX5_choiceAt_91 : decode cX5_choiceAt 91 = .ok (.iadd, 1) := by decide +kernel
theorem dX5_choiceAt_92 : decode cX5_choiceAt 92 = .ok (.ireturn, 1) := by decide +kernel
theorem dX5_choiceAt_93 : decode cX5_choiceAt 93 = .ok (.iinc 9 (-1), 3) := by decide +kernel
theorem dX5_choiceAt_96 : decode cX5_choiceAt 96 = .ok (.goto (-55), 3) := by decide +kernel
theorem dX5_choiceAt_99 : decode cX5_choiceAt 99 = .ok (.iinc 7 1, 3) := by decide +kernel
theorem dX5_choiceAt_102 : decode cX5_choiceAt 102 = .ok (.goto (-81), 3) := by decide +kernel
theorem dX5_choiceAt_105 : decode cX5_choiceAt 105 = .ok (.iconst 2, 1) := by decide +kernel
theorem dX5_choiceAt_106 : decode cX5_choiceAt 106 = .ok (.iload 4, 2) := by decide +kernel
theorem dX5_choiceAt_108 : decode cX5_choiceAt 108 = .ok (.imul, 1) := by decide +kernel
theorem dX5_choiceAt_109 : decode cX5_choiceAt 109 = .ok (.ireturn, 1) := by decide +kernel
theorem dX6_init_0 : decode cX6_init 0 = .ok (.aload_n 0, 1) := by decide +kernel
theorem dX6_init_1 : decode cX6_init 1 = .ok (.invokespecial 3, 3) := by decide +kernel
theorem dX6_init_4 : decode cX6_init 4 = .ok (.aload_n 0, 1) := by decide +kernel
theorem dX6_init_5 : decode cX6_init 5 = .ok (.bipush 60, 2) := by decide +kernel
theorem dX6_init_7 : decode cX6_init 7 = .ok (.newarray .int, 2) := by decide +kernel
theorem dX6_init_9 : decode cX6_init 9 = .ok (.putfield 9, 3) := by decide +kernel
theorem dX6_init_12 : decode cX6_init 12 = .ok (.aload_n 0, 1) := by decide +kernel
theorem dX6_init_13 : decode cX6_init 13 = .ok (.bipush 61, 2) := by decide +kernel
theorem dX6_init_15 : decode cX6_init 15 = .ok (.newarray .int, 2) := by decide +kernel
theorem dX6_init_17 : decode cX6_init 17 = .ok (.putfield 15, 3) := by decide +kernel
theorem dX6_init_20 : decode cX6_init 20 = .ok (.aload_n 0, 1) := by decide +kernel
theorem dX6_init_21 : decode cX6_init 21 = .ok (.bipush 60, 2) := by decide +kernel
theorem dX6_init_23 : decode cX6_init 23 = .ok (.newarray .int, 2) := by decide +kernel
theorem dX6_init_25 : decode cX6_init 25 = .ok (.putfield 18, 3) := by decide +kernel
theorem dX6_init_28 : decode cX6_init 28 = .ok (.aload_n 0, 1) := by decide +kernel
theorem dX6_init_29 : decode cX6_init 29 = .ok (.bipush 60, 2) := by decide +kernel
theorem dX6_init_31 : decode cX6_init 31 = .ok (.newarray .int, 2) := by decide +kernel
theorem dX6_init_33 : decode cX6_init 33 = .ok (.putfield 21, 3) := by decide +kernel
theorem dX6_init_36 : decode cX6_init 36 = .ok (.aload_n 0, 1) := by decide +kernel
theorem dX6_init_37 : decode cX6_init 37 = .ok (.bipush 60, 2) := by decide +kernel
theorem dX6_init_39 : decode cX6_init 39 = .ok (.newarray .int, 2) := by decide +kernel
theorem dX6_init_41 : decode cX6_init 41 = .ok (.putfield 24, 3) := by decide +kernel
theorem dX6_init_44 : decode cX6_init 44 = .ok (.aload_n 0, 1) := by decide +kernel
theorem dX6_init_45 : decode cX6_init 45 = .ok (.iconst 0, 1) := by decide +kernel
theorem dX6_init_46 : decode cX6_init 46 = .ok (.putfield 27, 3) := by decide +kernel
theorem dX6_init_49 : decode cX6_init 49 = .ok (.aload_n 0, 1) := by decide +kernel
theorem dX6_init_50 : decode cX6_init 50 = .ok (.iconst 0, 1) := by decide +kernel
theorem dX6_init_51 : decode cX6_init 51 = .ok (.putfield 31, 3) := by decide +kernel
theorem dX6_init_54 : decode cX6_init 54 = .ok (.aload_n 0, 1) := by decide +kernel
theorem dX6_init_55 : decode cX6_init 55 = .ok (.iconst 0, 1) := by decide +kernel
theorem dX6_init_56 : decode cX6_init 56 = .ok (.putfield 34, 3) := by decide +kernel
theorem dX6_init_59 : decode cX6_init 59 = .ok (.aload_n 0, 1) := by decide +kernel
theorem dX6_init_60 : decode cX6_init 60 = .ok (.iconst 0, 1) := by decide +kernel
theorem dX6_init_61 : decode cX6_init 61 = .ok (.putfield 37, 3) := by decide +kernel
theorem dX6_init_64 : decode cX6_init 64 = .ok (.return_, 1) := by decide +kernel
theorem dX6_read_0 : decode cX6_read 0 = .ok (.aload_n 0, 1) := by decide +kernel
theorem dX6_read_1 : decode cX6_read 1 = .ok (.aload_n 1, 1) := by decide +kernel
theorem dX6_read_2 : decode cX6_read 2 = .ok (.getfield 40, 3) := by decide +kernel
theorem dX6_read_5 : decode cX6_read 5 = .ok (.putfield 27, 3) := by decide +kernel
theorem dX6_read_8 : decode cX6_read 8 = .ok (.aload_n 0, 1) := by decide +kernel
theorem dX6_read_9 : decode cX6_read 9 = .ok (.aload_n 1, 1) := by decide +kernel
theorem dX6_read_10 : decode cX6_read 10 = .ok (.getfield 43, 3) := by decide +kernel
theorem dX6_read_13 : decode cX6_read 13 = .ok (.aload_n 0, 1) := by decide +kernel
theorem dX6_read_14 : decode cX6_read 14 = .ok (.getfield 27, 3) := by decide +kernel
theorem dX6_read_17 : decode cX6_read 17 = .ok (.iaload, 1) := by decide +kernel
theorem dX6_read_18 : decode cX6_read 18 = .ok (.putfield 31, 3) := by decide +kernel
theorem dX6_read_21 : decode cX6_read 21 = .ok (.aload_n 0, 1) := by decide +kernel
theorem dX6_read_22 : decode cX6_read 22 = .ok (.iconst 0, 1) := by decide +kernel
theorem dX6_read_23 : decode cX6_read 23 = .ok (.putfield 34, 3) := by decide +kernel
theorem dX6_read_26 : decode cX6_read 26 = .ok (.aload_n 0, 1) := by decide +kernel
theorem dX6_read_27 : decode cX6_read 27 = .ok (.iconst 0, 1) := by decide +kernel
theorem dX6_read_28 : decode cX6_read 28 = .ok (.putfield 37, 3) := by decide +kernel
theorem dX6_read_31 : decode cX6_read 31 = .ok (.aload_n 1, 1) := by decide +kernel
theorem dX6_read_32 : decode cX6_read 32 = .ok (.getfield 43, 3) := by decide +kernel
theorem dX6_read_35 : decode cX6_read 35 = .ok (.iconst 0, 1) := by decide +kernel
theorem dX6_read_36 : decode cX6_read 36 = .ok (.aload_n 0, 1) := by decide +kernel
theorem dX6_read_37 : decode cX6_read 37 = .ok (.getfield 15, 3) := by decide +kernel
theorem dX6_read_40 : decode cX6_read 40 = .ok (.iconst 0, 1) := by decide +kernel
theorem dX6_read_41 : decode cX6_read 41 = .ok (.aload_n 0, 1) := by decide +kernel
theorem dX6_read_42 : decode cX6_read 42 = .ok (.getfield 27, 3) := by decide +kernel
theorem dX6_read_45 : decode cX6_read 45 = .ok (.iconst 1, 1) := by decide +kernel
theorem dX6_read_46 : decode cX6_read 46 = .ok (.iadd, 1) := by decide +kernel
theorem dX6_read_47 : decode cX6_read 47 = .ok (.invokestatic 44, 3) := by decide +kernel
theorem dX6_read_50 : decode cX6_read 50 = .ok (.iconst 0, 1) := by decide +kernel
theorem dX6_read_51 : decode cX6_read 51 = .ok (.istore_n 3, 1) := by decide +kernel
theorem dX6_read_52 : decode cX6_read 52 = .ok (.iload_n 3, 1) := by decide +kernel
theorem dX6_read_53 : decode cX6_read 53 = .ok (.aload_n 0, 1) := by decide +kernel
theorem dX6_read_54 : decode cX6_read 54 = .ok (.getfield 27, 3) := by decide +kernel
theorem dX6_read_57 : decode cX6_read 57 = .ok (.if_icmp .ge 72, 3) := by decide +kernel
theorem dX6_read_60 : decode cX6_read 60 = .ok (.aload_n 0, 1) := by decide +kernel
theorem dX6_read_61 : decode cX6_read 61 = .ok (.getfield 9, 3) := by decide +kernel
theorem dX6_read_64 : decode cX6_read 64 = .ok (.iload_n 3, 1) := by decide +kernel
theorem dX6_read_65 : decode cX6_read 65 = .ok (.aload_n 1, 1) := by decide +kernel
theorem dX6_read_66 : decode cX6_read 66 = .ok (.iload_n 3, 1) := by decide +kernel
theorem dX6_read_67 : decode cX6_read 67 = .ok (.iload_n 2, 1) := by decide +kernel
theorem dX6_read_68 : decode cX6_read 68 = .ok (.invokevirtual 50, 3) := by decide +kernel
theorem dX6_read_71 : decode cX6_read 71 = .ok (.iastore, 1) := by decide +kernel
theorem dX6_read_72 : decode cX6_read 72 = .ok (.aload_n 0, 1) := by decide +kernel
theorem dX6_read_73 : decode cX6_read 73 = .ok (.getfield 9, 3) := by decide +kernel
theorem dX6_read_76 : decode cX6_read 76 = .ok (.iload_n 3, 1) := by decide +kernel
theorem dX6_read_77 : decode cX6_read 77 = .ok (.iaload, 1) := by decide +kernel
theorem dX6_read_78 : decode cX6_read 78 = .ok (.ifCond .ne 30, 3) := by decide +kernel
theorem dX6_read_81 : decode cX6_read 81 = .ok (.aload_n 0, 1) := by decide +kernel
theorem dX6_read_82 : decode cX6_read 82 = .ok (.dup, 1) := by decide +kernel
theorem dX6_read_83 : decode cX6_read 83 = .ok (.getfield 34, 3) := by decide +kernel
theorem dX6_read_86 : decode cX6_read 86 = .ok (.aload_n 0, 1) := by decide +kernel
theorem dX6_read_87 : decode cX6_read 87 = .ok (.getfield 15, 3) := by decide +kernel
theorem dX6_read_90 : decode cX6_read 90 = .ok (.iload_n 3, 1) := by decide +kernel
theorem dX6_read_91 : decode cX6_read 91 = .ok (.iconst 1, 1) := by decide +kernel
theorem dX6_read_92 : decode cX6_read 92 = .ok (.iadd, 1) := by decide +kernel
theorem dX6_read_93 : decode cX6_read 93 = .ok (.iaload, 1) := by decide +kernel
theorem dX6_read_94 : decode cX6_read 94 = .ok (.aload_n 0, 1) := by decide +kernel
theorem dX6_read_95 : decode cX6_read 95 = .ok (.getfield 15, 3) := by decide +kernel
theorem dX6_read_98 : decode cX6_read 98 = .ok (.iload_n 3, 1) := by decide +kernel
theorem dX6_read_99 : decode cX6_read 99 = .ok (.iaload, 1) := by decide +kernel
theorem dX6_read_100 : decode cX6_read 100 = .ok (.isub, 1) := by decide +kernel
theorem dX6_read_101 : decode cX6_read 101 = .ok (.iadd, 1) := by decide +kernel
theorem dX6_read_102 : decode cX6_read 102 = .ok (.putfield 34, 3) := by decide +kernel
theorem dX6_read_105 : decode cX6_read 105 = .ok (.goto 18, 3) := by decide +kernel
theorem dX6_read_108 : decode cX6_read 108 = .ok (.aload_n 0, 1) := by decide +kernel
theorem dX6_read_109 : decode cX6_read 109 = .ok (.getfield 9, 3) := by decide +kernel
theorem dX6_read_112 : decode cX6_read 112 = .ok (.iload_n 3, 1) := by decide +kernel
theorem dX6_read_113 : decode cX6_read 113 = .ok (.iaload, 1) := by decide +kernel
theorem dX6_read_114 : decode cX6_read 114 = .ok (.iconst 2, 1) := by decide +kernel
theorem dX6_read_115 : decode cX6_read 115 = .ok (.if_icmp .ne 8, 3) := by decide +kernel
theorem dX6_read_118 : decode cX6_read 118 = .ok (.aload_n 0, 1) := by decide +kernel
theorem dX6_read_119 : decode cX6_read 119 = .ok (.iload_n 3, 1) := by decide +kernel
theorem dX6_read_120 : decode cX6_read 120 = .ok (.invokevirtual 54, 3) := by decide +kernel
theorem dX6_read_123 : decode cX6_read 123 = .ok (.iinc 3 1, 3) := by decide +kernel
theorem dX6_read_126 : decode cX6_read 126 = .ok (.goto (-74), 3) := by decide +kernel
theorem dX6_read_129 : decode cX6_read 129 = .ok (.return_, 1) := by decide +kernel
theorem dX6_addRest_0 : decode cX6_addRest 0 = .ok (.iload_n 1, 1) := by decide +kernel
theorem dX6_addRest_1 : decode cX6_addRest 1 = .ok (.ifCond .eq 15, 3) := by decide +kernel
theorem dX6_addRest_4 : decode cX6_addRest 4 = .ok (.aload_n 0, 1) := by decide +kernel
theorem dX6_addRest_5 : decode cX6_addRest 5 = .ok (.getfield 9, 3) := by decide +kernel
theorem dX6_addRest_8 : decode cX6_addRest 8 = .ok (.iload_n 1, 1) := by decide +kernel
theorem dX6_addRest_9 : decode cX6_addRest 9 = .ok (.iconst 1, 1) := by decide +kernel
theorem dX6_addRest_10 : decode cX6_addRest 10 = .ok (.isub, 1) := by decide +kernel
theorem dX6_addRest_11 : decode cX6_addRest 11 = .ok (.iaload, 1) := by decide +kernel
theorem dX6_addRest_12 : decode cX6_addRest 12 = .ok (.iconst 2, 1) := by decide +kernel
theorem dX6_addRest_13 : decode cX6_addRest 13 = .ok (.if_icmp .eq 41, 3) := by decide +kernel
theorem dX6_addRest_16 : decode cX6_addRest 16 = .ok (.aload_n 0, 1) := by decide +kernel
theorem dX6_addRest_17 : decode cX6_addRest 17 = .ok (.getfield 18, 3) := by decide +kernel
theorem dX6_addRest_20 : decode cX6_addRest 20 = .ok (.aload_n 0, 1) := by decide +kernel
theorem dX6_addRest_21 : decode cX6_addRest 21 = .ok (.getfield 37, 3) := by decide +kernel
theorem dX6_addRest_24 : decode cX6_addRest 24 = .ok (.aload_n 0, 1) := by decide +kernel
theorem dX6_addRest_25 : decode cX6_addRest 25 = .ok (.getfield 15, 3) := by decide +kernel
theorem dX6_addRest_28 : decode cX6_addRest 28 = .ok (.iload_n 1, 1) := by decide +kernel
theorem dX6_addRest_29 : decode cX6_addRest 29 = .ok (.iaload, 1) := by decide +kernel
theorem dX6_addRest_30 : decode cX6_addRest 30 = .ok (.iastore, 1) := by decide +kernel
theorem dX6_addRest_31 : decode cX6_addRest 31 = .ok (.aload_n 0, 1) := by decide +kernel
theorem dX6_addRest_32 : decode cX6_addRest 32 = .ok (.getfield 24, 3) := by decide +kernel
theorem dX6_addRest_35 : decode cX6_addRest 35 = .ok (.aload_n 0, 1) := by decide +kernel
theorem dX6_addRest_36 : decode cX6_addRest 36 = .ok (.getfield 37, 3) := by decide +kernel
theorem dX6_addRest_39 : decode cX6_addRest 39 = .ok (.aload_n 0, 1) := by decide +kernel
theorem dX6_addRest_40 : decode cX6_addRest 40 = .ok (.getfield 34, 3) := by decide +kernel
theorem dX6_addRest_43 : decode cX6_addRest 43 = .ok (.iastore, 1) := by decide +kernel
theorem dX6_addRest_44 : decode cX6_addRest 44 = .ok (.aload_n 0, 1) := by decide +kernel
theorem dX6_addRest_45 : decode cX6_addRest 45 = .ok (.dup, 1) := by decide +kernel
theorem dX6_addRest_46 : decode cX6_addRest 46 = .ok (.getfield 37, 3) := by decide +kernel
theorem dX6_addRest_49 : decode cX6_addRest 49 = .ok (.iconst 1, 1) := by decide +kernel
theorem dX6_addRest_50 : decode cX6_addRest 50 = .ok (.iadd, 1) := by decide +kernel
theorem dX6_addRest_51 : decode cX6_addRest 51 = .ok (.putfield 37, 3) := by decide +kernel
theorem dX6_addRest_54 : decode cX6_addRest 54 = .ok (.aload_n 0, 1) := by decide +kernel
theorem dX6_addRest_55 : decode cX6_addRest 55 = .ok (.getfield 21, 3) := by decide +kernel
theorem dX6_addRest_58 : decode cX6_addRest 58 = .ok (.aload_n 0, 1) := by decide +kernel
theorem dX6_addRest_59 : decode cX6_addRest 59 = .ok (.getfield 37, 3) := by decide +kernel
theorem dX6_addRest_62 : decode cX6_addRest 62 = .ok (.iconst 1, 1) := by decide +kernel
theorem dX6_addRest_63 : decode cX6_addRest 63 = .ok (.isub, 1) := by decide +kernel
theorem dX6_addRest_64 : decode cX6_addRest 64 = .ok (.aload_n 0, 1) := by decide +kernel
theorem dX6_addRest_65 : decode cX6_addRest 65 = .ok (.getfield 15, 3) := by decide +kernel
theorem dX6_addRest_68 : decode cX6_addRest 68 = .ok (.iload_n 1, 1) := by decide +kernel
theorem dX6_addRest_69 : decode cX6_addRest 69 = .ok (.iconst 1, 1) := by decide +kernel
theorem dX6_addRest_70 : decode cX6_addRest 70 = .ok (.iadd, 1) := by decide +kernel
theorem dX6_addRest_71 : decode cX6_addRest 71 = .ok (.iaload, 1) := by decide +kernel
theorem dX6_addRest_72 : decode cX6_addRest 72 = .ok (.iastore, 1) := by decide +kernel
theorem dX6_addRest_73 : decode cX6_addRest 73 = .ok (.return_, 1) := by decide +kernel
theorem dX6_runLength_0 : decode cX6_runLength 0 = .ok (.aload_n 0, 1) := by decide +kernel
theorem dX6_runLength_1 : decode cX6_runLength 1 = .ok (.getfield 21, 3) := by decide +kernel
theorem dX6_runLength_4 : decode cX6_runLength 4 = .ok (.iload_n 1, 1) := by decide +kernel
theorem dX6_runLength_5 : decode cX6_runLength 5 = .ok (.iaload, 1) := by decide +kernel
theorem dX6_runLength_6 : decode cX6_runLength 6 = .ok (.aload_n 0, 1) := by decide +kernel
theorem dX6_runLength_7 : decode cX6_runLength 7 = .ok (.getfield 18, 3) := by decide +kernel
theorem dX6_runLength_10 : decode cX6_runLength 10 = .ok (.iload_n 1, 1) := by decide +kernel
theorem dX6_runLength_11 : decode cX6_runLength 11 = .ok (.iaload, 1) := by decide +kernel
theorem dX6_runLength_12 : decode cX6_runLength 12 = .ok (.isub, 1) := by decide +kernel
theorem dX6_runLength_13 : decode cX6_runLength 13 = .ok (.ireturn, 1) := by decide +kernel
theorem dX6_longestRun_0 : decode cX6_longestRun 0 = .ok (.iconst 0, 1) := by decide +kernel
theorem dX6_longestRun_1 : decode cX6_longestRun 1 = .ok (.istore_n 1, 1) := by decide +kernel
theorem dX6_longestRun_2 : decode cX6_longestRun 2 = .ok (.iconst 0, 1) := by decide +kernel
theorem dX6_longestRun_3 : decode cX6_longestRun 3 = .ok (.istore_n 2, 1) := by decide +kernel
theorem dX6_longestRun_4 : decode cX6_longestRun 4 = .ok (.iload_n 2, 1) := by decide +kernel
theorem dX6_longestRun_5 : decode cX6_longestRun 5 = .ok (.aload_n 0, 1) := by decide +kernel
theorem dX6_longestRun_6 : decode cX6_longestRun 6 = .ok (.getfield 37, 3) := by decide +kernel
theorem dX6_longestRun_9 : decode cX6_longestRun 9 = .ok (.if_icmp .ge 19, 3) := by decide +kernel
theorem dX6_longestRun_12 : decode cX6_longestRun 12 = .ok (.iload_n 1, 1) := by decide +kernel
theorem dX6_longestRun_13 : decode cX6_longestRun 13 = .ok (.aload_n 0, 1) := by decide +kernel
theorem dX6_longestRun_14 : decode cX6_longestRun 14 = .ok (.iload_n 2, 1) := by decide +kernel
theorem dX6_longestRun_15 : decode cX6_longestRun 15 = .ok (.invokevirtual 58, 3) := by decide +kernel
theorem dX6_longestRun_18 : decode cX6_longestRun 18 = .ok (.invokestatic 62, 3) := by decide +kernel
theorem dX6_longestRun_21 : decode cX6_longestRun 21 = .ok (.istore_n 1, 1) := by decide +kernel
theorem dX6_longestRun_22 : decode cX6_longestRun 22 = .ok (.iinc 2 1, 3) := by decide +kernel
theorem dX6_longestRun_25 : decode cX6_longestRun 25 = .ok (.goto (-21), 3) := by decide +kernel
theorem dX6_longestRun_28 : decode cX6_longestRun 28 = .ok (.iload_n 1, 1) := by decide +kernel
theorem dX6_longestRun_29 : decode cX6_longestRun 29 = .ok (.ireturn, 1) := by decide +kernel
theorem dX6_endsWithRun_0 : decode cX6_endsWithRun 0 = .ok (.aload_n 0, 1) := by decide +kernel
theorem dX6_endsWithRun_1 : decode cX6_endsWithRun 1 = .ok (.getfield 37, 3) := by decide +kernel
theorem dX6_endsWithRun_4 : decode cX6_endsWithRun 4 = .ok (.ifCond .le 25, 3) := by decide +kernel
theorem dX6_endsWithRun_7 : decode cX6_endsWithRun 7 = .ok (.aload_n 0, 1) := by decide +kernel
theorem dX6_endsWithRun_8 : decode cX6_endsWithRun 8 = .ok (.getfield 21, 3) := by decide +kernel
theorem dX6_endsWithRun_11 : decode cX6_endsWithRun 11 = .ok (.aload_n 0, 1) := by decide +kernel
theorem dX6_endsWithRun_12 : decode cX6_endsWithRun 12 = .ok (.getfield 37, 3) := by decide +kernel
theorem dX6_endsWithRun_15 : decode cX6_endsWithRun 15 = .ok (.iconst 1, 1) := by decide +kernel
theorem dX6_endsWithRun_16 : decode cX6_endsWithRun 16 = .ok (.isub, 1) := by decide +kernel
theorem dX6_endsWithRun_17 : decode cX6_endsWithRun 17 = .ok (.iaload, 1) := by decide +kernel
theorem dX6_endsWithRun_18 : decode cX6_endsWithRun 18 = .ok (.aload_n 0, 1) := by decide +kernel
theorem dX6_endsWithRun_19 : decode cX6_endsWithRun 19 = .ok (.getfield 31, 3) := by decide +kernel
theorem dX6_endsWithRun_22 : decode cX6_endsWithRun 22 = .ok (.if_icmp .ne 7, 3) := by decide +kernel
theorem dX6_endsWithRun_25 : decode cX6_endsWithRun 25 = .ok (.iconst 1, 1) := by decide +kernel
theorem dX6_endsWithRun_26 : decode cX6_endsWithRun 26 = .ok (.goto 4, 3) := by decide +kernel
theorem dX6_endsWithRun_29 : decode cX6_endsWithRun 29 = .ok (.iconst 0, 1) := by decide +kernel
theorem dX6_endsWithRun_30 : decode cX6_endsWithRun 30 = .ok (.ireturn, 1) := by decide +kernel
theorem dX6_driveAhead_0 : decode cX6_driveAhead 0 = .ok (.iconst 0, 1) := by decide +kernel
theorem dX6_driveAhead_1 : decode cX6_driveAhead 1 = .ok (.istore_n 2, 1) := by decide +kernel
theorem dX6_driveAhead_2 : decode cX6_driveAhead 2 = .ok (.iconst 0, 1) := by decide +kernel
theorem dX6_driveAhead_3 : decode cX6_driveAhead 3 = .ok (.istore_n 3, 1) := by decide +kernel
theorem dX6_driveAhead_4 : decode cX6_driveAhead 4 = .ok (.iload_n 3, 1) := by decide +kernel
theorem dX6_driveAhead_5 : decode cX6_driveAhead 5 = .ok (.aload_n 0, 1) := by decide +kernel
theorem dX6_driveAhead_6 : decode cX6_driveAhead 6 = .ok (.getfield 27, 3) := by decide +kernel
theorem dX6_driveAhead_9 : decode cX6_driveAhead 9 = .ok (.if_icmp .ge 50, 3) := by decide +kernel
theorem dX6_driveAhead_12 : decode cX6_driveAhead 12 = .ok (.aload_n 0, 1) := by decide +kernel
theorem dX6_driveAhead_13 : decode cX6_driveAhead 13 = .ok (.getfield 15, 3) := by decide +kernel
theorem dX6_driveAhead_16 : decode cX6_driveAhead 16 = .ok (.iload_n 3, 1) := by decide +kernel
theorem dX6_driveAhead_17 : decode cX6_driveAhead 17 = .ok (.iaload, 1) := by decide +kernel
theorem dX6_driveAhead_18 : decode cX6_driveAhead 18 = .ok (.iload_n 1, 1) := by decide +kernel
theorem dX6_driveAhead_19 : decode cX6_driveAhead 19 = .ok (.if_icmp .ge 40, 3) := by decide +kernel
theorem dX6_driveAhead_22 : decode cX6_driveAhead 22 = .ok (.aload_n 0, 1) := by decide +kernel
theorem dX6_driveAhead_23 : decode cX6_driveAhead 23 = .ok (.getfield 9, 3) := by decide +kernel
theorem dX6_driveAhead_26 : decode cX6_driveAhead 26 = .ok (.iload_n 3, 1) := by decide +kernel
theorem dX6_driveAhead_27 : decode cX6_driveAhead 27 = .ok (.iaload, 1) := by decide +kernel
theorem dX6_driveAhead_28 : decode cX6_driveAhead 28 = .ok (.ifCond .ne 25, 3) := by decide +kernel
theorem dX6_driveAhead_31 : decode cX6_driveAhead 31 = .ok (.iload_n 2, 1) := by decide +kernel
theorem dX6_driveAhead_32 : decode cX6_driveAhead 32 = .ok (.iload_n 1, 1) := by decide +kernel
theorem dX6_driveAhead_33 : decode cX6_driveAhead 33 = .ok (.aload_n 0, 1) := by decide +kernel
theorem dX6_driveAhead_34 : decode cX6_driveAhead 34 = .ok (.getfield 15, 3) := by decide +kernel
theorem dX6_driveAhead_37 : decode cX6_driveAhead 37 = .ok (.iload_n 3, 1) := by decide +kernel
theorem dX6_driveAhead_38 : decode cX6_driveAhead 38 = .ok (.iconst 1, 1) := by decide +kernel
theorem dX6_driveAhead_39 : decode cX6_driveAhead 39 = .ok (.iadd, 1) := by decide +kernel
theorem dX6_driveAhead_40 : decode cX6_driveAhead 40 = .ok (.iaload, 1) := by decide +kernel
theorem dX6_driveAhead_41 : decode cX6_driveAhead 41 = .ok (.invokestatic 68, 3) := by decide +kernel
theorem dX6_driveAhead_44 : decode cX6_driveAhead 44 = .ok (.aload_n 0, 1) := by decide +kernel
theorem dX6_driveAhead_45 : decode cX6_driveAhead 45 = .ok (.getfield 15, 3) := by decide +kernel
theorem dX6_driveAhead_48 : decode cX6_driveAhead 48 = .ok (.iload_n 3, 1) := by decide +kernel
theorem dX6_driveAhead_49 : decode cX6_driveAhead 49 = .ok (.iaload, 1) := by decide +kernel
theorem dX6_driveAhead_50 : decode cX6_driveAhead 50 = .ok (.isub, 1) := by decide +kernel
theorem dX6_driveAhead_51 : decode cX6_driveAhead 51 = .ok (.iadd, 1) := by decide +kernel
theorem dX6_driveAhead_52 : decode cX6_driveAhead 52 = .ok (.istore_n 2, 1) := by decide +kernel
theorem dX6_driveAhead_53 : decode cX6_driveAhead 53 = .ok (.iinc 3 1, 3) := by decide +kernel
theorem dX6_driveAhead_56 : decode cX6_driveAhead 56 = .ok (.goto (-52), 3) := by decide +kernel
theorem dX6_driveAhead_59 : decode cX6_driveAhead 59 = .ok (.iload_n 2, 1) := by decide +kernel
theorem dX6_driveAhead_60 : decode cX6_driveAhead 60 = .ok (.ireturn, 1) := by decide +kernel
theorem dX6_driveMinute_0 : decode cX6_driveMinute 0 = .ok (.iload_n 1, 1) := by decide +kernel
theorem dX6_driveMinute_1 : decode cX6_driveMinute 1 = .ok (.istore_n 2, 1) := by decide +kernel
theorem dX6_driveMinute_2 : decode cX6_driveMinute 2 = .ok (.iconst 0, 1) := by decide +kernel
theorem dX6_driveMinute_3 : decode cX6_driveMinute 3 = .ok (.istore_n 3, 1) := by decide +kernel
theorem dX6_driveMinute_4 : decode cX6_driveMinute 4 = .ok (.iload_n 3, 1) := by decide +kernel
theorem dX6_driveMinute_5 : decode cX6_driveMinute 5 = .ok (.aload_n 0, 1) := by decide +kernel
theorem dX6_driveMinute_6 : decode cX6_driveMinute 6 = .ok (.getfield 27, 3) := by decide +kernel
theorem dX6_driveMinute_9 : decode cX6_driveMinute 9 = .ok (.if_icmp .ge 64, 3) := by decide +kernel
theorem dX6_driveMinute_12 : decode cX6_driveMinute 12 = .ok (.aload_n 0, 1) := by decide +kernel
theorem dX6_driveMinute_13 : decode cX6_driveMinute 13 = .ok (.getfield 9, 3) := by decide +kernel
theorem dX6_driveMinute_16 : decode cX6_driveMinute 16 = .ok (.iload_n 3, 1) := by decide +kernel
theorem dX6_driveMinute_17 : decode cX6_driveMinute 17 = .ok (.iaload, 1) := by decide +kernel
theorem dX6_driveMinute_18 : decode cX6_driveMinute 18 = .ok (.ifCond .ne 49, 3) := by decide +kernel
theorem dX6_driveMinute_21 : decode cX6_driveMinute 21 = .ok (.iload_n 2, 1) := by decide +kernel
theorem dX6_driveMinute_22 : decode cX6_driveMinute 22 = .ok (.aload_n 0, 1) := by decide +kernel
theorem dX6_driveMinute_23 : decode cX6_driveMinute 23 = .ok (.getfield 15, 3) := by decide +kernel
theorem dX6_driveMinute_26 : decode cX6_driveMinute 26 = .ok (.iload_n 3, 1) := by decide +kernel
theorem dX6_driveMinute_27 : decode cX6_driveMinute 27 = .ok (.iconst 1, 1) := by decide +kernel
theorem dX6_driveMinute_28 : decode cX6_driveMinute 28 = .ok (.iadd, 1) := by decide +kernel
theorem dX6_driveMinute_29 : decode cX6_driveMinute 29 = .ok (.iaload, 1) := by decide +kernel
theorem dX6_driveMinute_30 : decode cX6_driveMinute 30 = .ok (.aload_n 0, 1) := by decide +kernel
theorem dX6_driveMinute_31 : decode cX6_driveMinute 31 = .ok (.getfield 15, 3) := by decide +kernel
theorem dX6_driveMinute_34 : decode cX6_driveMinute 34 = .ok (.iload_n 3, 1) := by decide +kernel
theorem dX6_driveMinute_35 : decode cX6_driveMinute 35 = .ok (.iaload, 1) := by decide +kernel
theorem dX6_driveMinute_36 : decode cX6_driveMinute 36 = .ok (.isub, 1) := by decide +kernel
theorem dX6_driveMinute_37 : decode cX6_driveMinute 37 = .ok (.if_icmp .ge 12, 3) := by decide +kernel
theorem dX6_driveMinute_40 : decode cX6_driveMinute 40 = .ok (.aload_n 0, 1) := by decide +kernel
theorem dX6_driveMinute_41 : decode cX6_driveMinute 41 = .ok (.getfield 15, 3) := by decide +kernel
theorem dX6_driveMinute_44 : decode cX6_driveMinute 44 = .ok (.iload_n 3, 1) := by decide +kernel
theorem dX6_driveMinute_45 : decode cX6_driveMinute 45 = .ok (.iaload, 1) := by decide +kernel
theorem dX6_driveMinute_46 : decode cX6_driveMinute 46 = .ok (.iload_n 2, 1) := by decide +kernel
theorem dX6_driveMinute_47 : decode cX6_driveMinute 47 = .ok (.iadd, 1) := by decide +kernel
theorem dX6_driveMinute_48 : decode cX6_driveMinute 48 = .ok (.ireturn, 1) := by decide +kernel
theorem dX6_driveMinute_49 : decode cX6_driveMinute 49 = .ok (.iload_n 2, 1) := by decide +kernel
theorem dX6_driveMinute_50 : decode cX6_driveMinute 50 = .ok (.aload_n 0, 1) := by decide +kernel
theorem dX6_driveMinute_51 : decode cX6_driveMinute 51 = .ok (.getfield 15, 3) := by decide +kernel
theorem dX6_driveMinute_54 : decode cX6_driveMinute 54 = .ok (.iload_n 3, 1) := by decide +kernel
theorem dX6_driveMinute_55 : decode cX6_driveMinute 55 = .ok (.iconst 1, 1) := by decide +kernel
theorem dX6_driveMinute_56 : decode cX6_driveMinute 56 = .ok (.iadd, 1) := by decide +kernel
theorem dX6_driveMinute_57 : decode cX6_driveMinute 57 = .ok (.iaload, 1) := by decide +kernel
theorem dX6_driveMinute_58 : decode cX6_driveMinute 58 = .ok (.aload_n 0, 1) := by decide +kernel
theorem dX6_driveMinute_59 : decode cX6_driveMinute 59 = .ok (.getfield 15, 3) := by decide +kernel
theorem dX6_driveMinute_62 : decode cX6_driveMinute 62 = .ok (.iload_n 3, 1) := by decide +kernel
theorem dX6_driveMinute_63 : decode cX6_driveMinute 63 = .ok (.iaload, 1) := by decide +kernel
theorem dX6_driveMinute_64 : decode cX6_driveMinute 64 = .ok (.isub, 1) := by decide +kernel
theorem dX6_driveMinute_65 : decode cX6_driveMinute 65 = .ok (.isub, 1) := by decide +kernel
theorem dX6_driveMinute_66 : decode cX6_driveMinute 66 = .ok (.istore_n 2, 1) := by decide +kernel
theorem dX6_driveMinute_67 : decode cX6_driveMinute 67 = .ok (.iinc 3 1, 3) := by decide +kernel
theorem dX6_driveMinute_70 : decode cX6_driveMinute 70 = .ok (.goto (-66), 3) := by decide +kernel
theorem dX6_driveMinute_73 : decode cX6_driveMinute 73 = .ok (.aload_n 0, 1) := by decide +kernel
theorem dX6_driveMinute_74 : decode cX6_driveMinute 74 = .ok (.getfield 31, 3) := by decide +kernel
theorem dX6_driveMinute_77 : decode cX6_driveMinute 77 = .ok (.ireturn, 1) := by decide +kernel
theorem dX7_init_0 : decode cX7_init 0 = .ok (.aload_n 0, 1) := by decide +kernel
theorem dX7_init_1 : decode cX7_init 1 = .ok (.invokespecial 1, 3) := by decide +kernel
theorem dX7_init_4 : decode cX7_init 4 = .ok (.aload_n 0, 1) := by decide +kernel
theorem dX7_init_5 : decode cX7_init 5 = .ok (.bipush 80, 2) := by decide +kernel
theorem dX7_init_7 : decode cX7_init 7 = .ok (.newarray .int, 2) := by decide +kernel
theorem dX7_init_9 : decode cX7_init 9 = .ok (.putfield 9, 3) := by decide +kernel
theorem dX7_init_12 : decode cX7_init 12 = .ok (.aload_n 0, 1) := by decide +kernel
theorem dX7_init_13 : decode cX7_init 13 = .ok (.iconst 0, 1) := by decide +kernel
theorem dX7_init_14 : decode cX7_init 14 = .ok (.putfield 13, 3) := by decide +kernel
theorem dX7_init_17 : decode cX7_init 17 = .ok (.return_, 1) := by decide +kernel
theorem dX7_hasRoom_0 : decode cX7_hasRoom 0 = .ok (.aload_n 0, 1) := by decide +kernel
theorem dX7_hasRoom_1 : decode cX7_hasRoom 1 = .ok (.getfield 13, 3) := by decide +kernel
theorem dX7_hasRoom_4 : decode cX7_hasRoom 4 = .ok (.bipush 60, 2) := by decide +kernel
theorem dX7_hasRoom_6 : decode cX7_hasRoom 6 = .ok (.if_icmp .gt 7, 3) := by decide +kernel
theorem dX7_hasRoom_9 : decode cX7_hasRoom 9 = .ok (.iconst 1, 1) := by decide +kernel
theorem dX7_hasRoom_10 : decode cX7_hasRoom 10 = .ok (.goto 4, 3) := by decide +kernel
theorem dX7_hasRoom_13 : decode cX7_hasRoom 13 = .ok (.iconst 0, 1) := by decide +kernel
theorem dX7_hasRoom_14 : decode cX7_hasRoom 14 = .ok (.ireturn, 1) := by decide +kernel
theorem dX7_append_0 : decode cX7_append 0 = .ok (.bipush 24, 2) := by decide +kernel
theorem dX7_append_2 : decode cX7_append 2 = .ok (.istore_n 2, 1) := by decide +kernel
theorem dX7_append_3 : decode cX7_append 3 = .ok (.iload_n 2, 1) := by decide +kernel
theorem dX7_append_4 : decode cX7_append 4 = .ok (.ifCond .lt 44, 3) := by decide +kernel
theorem dX7_append_7 : decode cX7_append 7 = .ok (.aload_n 0, 1) := by decide +kernel
theorem dX7_append_8 : decode cX7_append 8 = .ok (.getfield 13, 3) := by decide +kernel
theorem dX7_append_11 : decode cX7_append 11 = .ok (.bipush 80, 2) := by decide +kernel
theorem dX7_append_13 : decode cX7_append 13 = .ok (.if_icmp .ge 35, 3) := by decide +kernel
theorem dX7_append_16 : decode cX7_append 16 = .ok (.aload_n 0, 1) := by decide +kernel
theorem dX7_append_17 : decode cX7_append 17 = .ok (.getfield 9, 3) := by decide +kernel
theorem dX7_append_20 : decode cX7_append 20 = .ok (.aload_n 0, 1) := by decide +kernel
theorem dX7_append_21 : decode cX7_append 21 = .ok (.getfield 13, 3) := by decide +kernel
theorem dX7_append_24 : decode cX7_append 24 = .ok (.iload_n 1, 1) := by decide +kernel
theorem dX7_append_25 : decode cX7_append 25 = .ok (.iload_n 2, 1) := by decide +kernel
theorem dX7_append_26 : decode cX7_append 26 = .ok (.iushr, 1) := by decide +kernel
theorem dX7_append_27 : decode cX7_append 27 = .ok (.sipush 255, 3) := by decide +kernel
theorem dX7_append_30 : decode cX7_append 30 = .ok (.iand, 1) := by decide +kernel
theorem dX7_append_31 : decode cX7_append 31 = .ok (.iastore, 1) := by decide +kernel
theorem dX7_append_32 : decode cX7_append 32 = .ok (.aload_n 0, 1) := by decide +kernel
theorem dX7_append_33 : decode cX7_append 33 = .ok (.dup, 1) := by decide +kernel
theorem dX7_append_34 : decode cX7_append 34 = .ok (.getfield 13, 3) := by decide +kernel
theorem dX7_append_37 : decode cX7_append 37 = .ok (.iconst 1, 1) := by decide +kernel
theorem dX7_append_38 : decode cX7_append 38 = .ok (.iadd, 1) := by decide +kernel
theorem dX7_append_39 : decode cX7_append 39 = .ok (.putfield 13, 3) := by decide +kernel
theorem dX7_append_42 : decode cX7_append 42 = .ok (.iinc 2 (-8), 3) := by decide +kernel
theorem dX7_append_45 : decode cX7_append 45 = .ok (.goto (-42), 3) := by decide +kernel
theorem dX7_append_48 : decode cX7_append 48 = .ok (.return_, 1) := by decide +kernel
theorem dX8_init_0 : decode cX8_init 0 = .ok (.aload_n 0, 1) := by decide +kernel
theorem dX8_init_1 : decode cX8_init 1 = .ok (.invokespecial 1, 3) := by decide +kernel
theorem dX8_init_4 : decode cX8_init 4 = .ok (.aload_n 0, 1) := by decide +kernel
theorem dX8_init_5 : decode cX8_init 5 = .ok (.bipush 20, 2) := by decide +kernel
theorem dX8_init_7 : decode cX8_init 7 = .ok (.newarray .int, 2) := by decide +kernel
theorem dX8_init_9 : decode cX8_init 9 = .ok (.putfield 9, 3) := by decide +kernel
theorem dX8_init_12 : decode cX8_init 12 = .ok (.aload_n 0, 1) := by decide +kernel
theorem dX8_init_13 : decode cX8_init 13 = .ok (.bipush 20, 2) := by decide +kernel
theorem dX8_init_15 : decode cX8_init 15 = .ok (.newarray .int, 2) := by decide +kernel
theorem dX8_init_17 : decode cX8_init 17 = .ok (.putfield 13, 3) := by decide +kernel
theorem dX8_init_20 : decode cX8_init 20 = .ok (.aload_n 0, 1) := by decide +kernel
theorem dX8_init_21 : decode cX8_init 21 = .ok (.iconst 0, 1) := by decide +kernel
theorem dX8_init_22 : decode cX8_init 22 = .ok (.putfield 16, 3) := by decide +kernel
theorem dX8_init_25 : decode cX8_init 25 = .ok (.return_, 1) := by decide +kernel
theorem dX8_insert_0 : decode cX8_insert 0 = .ok (.aload_n 0, 1) := by decide +kernel
theorem dX8_insert_1 : decode cX8_insert 1 = .ok (.getfield 16, 3) := by decide +kernel
theorem dX8_insert_4 : decode cX8_insert 4 = .ok (.bipush 20, 2) := by decide +kernel
theorem dX8_insert_6 : decode cX8_insert 6 = .ok (.if_icmp .lt 5, 3) := by decide +kernel
theorem dX8_insert_9 : decode cX8_insert 9 = .ok (.iconst 0, 1) := by decide +kernel
theorem dX8_insert_10 : decode cX8_insert 10 = .ok (.ireturn, 1) := by decide +kernel
theorem dX8_insert_11 : decode cX8_insert 11 = .ok (.iconst 0, 1) := by decide +kernel
theorem dX8_insert_12 : decode cX8_insert 12 = .ok (.istore_n 3, 1) := by decide +kernel
theorem dX8_insert_13 : decode cX8_insert 13 = .ok (.iload_n 3, 1) := by decide +kernel
theorem dX8_insert_14 : decode cX8_insert 14 = .ok (.aload_n 0, 1) := by decide +kernel
theorem dX8_insert_15 : decode cX8_insert 15 = .ok (.getfield 16, 3) := by decide +kernel
theorem dX8_insert_18 : decode cX8_insert 18 = .ok (.if_icmp .ge 19, 3) := by decide +kernel
theorem dX8_insert_21 : decode cX8_insert 21 = .ok (.aload_n 0, 1) := by decide +kernel
theorem dX8_insert_22 : decode cX8_insert 22 = .ok (.getfield 13, 3) := by decide +kernel
theorem dX8_insert_25 : decode cX8_insert 25 = .ok (.iload_n 3, 1) := by decide +kernel
theorem dX8_insert_26 : decode cX8_insert 26 = .ok (.iaload, 1) := by decide +kernel
theorem dX8_insert_27 : decode cX8_insert 27 = .ok (.iload_n 1, 1) := by decide +kernel
theorem dX8_insert_28 : decode cX8_insert 28 = .ok (.if_icmp .gt 9, 3) := by decide +kernel
theorem dX8_insert_31 : decode cX8_insert 31 = .ok (.iinc 3 1, 3) := by decide +kernel
theorem dX8_insert_34 : decode cX8_insert 34 = .ok (.goto (-21), 3) := by decide +kernel
theorem dX8_insert_37 : decode cX8_insert 37 = .ok (.iload_n 3, 1) := by decide +kernel
theorem dX8_insert_38 : decode cX8_insert 38 = .ok (.aload_n 0, 1) := by decide +kernel
theorem dX8_insert_39 : decode cX8_insert 39 = .ok (.getfield 16, 3) := by decide +kernel
theorem dX8_insert_42 : decode cX8_insert 42 = .ok (.if_icmp .ge 15, 3) := by decide +kernel
theorem dX8_insert_45 : decode cX8_insert 45 = .ok (.aload_n 0, 1) := by decide +kernel
theorem dX8_insert_46 : decode cX8_insert 46 = .ok (.getfield 9, 3) := by decide +kernel
theorem dX8_insert_49 : decode cX8_insert 49 = .ok (.iload_n 3, 1) := by decide +kernel
theorem dX8_insert_50 : decode cX8_insert 50 = .ok (.iaload, 1) := by decide +kernel
theorem dX8_insert_51 : decode cX8_insert 51 = .ok (.iload_n 2, 1) := by decide +kernel
theorem dX8_insert_52 : decode cX8_insert 52 = .ok (.if_icmp .ge 5, 3) := by decide +kernel
theorem dX8_insert_55 : decode cX8_insert 55 = .ok (.iconst 0, 1) := by decide +kernel
theorem dX8_insert_56 : decode cX8_insert 56 = .ok (.ireturn, 1) := by decide +kernel
theorem dX8_insert_57 : decode cX8_insert 57 = .ok (.aload_n 0, 1) := by decide +kernel
theorem dX8_insert_58 : decode cX8_insert 58 = .ok (.getfield 9, 3) := by decide +kernel
theorem dX8_insert_61 : decode cX8_insert 61 = .ok (.iload_n 3, 1) := by decide +kernel
theorem dX8_insert_62 : decode cX8_insert 62 = .ok (.aload_n 0, 1) := by decide +kernel
theorem dX8_insert_63 : decode cX8_insert 63 = .ok (.getfield 9, 3) := by decide +kernel
theorem dX8_insert_66 : decode cX8_insert 66 = .ok (.iload_n 3, 1) := by decide +kernel
theorem dX8_insert_67 : decode cX8_insert 67 = .ok (.iconst 1, 1) := by decide +kernel
theorem dX8_insert_68 : decode cX8_insert 68 = .ok (.iadd, 1) := by decide +kernel
theorem dX8_insert_69 : decode cX8_insert 69 = .ok (.aload_n 0, 1) := by decide +kernel
theorem dX8_insert_70 : decode cX8_insert 70 = .ok (.getfield 16, 3) := by decide +kernel
theorem dX8_insert_73 : decode cX8_insert 73 = .ok (.iload_n 3, 1) := by decide +kernel
theorem dX8_insert_74 : decode cX8_insert 74 = .ok (.isub, 1) := by decide +kernel
theorem dX8_insert_75 : decode cX8_insert 75 = .ok (.invokestatic 20, 3) := by decide +kernel
theorem dX8_insert_78 : decode cX8_insert 78 = .ok (.aload_n 0, 1) := by decide +kernel
theorem dX8_insert_79 : decode cX8_insert 79 = .ok (.getfield 13, 3) := by decide +kernel
theorem dX8_insert_82 : decode cX8_insert 82 = .ok (.iload_n 3, 1) := by decide +kernel
theorem dX8_insert_83 : decode cX8_insert 83 = .ok (.aload_n 0, 1) := by decide +kernel
theorem dX8_insert_84 : decode cX8_insert 84 = .ok (.getfield 13, 3) := by decide +kernel
theorem dX8_insert_87 : decode cX8_insert 87 = .ok (.iload_n 3, 1) := by decide +kernel
theorem dX8_insert_88 : decode cX8_insert 88 = .ok (.iconst 1, 1) := by decide +kernel
theorem dX8_insert_89 : decode cX8_insert 89 = .ok (.iadd, 1) := by decide +kernel
theorem dX8_insert_90 : decode cX8_insert 90 = .ok (.aload_n 0, 1) := by decide +kernel
theorem dX8_insert_91 : decode cX8_insert 91 = .ok (.getfield 16, 3) := by decide +kernel
theorem dX8_insert_94 : decode cX8_insert 94 = .ok (.iload_n 3, 1) := by decide +kernel
theorem dX8_insert_95 : decode cX8_insert 95 = .ok (.isub, 1) := by decide +kernel
theorem dX8_insert_96 : decode cX8_insert 96 = .ok (.invokestatic 20, 3) := by decide +kernel
theorem dX8_insert_99 : decode cX8_insert 99 = .ok (.aload_n 0, 1) := by decide +kernel
theorem dX8_insert_100 : decode cX8_insert 100 = .ok (.getfield 9, 3) := by decide +kernel
theorem dX8_insert_103 : decode cX8_insert 103 = .ok (.iload_n 3, 1) := by decide +kernel
theorem dX8_insert_104 : decode cX8_insert 104 = .ok (.iload_n 1, 1) := by decide +kernel
theorem dX8_insert_105 : decode cX8_insert 105 = .ok (.iastore, 1) := by decide +kernel
theorem dX8_insert_106 : decode cX8_insert 106 = .ok (.aload_n 0, 1) := by decide +kernel
theorem dX8_insert_107 : decode cX8_insert 107 = .ok (.getfield 13, 3) := by decide +kernel
theorem dX8_insert_110 : decode cX8_insert 110 = .ok (.iload_n 3, 1) := by decide +kernel
theorem dX8_insert_111 : decode cX8_insert 111 = .ok (.iload_n 2, 1) := by decide +kernel
theorem dX8_insert_112 : decode cX8_insert 112 = .ok (.iastore, 1) := by decide +kernel
theorem dX8_insert_113 : decode cX8_insert 113 = .ok (.aload_n 0, 1) := by decide +kernel
theorem dX8_insert_114 : decode cX8_insert 114 = .ok (.dup, 1) := by decide +kernel
theorem dX8_insert_115 : decode cX8_insert 115 = .ok (.getfield 16, 3) := by decide +kernel
theorem dX8_insert_118 : decode cX8_insert 118 = .ok (.iconst 1, 1) := by decide +kernel
theorem dX8_insert_119 : decode cX8_insert 119 = .ok (.iadd, 1) := by decide +kernel
theorem dX8_insert_120 : decode cX8_insert 120 = .ok (.putfield 16, 3) := by decide +kernel
theorem dX8_insert_123 : decode cX8_insert 123 = .ok (.iconst 1, 1) := by decide +kernel
theorem dX8_insert_124 : decode cX8_insert 124 = .ok (.ireturn, 1) := by decide +kernel
theorem dX9_init_0 : decode cX9_init 0 = .ok (.aload_n 0, 1) := by decide +kernel
theorem dX9_init_1 : decode cX9_init 1 = .ok (.invokespecial 3, 3) := by decide +kernel
theorem dX9_init_4 : decode cX9_init 4 = .ok (.aload_n 0, 1) := by decide +kernel
theorem dX9_init_5 : decode cX9_init 5 = .ok (.iconst 0, 1) := by decide +kernel
theorem dX9_init_6 : decode cX9_init 6 = .ok (.putfield 9, 3) := by decide +kernel
theorem dX9_init_9 : decode cX9_init 9 = .ok (.aload_n 0, 1) := by decide +kernel
theorem dX9_init_10 : decode cX9_init 10 = .ok (.iconst 0, 1) := by decide +kernel
theorem dX9_init_11 : decode cX9_init 11 = .ok (.putfield 15, 3) := by decide +kernel
theorem dX9_init_14 : decode cX9_init 14 = .ok (.aload_n 0, 1) := by decide +kernel
