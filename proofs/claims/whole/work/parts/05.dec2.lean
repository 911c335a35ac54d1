theorem dX9_init_15 : decode cX9_init 15 = .ok (.aload_n 1, 1) := by decide +kernel
theorem dX9_init_16 : decode cX9_init 16 = .ok (.putfield 19, 3) := by decide +kernel
theorem dX9_init_19 : decode cX9_init 19 = .ok (.aload_n 0, 1) := by decide +kernel
theorem dX9_init_20 : decode cX9_init 20 = .ok (.aload_n 2, 1) := by decide +kernel
theorem dX9_init_21 : decode cX9_init 21 = .ok (.putfield 23, 3) := by decide +kernel
theorem dX9_init_24 : decode cX9_init 24 = .ok (.return_, 1) := by decide +kernel
theorem dX9_frees_0 : decode cX9_frees 0 = .ok (.iload_n 1, 1) := by decide +kernel
theorem dX9_frees_1 : decode cX9_frees 1 = .ok (.aload_n 0, 1) := by decide +kernel
theorem dX9_frees_2 : decode cX9_frees 2 = .ok (.getfield 19, 3) := by decide +kernel
theorem dX9_frees_5 : decode cX9_frees 5 = .ok (.getfield 27, 3) := by decide +kernel
theorem dX9_frees_8 : decode cX9_frees 8 = .ok (.iconst 1, 1) := by decide +kernel
theorem dX9_frees_9 : decode cX9_frees 9 = .ok (.iaload, 1) := by decide +kernel
theorem dX9_frees_10 : decode cX9_frees 10 = .ok (.if_icmp .ge 23, 3) := by decide +kernel
theorem dX9_frees_13 : decode cX9_frees 13 = .ok (.aload_n 0, 1) := by decide +kernel
theorem dX9_frees_14 : decode cX9_frees 14 = .ok (.getfield 15, 3) := by decide +kernel
theorem dX9_frees_17 : decode cX9_frees 17 = .ok (.ifCond .eq 20, 3) := by decide +kernel
theorem dX9_frees_20 : decode cX9_frees 20 = .ok (.iload_n 1, 1) := by decide +kernel
theorem dX9_frees_21 : decode cX9_frees 21 = .ok (.aload_n 0, 1) := by decide +kernel
theorem dX9_frees_22 : decode cX9_frees 22 = .ok (.getfield 19, 3) := by decide +kernel
theorem dX9_frees_25 : decode cX9_frees 25 = .ok (.getfield 27, 3) := by decide +kernel
theorem dX9_frees_28 : decode cX9_frees 28 = .ok (.iconst 3, 1) := by decide +kernel
theorem dX9_frees_29 : decode cX9_frees 29 = .ok (.iaload, 1) := by decide +kernel
theorem dX9_frees_30 : decode cX9_frees 30 = .ok (.if_icmp .lt 7, 3) := by decide +kernel
theorem dX9_frees_33 : decode cX9_frees 33 = .ok (.iconst 1, 1) := by decide +kernel
theorem dX9_frees_34 : decode cX9_frees 34 = .ok (.goto 4, 3) := by decide +kernel
theorem dX9_frees_37 : decode cX9_frees 37 = .ok (.iconst 0, 1) := by decide +kernel
theorem dX9_frees_38 : decode cX9_frees 38 = .ok (.ireturn, 1) := by decide +kernel
theorem dX9_passRun_0 : decode cX9_passRun 0 = .ok (.aload_n 0, 1) := by decide +kernel
theorem dX9_passRun_1 : decode cX9_passRun 1 = .ok (.getfield 23, 3) := by decide +kernel
theorem dX9_passRun_4 : decode cX9_passRun 4 = .ok (.iload_n 1, 1) := by decide +kernel
theorem dX9_passRun_5 : decode cX9_passRun 5 = .ok (.invokevirtual 33, 3) := by decide +kernel
theorem dX9_passRun_8 : decode cX9_passRun 8 = .ok (.istore_n 2, 1) := by decide +kernel
theorem dX9_passRun_9 : decode cX9_passRun 9 = .ok (.aload_n 0, 1) := by decide +kernel
theorem dX9_passRun_10 : decode cX9_passRun 10 = .ok (.iload_n 2, 1) := by decide +kernel
theorem dX9_passRun_11 : decode cX9_passRun 11 = .ok (.invokevirtual 39, 3) := by decide +kernel
theorem dX9_passRun_14 : decode cX9_passRun 14 = .ok (.ifCond .eq 24, 3) := by decide +kernel
theorem dX9_passRun_17 : decode cX9_passRun 17 = .ok (.aload_n 0, 1) := by decide +kernel
theorem dX9_passRun_18 : decode cX9_passRun 18 = .ok (.aload_n 0, 1) := by decide +kernel
theorem dX9_passRun_19 : decode cX9_passRun 19 = .ok (.getfield 23, 3) := by decide +kernel
theorem dX9_passRun_22 : decode cX9_passRun 22 = .ok (.getfield 43, 3) := by decide +kernel
theorem dX9_passRun_25 : decode cX9_passRun 25 = .ok (.iload_n 1, 1) := by decide +kernel
theorem dX9_passRun_26 : decode cX9_passRun 26 = .ok (.iaload, 1) := by decide +kernel
theorem dX9_passRun_27 : decode cX9_passRun 27 = .ok (.putfield 9, 3) := by decide +kernel
theorem dX9_passRun_30 : decode cX9_passRun 30 = .ok (.aload_n 0, 1) := by decide +kernel
theorem dX9_passRun_31 : decode cX9_passRun 31 = .ok (.iconst 0, 1) := by decide +kernel
theorem dX9_passRun_32 : decode cX9_passRun 32 = .ok (.putfield 15, 3) := by decide +kernel
theorem dX9_passRun_35 : decode cX9_passRun 35 = .ok (.goto 21, 3) := by decide +kernel
theorem dX9_passRun_38 : decode cX9_passRun 38 = .ok (.iload_n 2, 1) := by decide +kernel
theorem dX9_passRun_39 : decode cX9_passRun 39 = .ok (.aload_n 0, 1) := by decide +kernel
theorem dX9_passRun_40 : decode cX9_passRun 40 = .ok (.getfield 19, 3) := by decide +kernel
theorem dX9_passRun_43 : decode cX9_passRun 43 = .ok (.getfield 27, 3) := by decide +kernel
theorem dX9_passRun_46 : decode cX9_passRun 46 = .ok (.iconst 2, 1) := by decide +kernel
theorem dX9_passRun_47 : decode cX9_passRun 47 = .ok (.iaload, 1) := by decide +kernel
theorem dX9_passRun_48 : decode cX9_passRun 48 = .ok (.if_icmp .lt 8, 3) := by decide +kernel
theorem dX9_passRun_51 : decode cX9_passRun 51 = .ok (.aload_n 0, 1) := by decide +kernel
theorem dX9_passRun_52 : decode cX9_passRun 52 = .ok (.iconst 1, 1) := by decide +kernel
theorem dX9_passRun_53 : decode cX9_passRun 53 = .ok (.putfield 15, 3) := by decide +kernel
theorem dX9_passRun_56 : decode cX9_passRun 56 = .ok (.return_, 1) := by decide +kernel
theorem dX9_passRuns_0 : decode cX9_passRuns 0 = .ok (.aload_n 0, 1) := by decide +kernel
theorem dX9_passRuns_1 : decode cX9_passRuns 1 = .ok (.iconst 0, 1) := by decide +kernel
theorem dX9_passRuns_2 : decode cX9_passRuns 2 = .ok (.putfield 9, 3) := by decide +kernel
theorem dX9_passRuns_5 : decode cX9_passRuns 5 = .ok (.aload_n 0, 1) := by decide +kernel
theorem dX9_passRuns_6 : decode cX9_passRuns 6 = .ok (.iconst 0, 1) := by decide +kernel
theorem dX9_passRuns_7 : decode cX9_passRuns 7 = .ok (.putfield 15, 3) := by decide +kernel
theorem dX9_passRuns_10 : decode cX9_passRuns 10 = .ok (.iconst 0, 1) := by decide +kernel
theorem dX9_passRuns_11 : decode cX9_passRuns 11 = .ok (.istore_n 2, 1) := by decide +kernel
theorem dX9_passRuns_12 : decode cX9_passRuns 12 = .ok (.iload_n 2, 1) := by decide +kernel
theorem dX9_passRuns_13 : decode cX9_passRuns 13 = .ok (.iload_n 1, 1) := by decide +kernel
theorem dX9_passRuns_14 : decode cX9_passRuns 14 = .ok (.if_icmp .ge 14, 3) := by decide +kernel
theorem dX9_passRuns_17 : decode cX9_passRuns 17 = .ok (.aload_n 0, 1) := by decide +kernel
theorem dX9_passRuns_18 : decode cX9_passRuns 18 = .ok (.iload_n 2, 1) := by decide +kernel
theorem dX9_passRuns_19 : decode cX9_passRuns 19 = .ok (.invokevirtual 46, 3) := by decide +kernel
theorem dX9_passRuns_22 : decode cX9_passRuns 22 = .ok (.iinc 2 1, 3) := by decide +kernel
theorem dX9_passRuns_25 : decode cX9_passRuns 25 = .ok (.goto (-13), 3) := by decide +kernel
theorem dX9_passRuns_28 : decode cX9_passRuns 28 = .ok (.return_, 1) := by decide +kernel
theorem dX9_tellOver_0 : decode cX9_tellOver 0 = .ok (.aload_n 0, 1) := by decide +kernel
theorem dX9_tellOver_1 : decode cX9_tellOver 1 = .ok (.iconst 0, 1) := by decide +kernel
theorem dX9_tellOver_2 : decode cX9_tellOver 2 = .ok (.invokevirtual 50, 3) := by decide +kernel
theorem dX9_tellOver_5 : decode cX9_tellOver 5 = .ok (.iconst 0, 1) := by decide +kernel
theorem dX9_tellOver_6 : decode cX9_tellOver 6 = .ok (.istore_n 2, 1) := by decide +kernel
theorem dX9_tellOver_7 : decode cX9_tellOver 7 = .ok (.iload_n 2, 1) := by decide +kernel
theorem dX9_tellOver_8 : decode cX9_tellOver 8 = .ok (.aload_n 0, 1) := by decide +kernel
theorem dX9_tellOver_9 : decode cX9_tellOver 9 = .ok (.getfield 23, 3) := by decide +kernel
theorem dX9_tellOver_12 : decode cX9_tellOver 12 = .ok (.getfield 53, 3) := by decide +kernel
theorem dX9_tellOver_15 : decode cX9_tellOver 15 = .ok (.if_icmp .ge 37, 3) := by decide +kernel
theorem dX9_tellOver_18 : decode cX9_tellOver 18 = .ok (.aload_n 0, 1) := by decide +kernel
theorem dX9_tellOver_19 : decode cX9_tellOver 19 = .ok (.getfield 9, 3) := by decide +kernel
theorem dX9_tellOver_22 : decode cX9_tellOver 22 = .ok (.istore_n 3, 1) := by decide +kernel
theorem dX9_tellOver_23 : decode cX9_tellOver 23 = .ok (.aload_n 0, 1) := by decide +kernel
theorem dX9_tellOver_24 : decode cX9_tellOver 24 = .ok (.iload_n 2, 1) := by decide +kernel
theorem dX9_tellOver_25 : decode cX9_tellOver 25 = .ok (.invokevirtual 46, 3) := by decide +kernel
theorem dX9_tellOver_28 : decode cX9_tellOver 28 = .ok (.aload_n 0, 1) := by decide +kernel
theorem dX9_tellOver_29 : decode cX9_tellOver 29 = .ok (.getfield 9, 3) := by decide +kernel
theorem dX9_tellOver_32 : decode cX9_tellOver 32 = .ok (.iload_n 3, 1) := by decide +kernel
theorem dX9_tellOver_33 : decode cX9_tellOver 33 = .ok (.if_icmp .le 13, 3) := by decide +kernel
theorem dX9_tellOver_36 : decode cX9_tellOver 36 = .ok (.aload_n 0, 1) := by decide +kernel
theorem dX9_tellOver_37 : decode cX9_tellOver 37 = .ok (.aload_n 1, 1) := by decide +kernel
theorem dX9_tellOver_38 : decode cX9_tellOver 38 = .ok (.iload_n 3, 1) := by decide +kernel
theorem dX9_tellOver_39 : decode cX9_tellOver 39 = .ok (.aload_n 0, 1) := by decide +kernel
theorem dX9_tellOver_40 : decode cX9_tellOver 40 = .ok (.getfield 9, 3) := by decide +kernel
theorem dX9_tellOver_43 : decode cX9_tellOver 43 = .ok (.invokevirtual 56, 3) := by decide +kernel
theorem dX9_tellOver_46 : decode cX9_tellOver 46 = .ok (.iinc 2 1, 3) := by decide +kernel
theorem dX9_tellOver_49 : decode cX9_tellOver 49 = .ok (.goto (-42), 3) := by decide +kernel
theorem dX9_tellOver_52 : decode cX9_tellOver 52 = .ok (.aload_n 0, 1) := by decide +kernel
theorem dX9_tellOver_53 : decode cX9_tellOver 53 = .ok (.aload_n 1, 1) := by decide +kernel
theorem dX9_tellOver_54 : decode cX9_tellOver 54 = .ok (.aload_n 0, 1) := by decide +kernel
theorem dX9_tellOver_55 : decode cX9_tellOver 55 = .ok (.getfield 9, 3) := by decide +kernel
theorem dX9_tellOver_58 : decode cX9_tellOver 58 = .ok (.aload_n 0, 1) := by decide +kernel
theorem dX9_tellOver_59 : decode cX9_tellOver 59 = .ok (.getfield 23, 3) := by decide +kernel
theorem dX9_tellOver_62 : decode cX9_tellOver 62 = .ok (.getfield 60, 3) := by decide +kernel
theorem dX9_tellOver_65 : decode cX9_tellOver 65 = .ok (.invokevirtual 56, 3) := by decide +kernel
theorem dX9_tellOver_68 : decode cX9_tellOver 68 = .ok (.return_, 1) := by decide +kernel
theorem dX9_tellSpell_0 : decode cX9_tellSpell 0 = .ok (.iload_n 2, 1) := by decide +kernel
theorem dX9_tellSpell_1 : decode cX9_tellSpell 1 = .ok (.aload_n 0, 1) := by decide +kernel
theorem dX9_tellSpell_2 : decode cX9_tellSpell 2 = .ok (.getfield 19, 3) := by decide +kernel
theorem dX9_tellSpell_5 : decode cX9_tellSpell 5 = .ok (.getfield 27, 3) := by decide +kernel
theorem dX9_tellSpell_8 : decode cX9_tellSpell 8 = .ok (.iconst 0, 1) := by decide +kernel
theorem dX9_tellSpell_9 : decode cX9_tellSpell 9 = .ok (.iaload, 1) := by decide +kernel
theorem dX9_tellSpell_10 : decode cX9_tellSpell 10 = .ok (.iadd, 1) := by decide +kernel
theorem dX9_tellSpell_11 : decode cX9_tellSpell 11 = .ok (.istore 4, 2) := by decide +kernel
theorem dX9_tellSpell_13 : decode cX9_tellSpell 13 = .ok (.iload_n 3, 1) := by decide +kernel
theorem dX9_tellSpell_14 : decode cX9_tellSpell 14 = .ok (.iload 4, 2) := by decide +kernel
theorem dX9_tellSpell_16 : decode cX9_tellSpell 16 = .ok (.if_icmp .le 21, 3) := by decide +kernel
theorem dX9_tellSpell_19 : decode cX9_tellSpell 19 = .ok (.aload_n 1, 1) := by decide +kernel
theorem dX9_tellSpell_20 : decode cX9_tellSpell 20 = .ok (.aload_n 0, 1) := by decide +kernel
theorem dX9_tellSpell_21 : decode cX9_tellSpell 21 = .ok (.getfield 23, 3) := by decide +kernel
theorem dX9_tellSpell_24 : decode cX9_tellSpell 24 = .ok (.iload 4, 2) := by decide +kernel
theorem dX9_tellSpell_26 : decode cX9_tellSpell 26 = .ok (.invokevirtual 63, 3) := by decide +kernel
theorem dX9_tellSpell_29 : decode cX9_tellSpell 29 = .ok (.iconst 1, 1) := by decide +kernel
theorem dX9_tellSpell_30 : decode cX9_tellSpell 30 = .ok (.iload_n 3, 1) := by decide +kernel
theorem dX9_tellSpell_31 : decode cX9_tellSpell 31 = .ok (.iload 4, 2) := by decide +kernel
theorem dX9_tellSpell_33 : decode cX9_tellSpell 33 = .ok (.isub, 1) := by decide +kernel
theorem dX9_tellSpell_34 : decode cX9_tellSpell 34 = .ok (.invokevirtual 66, 3) := by decide +kernel
theorem dX9_tellSpell_37 : decode cX9_tellSpell 37 = .ok (.return_, 1) := by decide +kernel
theorem dX9_leftNow_0 : decode cX9_leftNow 0 = .ok (.aload_n 0, 1) := by decide +kernel
theorem dX9_leftNow_1 : decode cX9_leftNow 1 = .ok (.aload_n 0, 1) := by decide +kernel
theorem dX9_leftNow_2 : decode cX9_leftNow 2 = .ok (.getfield 23, 3) := by decide +kernel
theorem dX9_leftNow_5 : decode cX9_leftNow 5 = .ok (.getfield 53, 3) := by decide +kernel
theorem dX9_leftNow_8 : decode cX9_leftNow 8 = .ok (.invokevirtual 50, 3) := by decide +kernel
theorem dX9_leftNow_11 : decode cX9_leftNow 11 = .ok (.iconst 0, 1) := by decide +kernel
theorem dX9_leftNow_12 : decode cX9_leftNow 12 = .ok (.aload_n 0, 1) := by decide +kernel
theorem dX9_leftNow_13 : decode cX9_leftNow 13 = .ok (.getfield 19, 3) := by decide +kernel
theorem dX9_leftNow_16 : decode cX9_leftNow 16 = .ok (.getfield 27, 3) := by decide +kernel
theorem dX9_leftNow_19 : decode cX9_leftNow 19 = .ok (.iconst 0, 1) := by decide +kernel
theorem dX9_leftNow_20 : decode cX9_leftNow 20 = .ok (.iaload, 1) := by decide +kernel
theorem dX9_leftNow_21 : decode cX9_leftNow 21 = .ok (.aload_n 0, 1) := by decide +kernel
theorem dX9_leftNow_22 : decode cX9_leftNow 22 = .ok (.getfield 23, 3) := by decide +kernel
theorem dX9_leftNow_25 : decode cX9_leftNow 25 = .ok (.getfield 60, 3) := by decide +kernel
theorem dX9_leftNow_28 : decode cX9_leftNow 28 = .ok (.aload_n 0, 1) := by decide +kernel
theorem dX9_leftNow_29 : decode cX9_leftNow 29 = .ok (.getfield 9, 3) := by decide +kernel
theorem dX9_leftNow_32 : decode cX9_leftNow 32 = .ok (.isub, 1) := by decide +kernel
theorem dX9_leftNow_33 : decode cX9_leftNow 33 = .ok (.isub, 1) := by decide +kernel
theorem dX9_leftNow_34 : decode cX9_leftNow 34 = .ok (.invokestatic 72, 3) := by decide +kernel
theorem dX9_leftNow_37 : decode cX9_leftNow 37 = .ok (.ireturn, 1) := by decide +kernel
theorem dX9_mostAhead_0 : decode cX9_mostAhead 0 = .ok (.iconst 0, 1) := by decide +kernel
theorem dX9_mostAhead_1 : decode cX9_mostAhead 1 = .ok (.istore_n 2, 1) := by decide +kernel
theorem dX9_mostAhead_2 : decode cX9_mostAhead 2 = .ok (.aload_n 0, 1) := by decide +kernel
theorem dX9_mostAhead_3 : decode cX9_mostAhead 3 = .ok (.getfield 23, 3) := by decide +kernel
theorem dX9_mostAhead_6 : decode cX9_mostAhead 6 = .ok (.invokevirtual 78, 3) := by decide +kernel
theorem dX9_mostAhead_9 : decode cX9_mostAhead 9 = .ok (.ifCond .eq 36, 3) := by decide +kernel
theorem dX9_mostAhead_12 : decode cX9_mostAhead 12 = .ok (.aload_n 0, 1) := by decide +kernel
theorem dX9_mostAhead_13 : decode cX9_mostAhead 13 = .ok (.aload_n 0, 1) := by decide +kernel
theorem dX9_mostAhead_14 : decode cX9_mostAhead 14 = .ok (.getfield 23, 3) := by decide +kernel
theorem dX9_mostAhead_17 : decode cX9_mostAhead 17 = .ok (.getfield 53, 3) := by decide +kernel
theorem dX9_mostAhead_20 : decode cX9_mostAhead 20 = .ok (.iconst 1, 1) := by decide +kernel
theorem dX9_mostAhead_21 : decode cX9_mostAhead 21 = .ok (.isub, 1) := by decide +kernel
theorem dX9_mostAhead_22 : decode cX9_mostAhead 22 = .ok (.invokevirtual 50, 3) := by decide +kernel
theorem dX9_mostAhead_25 : decode cX9_mostAhead 25 = .ok (.aload_n 0, 1) := by decide +kernel
theorem dX9_mostAhead_26 : decode cX9_mostAhead 26 = .ok (.getfield 23, 3) := by decide +kernel
theorem dX9_mostAhead_29 : decode cX9_mostAhead 29 = .ok (.aload_n 0, 1) := by decide +kernel
theorem dX9_mostAhead_30 : decode cX9_mostAhead 30 = .ok (.getfield 23, 3) := by decide +kernel
theorem dX9_mostAhead_33 : decode cX9_mostAhead 33 = .ok (.getfield 53, 3) := by decide +kernel
theorem dX9_mostAhead_36 : decode cX9_mostAhead 36 = .ok (.iconst 1, 1) := by decide +kernel
theorem dX9_mostAhead_37 : decode cX9_mostAhead 37 = .ok (.isub, 1) := by decide +kernel
theorem dX9_mostAhead_38 : decode cX9_mostAhead 38 = .ok (.invokevirtual 33, 3) := by decide +kernel
theorem dX9_mostAhead_41 : decode cX9_mostAhead 41 = .ok (.istore_n 2, 1) := by decide +kernel
theorem dX9_mostAhead_42 : decode cX9_mostAhead 42 = .ok (.goto 14, 3) := by decide +kernel
theorem dX9_mostAhead_45 : decode cX9_mostAhead 45 = .ok (.aload_n 0, 1) := by decide +kernel
theorem dX9_mostAhead_46 : decode cX9_mostAhead 46 = .ok (.aload_n 0, 1) := by decide +kernel
theorem dX9_mostAhead_47 : decode cX9_mostAhead 47 = .ok (.getfield 23, 3) := by decide +kernel
theorem dX9_mostAhead_50 : decode cX9_mostAhead 50 = .ok (.getfield 53, 3) := by decide +kernel
theorem dX9_mostAhead_53 : decode cX9_mostAhead 53 = .ok (.invokevirtual 50, 3) := by decide +kernel
theorem dX9_mostAhead_56 : decode cX9_mostAhead 56 = .ok (.aload_n 0, 1) := by decide +kernel
theorem dX9_mostAhead_57 : decode cX9_mostAhead 57 = .ok (.iload_n 2, 1) := by decide +kernel
theorem dX9_mostAhead_58 : decode cX9_mostAhead 58 = .ok (.iload_n 1, 1) := by decide +kernel
theorem dX9_mostAhead_59 : decode cX9_mostAhead 59 = .ok (.invokevirtual 82, 3) := by decide +kernel
theorem dX9_mostAhead_62 : decode cX9_mostAhead 62 = .ok (.istore_n 3, 1) := by decide +kernel
theorem dX9_mostAhead_63 : decode cX9_mostAhead 63 = .ok (.iload_n 3, 1) := by decide +kernel
theorem dX9_mostAhead_64 : decode cX9_mostAhead 64 = .ok (.aload_n 0, 1) := by decide +kernel
theorem dX9_mostAhead_65 : decode cX9_mostAhead 65 = .ok (.aload_n 0, 1) := by decide +kernel
theorem dX9_mostAhead_66 : decode cX9_mostAhead 66 = .ok (.getfield 19, 3) := by decide +kernel
theorem dX9_mostAhead_69 : decode cX9_mostAhead 69 = .ok (.getfield 27, 3) := by decide +kernel
theorem dX9_mostAhead_72 : decode cX9_mostAhead 72 = .ok (.iconst 2, 1) := by decide +kernel
theorem dX9_mostAhead_73 : decode cX9_mostAhead 73 = .ok (.iaload, 1) := by decide +kernel
theorem dX9_mostAhead_74 : decode cX9_mostAhead 74 = .ok (.iload_n 2, 1) := by decide +kernel
theorem dX9_mostAhead_75 : decode cX9_mostAhead 75 = .ok (.iload_n 1, 1) := by decide +kernel
theorem dX9_mostAhead_76 : decode cX9_mostAhead 76 = .ok (.invokevirtual 85, 3) := by decide +kernel
theorem dX9_mostAhead_79 : decode cX9_mostAhead 79 = .ok (.invokestatic 72, 3) := by decide +kernel
theorem dX9_mostAhead_82 : decode cX9_mostAhead 82 = .ok (.istore_n 3, 1) := by decide +kernel
theorem dX9_mostAhead_83 : decode cX9_mostAhead 83 = .ok (.iload_n 3, 1) := by decide +kernel
theorem dX9_mostAhead_84 : decode cX9_mostAhead 84 = .ok (.aload_n 0, 1) := by decide +kernel
theorem dX9_mostAhead_85 : decode cX9_mostAhead 85 = .ok (.aload_n 0, 1) := by decide +kernel
theorem dX9_mostAhead_86 : decode cX9_mostAhead 86 = .ok (.getfield 19, 3) := by decide +kernel
theorem dX9_mostAhead_89 : decode cX9_mostAhead 89 = .ok (.getfield 27, 3) := by decide +kernel
theorem dX9_mostAhead_92 : decode cX9_mostAhead 92 = .ok (.iconst 3, 1) := by decide +kernel
theorem dX9_mostAhead_93 : decode cX9_mostAhead 93 = .ok (.iaload, 1) := by decide +kernel
theorem dX9_mostAhead_94 : decode cX9_mostAhead 94 = .ok (.iload_n 2, 1) := by decide +kernel
theorem dX9_mostAhead_95 : decode cX9_mostAhead 95 = .ok (.iload_n 1, 1) := by decide +kernel
theorem dX9_mostAhead_96 : decode cX9_mostAhead 96 = .ok (.invokevirtual 85, 3) := by decide +kernel
theorem dX9_mostAhead_99 : decode cX9_mostAhead 99 = .ok (.invokestatic 72, 3) := by decide +kernel
theorem dX9_mostAhead_102 : decode cX9_mostAhead 102 = .ok (.istore_n 3, 1) := by decide +kernel
theorem dX9_mostAhead_103 : decode cX9_mostAhead 103 = .ok (.iload_n 3, 1) := by decide +kernel
theorem dX9_mostAhead_104 : decode cX9_mostAhead 104 = .ok (.aload_n 0, 1) := by decide +kernel
theorem dX9_mostAhead_105 : decode cX9_mostAhead 105 = .ok (.aload_n 0, 1) := by decide +kernel
theorem dX9_mostAhead_106 : decode cX9_mostAhead 106 = .ok (.getfield 19, 3) := by decide +kernel
theorem dX9_mostAhead_109 : decode cX9_mostAhead 109 = .ok (.getfield 27, 3) := by decide +kernel
theorem dX9_mostAhead_112 : decode cX9_mostAhead 112 = .ok (.iconst 1, 1) := by decide +kernel
theorem dX9_mostAhead_113 : decode cX9_mostAhead 113 = .ok (.iaload, 1) := by decide +kernel
theorem dX9_mostAhead_114 : decode cX9_mostAhead 114 = .ok (.iload_n 2, 1) := by decide +kernel
theorem dX9_mostAhead_115 : decode cX9_mostAhead 115 = .ok (.iload_n 1, 1) := by decide +kernel
theorem dX9_mostAhead_116 : decode cX9_mostAhead 116 = .ok (.invokevirtual 85, 3) := by decide +kernel
theorem dX9_mostAhead_119 : decode cX9_mostAhead 119 = .ok (.invokestatic 72, 3) := by decide +kernel
theorem dX9_mostAhead_122 : decode cX9_mostAhead 122 = .ok (.ireturn, 1) := by decide +kernel
theorem dX9_mostWithRestTo_0 : decode cX9_mostWithRestTo 0 = .ok (.iconst 0, 1) := by decide +kernel
theorem dX9_mostWithRestTo_1 : decode cX9_mostWithRestTo 1 = .ok (.iload_n 1, 1) := by decide +kernel
theorem dX9_mostWithRestTo_2 : decode cX9_mostWithRestTo 2 = .ok (.iload_n 2, 1) := by decide +kernel
theorem dX9_mostWithRestTo_3 : decode cX9_mostWithRestTo 3 = .ok (.isub, 1) := by decide +kernel
theorem dX9_mostWithRestTo_4 : decode cX9_mostWithRestTo 4 = .ok (.invokestatic 72, 3) := by decide +kernel
theorem dX9_mostWithRestTo_7 : decode cX9_mostWithRestTo 7 = .ok (.istore 4, 2) := by decide +kernel
theorem dX9_mostWithRestTo_9 : decode cX9_mostWithRestTo 9 = .ok (.iload 4, 2) := by decide +kernel
theorem dX9_mostWithRestTo_11 : decode cX9_mostWithRestTo 11 = .ok (.iload_n 3, 1) := by decide +kernel
theorem dX9_mostWithRestTo_12 : decode cX9_mostWithRestTo 12 = .ok (.if_icmp .le 7, 3) := by decide +kernel
theorem dX9_mostWithRestTo_15 : decode cX9_mostWithRestTo 15 = .ok (.iconst 0, 1) := by decide +kernel
theorem dX9_mostWithRestTo_16 : decode cX9_mostWithRestTo 16 = .ok (.goto 15, 3) := by decide +kernel
theorem dX9_mostWithRestTo_19 : decode cX9_mostWithRestTo 19 = .ok (.aload_n 0, 1) := by decide +kernel
theorem dX9_mostWithRestTo_20 : decode cX9_mostWithRestTo 20 = .ok (.iload_n 2, 1) := by decide +kernel
theorem dX9_mostWithRestTo_21 : decode cX9_mostWithRestTo 21 = .ok (.iload 4, 2) := by decide +kernel
theorem dX9_mostWithRestTo_23 : decode cX9_mostWithRestTo 23 = .ok (.iadd, 1) := by decide +kernel
theorem dX9_mostWithRestTo_24 : decode cX9_mostWithRestTo 24 = .ok (.iload_n 3, 1) := by decide +kernel
theorem dX9_mostWithRestTo_25 : decode cX9_mostWithRestTo 25 = .ok (.iload 4, 2) := by decide +kernel
theorem dX9_mostWithRestTo_27 : decode cX9_mostWithRestTo 27 = .ok (.isub, 1) := by decide +kernel
theorem dX9_mostWithRestTo_28 : decode cX9_mostWithRestTo 28 = .ok (.invokevirtual 82, 3) := by decide +kernel
theorem dX9_mostWithRestTo_31 : decode cX9_mostWithRestTo 31 = .ok (.ireturn, 1) := by decide +kernel
theorem dX9_mostBehindRest_0 : decode cX9_mostBehindRest 0 = .ok (.aload_n 0, 1) := by decide +kernel
theorem dX9_mostBehindRest_1 : decode cX9_mostBehindRest 1 = .ok (.getfield 19, 3) := by decide +kernel
theorem dX9_mostBehindRest_4 : decode cX9_mostBehindRest 4 = .ok (.getfield 27, 3) := by decide +kernel
theorem dX9_mostBehindRest_7 : decode cX9_mostBehindRest 7 = .ok (.iconst 0, 1) := by decide +kernel
theorem dX9_mostBehindRest_8 : decode cX9_mostBehindRest 8 = .ok (.iaload, 1) := by decide +kernel
theorem dX9_mostBehindRest_9 : decode cX9_mostBehindRest 9 = .ok (.istore_n 3, 1) := by decide +kernel
theorem dX9_mostBehindRest_10 : decode cX9_mostBehindRest 10 = .ok (.aload_n 0, 1) := by decide +kernel
theorem dX9_mostBehindRest_11 : decode cX9_mostBehindRest 11 = .ok (.iload_n 1, 1) := by decide +kernel
theorem dX9_mostBehindRest_12 : decode cX9_mostBehindRest 12 = .ok (.invokevirtual 39, 3) := by decide +kernel
theorem dX9_mostBehindRest_15 : decode cX9_mostBehindRest 15 = .ok (.ifCond .eq 15, 3) := by decide +kernel
theorem dX9_mostBehindRest_18 : decode cX9_mostBehindRest 18 = .ok (.aload_n 0, 1) := by decide +kernel
theorem dX9_mostBehindRest_19 : decode cX9_mostBehindRest 19 = .ok (.iload_n 3, 1) := by decide +kernel
theorem dX9_mostBehindRest_20 : decode cX9_mostBehindRest 20 = .ok (.aload_n 0, 1) := by decide +kernel
theorem dX9_mostBehindRest_21 : decode cX9_mostBehindRest 21 = .ok (.iload_n 3, 1) := by decide +kernel
theorem dX9_mostBehindRest_22 : decode cX9_mostBehindRest 22 = .ok (.invokevirtual 89, 3) := by decide +kernel
theorem dX9_mostBehindRest_25 : decode cX9_mostBehindRest 25 = .ok (.iload_n 2, 1) := by decide +kernel
theorem dX9_mostBehindRest_26 : decode cX9_mostBehindRest 26 = .ok (.invokevirtual 92, 3) := by decide +kernel
theorem dX9_mostBehindRest_29 : decode cX9_mostBehindRest 29 = .ok (.ireturn, 1) := by decide +kernel
theorem dX9_mostBehindRest_30 : decode cX9_mostBehindRest 30 = .ok (.iload_n 3, 1) := by decide +kernel
theorem dX9_mostBehindRest_31 : decode cX9_mostBehindRest 31 = .ok (.aload_n 0, 1) := by decide +kernel
theorem dX9_mostBehindRest_32 : decode cX9_mostBehindRest 32 = .ok (.getfield 23, 3) := by decide +kernel
theorem dX9_mostBehindRest_35 : decode cX9_mostBehindRest 35 = .ok (.getfield 60, 3) := by decide +kernel
theorem dX9_mostBehindRest_38 : decode cX9_mostBehindRest 38 = .ok (.aload_n 0, 1) := by decide +kernel
theorem dX9_mostBehindRest_39 : decode cX9_mostBehindRest 39 = .ok (.getfield 9, 3) := by decide +kernel
theorem dX9_mostBehindRest_42 : decode cX9_mostBehindRest 42 = .ok (.isub, 1) := by decide +kernel
theorem dX9_mostBehindRest_43 : decode cX9_mostBehindRest 43 = .ok (.isub, 1) := by decide +kernel
theorem dX9_mostBehindRest_44 : decode cX9_mostBehindRest 44 = .ok (.istore 4, 2) := by decide +kernel
theorem dX9_mostBehindRest_46 : decode cX9_mostBehindRest 46 = .ok (.aload_n 0, 1) := by decide +kernel
theorem dX9_mostBehindRest_47 : decode cX9_mostBehindRest 47 = .ok (.getfield 15, 3) := by decide +kernel
theorem dX9_mostBehindRest_50 : decode cX9_mostBehindRest 50 = .ok (.ifCond .ne 16, 3) := by decide +kernel
theorem dX9_mostBehindRest_53 : decode cX9_mostBehindRest 53 = .ok (.iload_n 1, 1) := by decide +kernel
theorem dX9_mostBehindRest_54 : decode cX9_mostBehindRest 54 = .ok (.aload_n 0, 1) := by decide +kernel
theorem dX9_mostBehindRest_55 : decode cX9_mostBehindRest 55 = .ok (.getfield 19, 3) := by decide +kernel
theorem dX9_mostBehindRest_58 : decode cX9_mostBehindRest 58 = .ok (.getfield 27, 3) := by decide +kernel
theorem dX9_mostBehindRest_61 : decode cX9_mostBehindRest 61 = .ok (.iconst 2, 1) := by decide +kernel
theorem dX9_mostBehindRest_62 : decode cX9_mostBehindRest 62 = .ok (.iaload, 1) := by decide +kernel
theorem dX9_mostBehindRest_63 : decode cX9_mostBehindRest 63 = .ok (.if_icmp .lt 32, 3) := by decide +kernel
theorem dX9_mostBehindRest_66 : decode cX9_mostBehindRest 66 = .ok (.aload_n 0, 1) := by decide +kernel
theorem dX9_mostBehindRest_67 : decode cX9_mostBehindRest 67 = .ok (.iload 4, 2) := by decide +kernel
theorem dX9_mostBehindRest_69 : decode cX9_mostBehindRest 69 = .ok (.aload_n 0, 1) := by decide +kernel
theorem dX9_mostBehindRest_70 : decode cX9_mostBehindRest 70 = .ok (.getfield 19, 3) := by decide +kernel
theorem dX9_mostBehindRest_73 : decode cX9_mostBehindRest 73 = .ok (.getfield 27, 3) := by decide +kernel
theorem dX9_mostBehindRest_76 : decode cX9_mostBehindRest 76 = .ok (.iconst 1, 1) := by decide +kernel
theorem dX9_mostBehindRest_77 : decode cX9_mostBehindRest 77 = .ok (.iaload, 1) := by decide +kernel
theorem dX9_mostBehindRest_78 : decode cX9_mostBehindRest 78 = .ok (.aload_n 0, 1) := by decide +kernel
theorem dX9_mostBehindRest_79 : decode cX9_mostBehindRest 79 = .ok (.getfield 19, 3) := by decide +kernel
theorem dX9_mostBehindRest_82 : decode cX9_mostBehindRest 82 = .ok (.getfield 27, 3) := by decide +kernel
theorem dX9_mostBehindRest_85 : decode cX9_mostBehindRest 85 = .ok (.iconst 3, 1) := by decide +kernel
theorem dX9_mostBehindRest_86 : decode cX9_mostBehindRest 86 = .ok (.iaload, 1) := by decide +kernel
theorem dX9_mostBehindRest_87 : decode cX9_mostBehindRest 87 = .ok (.invokestatic 95, 3) := by decide +kernel
theorem dX9_mostBehindRest_90 : decode cX9_mostBehindRest 90 = .ok (.iload_n 2, 1) := by decide +kernel
theorem dX9_mostBehindRest_91 : decode cX9_mostBehindRest 91 = .ok (.invokevirtual 92, 3) := by decide +kernel
theorem dX9_mostBehindRest_94 : decode cX9_mostBehindRest 94 = .ok (.ireturn, 1) := by decide +kernel
theorem dX9_mostBehindRest_95 : decode cX9_mostBehindRest 95 = .ok (.aload_n 0, 1) := by decide +kernel
theorem dX9_mostBehindRest_96 : decode cX9_mostBehindRest 96 = .ok (.iload 4, 2) := by decide +kernel
theorem dX9_mostBehindRest_98 : decode cX9_mostBehindRest 98 = .ok (.aload_n 0, 1) := by decide +kernel
theorem dX9_mostBehindRest_99 : decode cX9_mostBehindRest 99 = .ok (.iload 4, 2) := by decide +kernel
theorem dX9_mostBehindRest_101 : decode cX9_mostBehindRest 101 = .ok (.invokevirtual 89, 3) := by decide +kernel
theorem dX9_mostBehindRest_104 : decode cX9_mostBehindRest 104 = .ok (.iload_n 2, 1) := by decide +kernel
theorem dX9_mostBehindRest_105 : decode cX9_mostBehindRest 105 = .ok (.invokevirtual 92, 3) := by decide +kernel
theorem dX9_mostBehindRest_108 : decode cX9_mostBehindRest 108 = .ok (.ireturn, 1) := by decide +kernel
theorem dX9_breakFrom_0 : decode cX9_breakFrom 0 = .ok (.aload_n 0, 1) := by decide +kernel
theorem dX9_breakFrom_1 : decode cX9_breakFrom 1 = .ok (.getfield 19, 3) := by decide +kernel
theorem dX9_breakFrom_4 : decode cX9_breakFrom 4 = .ok (.getfield 27, 3) := by decide +kernel
theorem dX9_breakFrom_7 : decode cX9_breakFrom 7 = .ok (.iconst 1, 1) := by decide +kernel
theorem dX9_breakFrom_8 : decode cX9_breakFrom 8 = .ok (.iaload, 1) := by decide +kernel
theorem dX9_breakFrom_9 : decode cX9_breakFrom 9 = .ok (.istore_n 2, 1) := by decide +kernel
theorem dX9_breakFrom_10 : decode cX9_breakFrom 10 = .ok (.iload_n 1, 1) := by decide +kernel
theorem dX9_breakFrom_11 : decode cX9_breakFrom 11 = .ok (.iconst 2, 1) := by decide +kernel
theorem dX9_breakFrom_12 : decode cX9_breakFrom 12 = .ok (.if_icmp .ge 7, 3) := by decide +kernel
theorem dX9_breakFrom_15 : decode cX9_breakFrom 15 = .ok (.iload_n 2, 1) := by decide +kernel
theorem dX9_breakFrom_16 : decode cX9_breakFrom 16 = .ok (.goto 26, 3) := by decide +kernel
theorem dX9_breakFrom_19 : decode cX9_breakFrom 19 = .ok (.iload_n 2, 1) := by decide +kernel
theorem dX9_breakFrom_20 : decode cX9_breakFrom 20 = .ok (.aload_n 0, 1) := by decide +kernel
theorem dX9_breakFrom_21 : decode cX9_breakFrom 21 = .ok (.getfield 19, 3) := by decide +kernel
theorem dX9_breakFrom_24 : decode cX9_breakFrom 24 = .ok (.getfield 27, 3) := by decide +kernel
theorem dX9_breakFrom_27 : decode cX9_breakFrom 27 = .ok (.iconst 2, 1) := by decide +kernel
theorem dX9_breakFrom_28 : decode cX9_breakFrom 28 = .ok (.iaload, 1) := by decide +kernel
theorem dX9_breakFrom_29 : decode cX9_breakFrom 29 = .ok (.aload_n 0, 1) := by decide +kernel
theorem dX9_breakFrom_30 : decode cX9_breakFrom 30 = .ok (.getfield 19, 3) := by decide +kernel
theorem dX9_breakFrom_33 : decode cX9_breakFrom 33 = .ok (.getfield 27, 3) := by decide +kernel
theorem dX9_breakFrom_36 : decode cX9_breakFrom 36 = .ok (.iconst 3, 1) := by decide +kernel
theorem dX9_breakFrom_37 : decode cX9_breakFrom 37 = .ok (.iaload, 1) := by decide +kernel
theorem dX9_breakFrom_38 : decode cX9_breakFrom 38 = .ok (.iadd, 1) := by decide +kernel
theorem dX9_breakFrom_39 : decode cX9_breakFrom 39 = .ok (.invokestatic 95, 3) := by decide +kernel
theorem dX9_breakFrom_42 : decode cX9_breakFrom 42 = .ok (.ireturn, 1) := by decide +kernel
theorem dX9_mostInSpells_0 : decode cX9_mostInSpells 0 = .ok (.iload_n 1, 1) := by decide +kernel
theorem dX9_mostInSpells_1 : decode cX9_mostInSpells 1 = .ok (.ifCond .gt 5, 3) := by decide +kernel
theorem dX9_mostInSpells_4 : decode cX9_mostInSpells 4 = .ok (.iconst 0, 1) := by decide +kernel
theorem dX9_mostInSpells_5 : decode cX9_mostInSpells 5 = .ok (.ireturn, 1) := by decide +kernel
theorem dX9_mostInSpells_6 : decode cX9_mostInSpells 6 = .ok (.iload_n 3, 1) := by decide +kernel
theorem dX9_mostInSpells_7 : decode cX9_mostInSpells 7 = .ok (.iload_n 1, 1) := by decide +kernel
theorem dX9_mostInSpells_8 : decode cX9_mostInSpells 8 = .ok (.isub, 1) := by decide +kernel
theorem dX9_mostInSpells_9 : decode cX9_mostInSpells 9 = .ok (.iload_n 2, 1) := by decide +kernel
theorem dX9_mostInSpells_10 : decode cX9_mostInSpells 10 = .ok (.isub, 1) := by decide +kernel
theorem dX9_mostInSpells_11 : decode cX9_mostInSpells 11 = .ok (.istore 4, 2) := by decide +kernel
theorem dX9_mostInSpells_13 : decode cX9_mostInSpells 13 = .ok (.iload 4, 2) := by decide +kernel
theorem dX9_mostInSpells_15 : decode cX9_mostInSpells 15 = .ok (.ifCond .gt 9, 3) := by decide +kernel
theorem dX9_mostInSpells_18 : decode cX9_mostInSpells 18 = .ok (.iload_n 3, 1) := by decide +kernel
theorem dX9_mostInSpells_19 : decode cX9_mostInSpells 19 = .ok (.iload_n 1, 1) := by decide +kernel
theorem dX9_mostInSpells_20 : decode cX9_mostInSpells 20 = .ok (.invokestatic 95, 3) := by decide +kernel
theorem dX9_mostInSpells_23 : decode cX9_mostInSpells 23 = .ok (.ireturn, 1) := by decide +kernel
theorem dX9_mostInSpells_24 : decode cX9_mostInSpells 24 = .ok (.aload_n 0, 1) := by decide +kernel
theorem dX9_mostInSpells_25 : decode cX9_mostInSpells 25 = .ok (.getfield 19, 3) := by decide +kernel
theorem dX9_mostInSpells_28 : decode cX9_mostInSpells 28 = .ok (.getfield 27, 3) := by decide +kernel
theorem dX9_mostInSpells_31 : decode cX9_mostInSpells 31 = .ok (.iconst 0, 1) := by decide +kernel
theorem dX9_mostInSpells_32 : decode cX9_mostInSpells 32 = .ok (.iaload, 1) := by decide +kernel
theorem dX9_mostInSpells_33 : decode cX9_mostInSpells 33 = .ok (.istore 5, 2) := by decide +kernel
theorem dX9_mostInSpells_35 : decode cX9_mostInSpells 35 = .ok (.iconst 1, 1) := by decide +kernel
theorem dX9_mostInSpells_36 : decode cX9_mostInSpells 36 = .ok (.iload 5, 2) := by decide +kernel
theorem dX9_mostInSpells_38 : decode cX9_mostInSpells 38 = .ok (.aload_n 0, 1) := by decide +kernel
theorem dX9_mostInSpells_39 : decode cX9_mostInSpells 39 = .ok (.iload 5, 2) := by decide +kernel
theorem dX9_mostInSpells_41 : decode cX9_mostInSpells 41 = .ok (.invokevirtual 89, 3) := by decide +kernel
theorem dX9_mostInSpells_44 : decode cX9_mostInSpells 44 = .ok (.iadd, 1) := by decide +kernel
theorem dX9_mostInSpells_45 : decode cX9_mostInSpells 45 = .ok (.invokestatic 72, 3) := by decide +kernel
theorem dX9_mostInSpells_48 : decode cX9_mostInSpells 48 = .ok (.istore 6, 2) := by decide +kernel
theorem dX9_mostInSpells_50 : decode cX9_mostInSpells 50 = .ok (.iload_n 1, 1) := by decide +kernel
theorem dX9_mostInSpells_51 : decode cX9_mostInSpells 51 = .ok (.iload 4, 2) := by decide +kernel
theorem dX9_mostInSpells_53 : decode cX9_mostInSpells 53 = .ok (.iload 6, 2) := by decide +kernel
theorem dX9_mostInSpells_55 : decode cX9_mostInSpells 55 = .ok (.idiv, 1) := by decide +kernel
theorem dX9_mostInSpells_56 : decode cX9_mostInSpells 56 = .ok (.iload 5, 2) := by decide +kernel
theorem dX9_mostInSpells_58 : decode cX9_mostInSpells 58 = .ok (.imul, 1) := by decide +kernel
theorem dX9_mostInSpells_59 : decode cX9_mostInSpells 59 = .ok (.iadd, 1) := by decide +kernel
theorem dX9_mostInSpells_60 : decode cX9_mostInSpells 60 = .ok (.iload 4, 2) := by decide +kernel
theorem dX9_mostInSpells_62 : decode cX9_mostInSpells 62 = .ok (.iload 6, 2) := by decide +kernel
theorem dX9_mostInSpells_64 : decode cX9_mostInSpells 64 = .ok (.irem, 1) := by decide +kernel
theorem dX9_mostInSpells_65 : decode cX9_mostInSpells 65 = .ok (.iload 5, 2) := by decide +kernel
theorem dX9_mostInSpells_67 : decode cX9_mostInSpells 67 = .ok (.invokestatic 95, 3) := by decide +kernel
theorem dX9_mostInSpells_70 : decode cX9_mostInSpells 70 = .ok (.iadd, 1) := by decide +kernel
theorem dX9_mostInSpells_71 : decode cX9_mostInSpells 71 = .ok (.ireturn, 1) := by decide +kernel
theorem dX10_init_0 : decode cX10_init 0 = .ok (.aload_n 0, 1) := by decide +kernel
theorem dX10_init_1 : decode cX10_init 1 = .ok (.invokespecial 1, 3) := by decide +kernel
theorem dX10_init_4 : decode cX10_init 4 = .ok (.aload_n 0, 1) := by decide +kernel
theorem dX10_init_5 : decode cX10_init 5 = .ok (.new 7, 3) := by decide +kernel
theorem dX10_init_8 : decode cX10_init 8 = .ok (.dup, 1) := by decide +kernel
theorem dX10_init_9 : decode cX10_init 9 = .ok (.invokespecial 9, 3) := by decide +kernel
theorem dX10_init_12 : decode cX10_init 12 = .ok (.putfield 10, 3) := by decide +kernel
theorem dX10_init_15 : decode cX10_init 15 = .ok (.aload_n 0, 1) := by decide +kernel
theorem dX10_init_16 : decode cX10_init 16 = .ok (.new 16, 3) := by decide +kernel
theorem dX10_init_19 : decode cX10_init 19 = .ok (.dup, 1) := by decide +kernel
theorem dX10_init_20 : decode cX10_init 20 = .ok (.invokespecial 18, 3) := by decide +kernel
theorem dX10_init_23 : decode cX10_init 23 = .ok (.putfield 19, 3) := by decide +kernel
theorem dX10_init_26 : decode cX10_init 26 = .ok (.aload_n 0, 1) := by decide +kernel
theorem dX10_init_27 : decode cX10_init 27 = .ok (.iconst 4, 1) := by decide +kernel
theorem dX10_init_28 : decode cX10_init 28 = .ok (.anewarray 23, 3) := by decide +kernel
theorem dX10_init_31 : decode cX10_init 31 = .ok (.putfield 25, 3) := by decide +kernel
theorem dX10_init_34 : decode cX10_init 34 = .ok (.iconst 0, 1) := by decide +kernel
theorem dX10_init_35 : decode cX10_init 35 = .ok (.istore_n 1, 1) := by decide +kernel
theorem dX10_init_36 : decode cX10_init 36 = .ok (.iload_n 1, 1) := by decide +kernel
theorem dX10_init_37 : decode cX10_init 37 = .ok (.iconst 4, 1) := by decide +kernel
theorem dX10_init_38 : decode cX10_init 38 = .ok (.if_icmp .ge 22, 3) := by decide +kernel
theorem dX10_init_41 : decode cX10_init 41 = .ok (.aload_n 0, 1) := by decide +kernel
theorem dX10_init_42 : decode cX10_init 42 = .ok (.getfield 25, 3) := by decide +kernel
theorem dX10_init_45 : decode cX10_init 45 = .ok (.iload_n 1, 1) := by decide +kernel
theorem dX10_init_46 : decode cX10_init 46 = .ok (.new 23, 3) := by decide +kernel
theorem dX10_init_49 : decode cX10_init 49 = .ok (.dup, 1) := by decide +kernel
theorem dX10_init_50 : decode cX10_init 50 = .ok (.invokespecial 29, 3) := by decide +kernel
theorem dX10_init_53 : decode cX10_init 53 = .ok (.aastore, 1) := by decide +kernel
theorem dX10_init_54 : decode cX10_init 54 = .ok (.iinc 1 1, 3) := by decide +kernel
theorem dX10_init_57 : decode cX10_init 57 = .ok (.goto (-21), 3) := by decide +kernel
theorem dX10_init_60 : decode cX10_init 60 = .ok (.aload_n 0, 1) := by decide +kernel
theorem dX10_init_61 : decode cX10_init 61 = .ok (.iconst 2, 1) := by decide +kernel
theorem dX10_init_62 : decode cX10_init 62 = .ok (.anewarray 30, 3) := by decide +kernel
theorem dX10_init_65 : decode cX10_init 65 = .ok (.putfield 32, 3) := by decide +kernel
theorem dX10_init_68 : decode cX10_init 68 = .ok (.iconst 0, 1) := by decide +kernel
theorem dX10_init_69 : decode cX10_init 69 = .ok (.istore_n 1, 1) := by decide +kernel
theorem dX10_init_70 : decode cX10_init 70 = .ok (.iload_n 1, 1) := by decide +kernel
theorem dX10_init_71 : decode cX10_init 71 = .ok (.iconst 2, 1) := by decide +kernel
theorem dX10_init_72 : decode cX10_init 72 = .ok (.if_icmp .ge 22, 3) := by decide +kernel
theorem dX10_init_75 : decode cX10_init 75 = .ok (.aload_n 0, 1) := by decide +kernel
theorem dX10_init_76 : decode cX10_init 76 = .ok (.getfield 32, 3) := by decide +kernel
theorem dX10_init_79 : decode cX10_init 79 = .ok (.iload_n 1, 1) := by decide +kernel
theorem dX10_init_80 : decode cX10_init 80 = .ok (.new 30, 3) := by decide +kernel
theorem dX10_init_83 : decode cX10_init 83 = .ok (.dup, 1) := by decide +kernel
theorem dX10_init_84 : decode cX10_init 84 = .ok (.invokespecial 36, 3) := by decide +kernel
theorem dX10_init_87 : decode cX10_init 87 = .ok (.aastore, 1) := by decide +kernel
theorem dX10_init_88 : decode cX10_init 88 = .ok (.iinc 1 1, 3) := by decide +kernel
theorem dX10_init_91 : decode cX10_init 91 = .ok (.goto (-21), 3) := by decide +kernel
theorem dX10_init_94 : decode cX10_init 94 = .ok (.aload_n 0, 1) := by decide +kernel
theorem dX10_init_95 : decode cX10_init 95 = .ok (.new 37, 3) := by decide +kernel
theorem dX10_init_98 : decode cX10_init 98 = .ok (.dup, 1) := by decide +kernel
theorem dX10_init_99 : decode cX10_init 99 = .ok (.invokespecial 39, 3) := by decide +kernel
theorem dX10_init_102 : decode cX10_init 102 = .ok (.putfield 40, 3) := by decide +kernel
theorem dX10_init_105 : decode cX10_init 105 = .ok (.aload_n 0, 1) := by decide +kernel
theorem dX10_init_106 : decode cX10_init 106 = .ok (.new 44, 3) := by decide +kernel
theorem dX10_init_109 : decode cX10_init 109 = .ok (.dup, 1) := by decide +kernel
theorem dX10_init_110 : decode cX10_init 110 = .ok (.aload_n 0, 1) := by decide +kernel
theorem dX10_init_111 : decode cX10_init 111 = .ok (.getfield 19, 3) := by decide +kernel
theorem dX10_init_114 : decode cX10_init 114 = .ok (.aload_n 0, 1) := by decide +kernel
theorem dX10_init_115 : decode cX10_init 115 = .ok (.getfield 40, 3) := by decide +kernel
theorem dX10_init_118 : decode cX10_init 118 = .ok (.invokespecial 46, 3) := by decide +kernel
theorem dX10_init_121 : decode cX10_init 121 = .ok (.putfield 49, 3) := by decide +kernel
theorem dX10_init_124 : decode cX10_init 124 = .ok (.aload_n 0, 1) := by decide +kernel
theorem dX10_init_125 : decode cX10_init 125 = .ok (.new 53, 3) := by decide +kernel
theorem dX10_init_128 : decode cX10_init 128 = .ok (.dup, 1) := by decide +kernel
theorem dX10_init_129 : decode cX10_init 129 = .ok (.invokespecial 55, 3) := by decide +kernel
theorem dX10_init_132 : decode cX10_init 132 = .ok (.putfield 56, 3) := by decide +kernel
theorem dX10_init_135 : decode cX10_init 135 = .ok (.aload_n 0, 1) := by decide +kernel
theorem dX10_init_136 : decode cX10_init 136 = .ok (.new 60, 3) := by decide +kernel
theorem dX10_init_139 : decode cX10_init 139 = .ok (.dup, 1) := by decide +kernel
theorem dX10_init_140 : decode cX10_init 140 = .ok (.aload_n 0, 1) := by decide +kernel
theorem dX10_init_141 : decode cX10_init 141 = .ok (.getfield 19, 3) := by decide +kernel
theorem dX10_init_144 : decode cX10_init 144 = .ok (.aload_n 0, 1) := by decide +kernel
theorem dX10_init_145 : decode cX10_init 145 = .ok (.getfield 40, 3) := by decide +kernel
theorem dX10_init_148 : decode cX10_init 148 = .ok (.aload_n 0, 1) := by decide +kernel
theorem dX10_init_149 : decode cX10_init 149 = .ok (.getfield 56, 3) := by decide +kernel
theorem dX10_init_152 : decode cX10_init 152 = .ok (.invokespecial 62, 3) := by decide +kernel
theorem dX10_init_155 : decode cX10_init 155 = .ok (.putfield 65, 3) := by decide +kernel
theorem dX10_init_158 : decode cX10_init 158 = .ok (.aload_n 0, 1) := by decide +kernel
theorem dX10_init_159 : decode cX10_init 159 = .ok (.new 69, 3) := by decide +kernel
theorem dX10_init_162 : decode cX10_init 162 = .ok (.dup, 1) := by decide +kernel
theorem dX10_init_163 : decode cX10_init 163 = .ok (.invokespecial 71, 3) := by decide +kernel
theorem dX10_init_166 : decode cX10_init 166 = .ok (.putfield 72, 3) := by decide +kernel
theorem dX10_init_169 : decode cX10_init 169 = .ok (.aload_n 0, 1) := by decide +kernel
theorem dX10_init_170 : decode cX10_init 170 = .ok (.new 76, 3) := by decide +kernel
theorem dX10_init_173 : decode cX10_init 173 = .ok (.dup, 1) := by decide +kernel
theorem dX10_init_174 : decode cX10_init 174 = .ok (.invokespecial 78, 3) := by decide +kernel
theorem dX10_init_177 : decode cX10_init 177 = .ok (.putfield 79, 3) := by decide +kernel
theorem dX10_init_180 : decode cX10_init 180 = .ok (.return_, 1) := by decide +kernel
theorem dX10_feed_0 : decode cX10_feed 0 = .ok (.aload_n 0, 1) := by decide +kernel
theorem dX10_feed_1 : decode cX10_feed 1 = .ok (.getfield 10, 3) := by decide +kernel
theorem dX10_feed_4 : decode cX10_feed 4 = .ok (.invokevirtual 83, 3) := by decide +kernel
theorem dX10_feed_7 : decode cX10_feed 7 = .ok (.ifCond .ne 5, 3) := by decide +kernel
theorem dX10_feed_10 : decode cX10_feed 10 = .ok (.iconst (-1), 1) := by decide +kernel
theorem dX10_feed_11 : decode cX10_feed 11 = .ok (.ireturn, 1) := by decide +kernel
theorem dX10_feed_12 : decode cX10_feed 12 = .ok (.aload_n 0, 1) := by decide +kernel
theorem dX10_feed_13 : decode cX10_feed 13 = .ok (.getfield 10, 3) := by decide +kernel
theorem dX10_feed_16 : decode cX10_feed 16 = .ok (.iload_n 1, 1) := by decide +kernel
theorem dX10_feed_17 : decode cX10_feed 17 = .ok (.invokevirtual 87, 3) := by decide +kernel
theorem dX10_feed_20 : decode cX10_feed 20 = .ok (.aload_n 0, 1) := by decide +kernel
theorem dX10_feed_21 : decode cX10_feed 21 = .ok (.getfield 10, 3) := by decide +kernel
theorem dX10_feed_24 : decode cX10_feed 24 = .ok (.iload_n 2, 1) := by decide +kernel
theorem dX10_feed_25 : decode cX10_feed 25 = .ok (.invokevirtual 87, 3) := by decide +kernel
theorem dX10_feed_28 : decode cX10_feed 28 = .ok (.aload_n 0, 1) := by decide +kernel
theorem dX10_feed_29 : decode cX10_feed 29 = .ok (.getfield 10, 3) := by decide +kernel
theorem dX10_feed_32 : decode cX10_feed 32 = .ok (.iload_n 3, 1) := by decide +kernel
theorem dX10_feed_33 : decode cX10_feed 33 = .ok (.invokevirtual 87, 3) := by decide +kernel
theorem dX10_feed_36 : decode cX10_feed 36 = .ok (.aload_n 0, 1) := by decide +kernel
theorem dX10_feed_37 : decode cX10_feed 37 = .ok (.getfield 10, 3) := by decide +kernel
theorem dX10_feed_40 : decode cX10_feed 40 = .ok (.iload 4, 2) := by decide +kernel
theorem dX10_feed_42 : decode cX10_feed 42 = .ok (.invokevirtual 87, 3) := by decide +kernel
theorem dX10_feed_45 : decode cX10_feed 45 = .ok (.aload_n 0, 1) := by decide +kernel
theorem dX10_feed_46 : decode cX10_feed 46 = .ok (.getfield 10, 3) := by decide +kernel
theorem dX10_feed_49 : decode cX10_feed 49 = .ok (.iload 5, 2) := by decide +kernel
theorem dX10_feed_51 : decode cX10_feed 51 = .ok (.invokevirtual 87, 3) := by decide +kernel
theorem dX10_feed_54 : decode cX10_feed 54 = .ok (.aload_n 0, 1) := by decide +kernel
theorem dX10_feed_55 : decode cX10_feed 55 = .ok (.getfield 10, 3) := by decide +kernel
theorem dX10_feed_58 : decode cX10_feed 58 = .ok (.getfield 91, 3) := by decide +kernel
theorem dX10_feed_61 : decode cX10_feed 61 = .ok (.ireturn, 1) := by decide +kernel
theorem dX10_law_0 : decode cX10_law 0 = .ok (.iload_n 1, 1) := by decide +kernel
theorem dX10_law_1 : decode cX10_law 1 = .ok (.ifCond .lt 14, 3) := by decide +kernel
theorem dX10_law_4 : decode cX10_law 4 = .ok (.iload_n 1, 1) := by decide +kernel
theorem dX10_law_5 : decode cX10_law 5 = .ok (.aload_n 0, 1) := by decide +kernel
theorem dX10_law_6 : decode cX10_law 6 = .ok (.getfield 10, 3) := by decide +kernel
theorem dX10_law_9 : decode cX10_law 9 = .ok (.getfield 91, 3) := by decide +kernel
theorem dX10_law_12 : decode cX10_law 12 = .ok (.if_icmp .le 5, 3) := by decide +kernel
theorem dX10_law_15 : decode cX10_law 15 = .ok (.iconst (-1), 1) := by decide +kernel
theorem dX10_law_16 : decode cX10_law 16 = .ok (.ireturn, 1) := by decide +kernel
theorem dX10_law_17 : decode cX10_law 17 = .ok (.aload_n 0, 1) := by decide +kernel
theorem dX10_law_18 : decode cX10_law 18 = .ok (.getfield 10, 3) := by decide +kernel
theorem dX10_law_21 : decode cX10_law 21 = .ok (.iconst 0, 1) := by decide +kernel
theorem dX10_law_22 : decode cX10_law 22 = .ok (.putfield 91, 3) := by decide +kernel
theorem dX10_law_25 : decode cX10_law 25 = .ok (.aload_n 0, 1) := by decide +kernel
theorem dX10_law_26 : decode cX10_law 26 = .ok (.getfield 19, 3) := by decide +kernel
theorem dX10_law_29 : decode cX10_law 29 = .ok (.aload_n 0, 1) := by decide +kernel
theorem dX10_law_30 : decode cX10_law 30 = .ok (.getfield 10, 3) := by decide +kernel
theorem dX10_law_33 : decode cX10_law 33 = .ok (.getfield 95, 3) := by decide +kernel
theorem dX10_law_36 : decode cX10_law 36 = .ok (.iload_n 1, 1) := by decide +kernel
theorem dX10_law_37 : decode cX10_law 37 = .ok (.invokevirtual 99, 3) := by decide +kernel
theorem dX10_law_40 : decode cX10_law 40 = .ok (.ireturn, 1) := by decide +kernel
theorem dX10_rule_0 : decode cX10_rule 0 = .ok (.iload_n 1, 1) := by decide +kernel
theorem dX10_rule_1 : decode cX10_rule 1 = .ok (.invokestatic 103, 3) := by decide +kernel
theorem dX10_rule_4 : decode cX10_rule 4 = .ok (.istore_n 2, 1) := by decide +kernel
theorem dX10_rule_5 : decode cX10_rule 5 = .ok (.iload_n 2, 1) := by decide +kernel
theorem dX10_rule_6 : decode cX10_rule 6 = .ok (.iconst (-1), 1) := by decide +kernel
theorem dX10_rule_7 : decode cX10_rule 7 = .ok (.if_icmp .ne 7, 3) := by decide +kernel
theorem dX10_rule_10 : decode cX10_rule 10 = .ok (.iconst (-1), 1) := by decide +kernel
theorem dX10_rule_11 : decode cX10_rule 11 = .ok (.goto 12, 3) := by decide +kernel
theorem dX10_rule_14 : decode cX10_rule 14 = .ok (.aload_n 0, 1) := by decide +kernel
theorem dX10_rule_15 : decode cX10_rule 15 = .ok (.getfield 19, 3) := by decide +kernel
theorem dX10_rule_18 : decode cX10_rule 18 = .ok (.getfield 107, 3) := by decide +kernel
theorem dX10_rule_21 : decode cX10_rule 21 = .ok (.iload_n 2, 1) := by decide +kernel
theorem dX10_rule_22 : decode cX10_rule 22 = .ok (.iaload, 1) := by decide +kernel
theorem dX10_rule_23 : decode cX10_rule 23 = .ok (.ireturn, 1) := by decide +kernel
theorem dX10_act_0 : decode cX10_act 0 = .ok (.aload_n 0, 1) := by decide +kernel
theorem dX10_act_1 : decode cX10_act 1 = .ok (.iload_n 1, 1) := by decide +kernel
theorem dX10_act_2 : decode cX10_act 2 = .ok (.invokevirtual 110, 3) := by decide +kernel
theorem dX10_act_5 : decode cX10_act 5 = .ok (.astore 5, 2) := by decide +kernel
theorem dX10_act_7 : decode cX10_act 7 = .ok (.aload 5, 2) := by decide +kernel
theorem dX10_act_9 : decode cX10_act 9 = .ok (.ifnull 21, 3) := by decide +kernel
theorem dX10_act_12 : decode cX10_act 12 = .ok (.iload_n 2, 1) := by decide +kernel
theorem dX10_act_13 : decode cX10_act 13 = .ok (.iload 4, 2) := by decide +kernel
theorem dX10_act_15 : decode cX10_act 15 = .ok (.invokestatic 114, 3) := by decide +kernel
theorem dX10_act_18 : decode cX10_act 18 = .ok (.ifCond .eq 12, 3) := by decide +kernel
theorem dX10_act_21 : decode cX10_act 21 = .ok (.aload 5, 2) := by decide +kernel
theorem dX10_act_23 : decode cX10_act 23 = .ok (.iload_n 3, 1) := by decide +kernel
theorem dX10_act_24 : decode cX10_act 24 = .ok (.invokevirtual 118, 3) := by decide +kernel
theorem dX10_act_27 : decode cX10_act 27 = .ok (.ifCond .ne 5, 3) := by decide +kernel
theorem dX10_act_30 : decode cX10_act 30 = .ok (.iconst (-1), 1) := by decide +kernel
theorem dX10_act_31 : decode cX10_act 31 = .ok (.ireturn, 1) := by decide +kernel
theorem dX10_act_32 : decode cX10_act 32 = .ok (.aload 5, 2) := by decide +kernel
theorem dX10_act_34 : decode cX10_act 34 = .ok (.iload_n 2, 1) := by decide +kernel
theorem dX10_act_35 : decode cX10_act 35 = .ok (.iload_n 3, 1) := by decide +kernel
theorem dX10_act_36 : decode cX10_act 36 = .ok (.iload 4, 2) := by decide +kernel
theorem dX10_act_38 : decode cX10_act 38 = .ok (.invokevirtual 121, 3) := by decide +kernel
theorem dX10_act_41 : decode cX10_act 41 = .ok (.ireturn, 1) := by decide +kernel
theorem dX10_put_0 : decode cX10_put 0 = .ok (.aload_n 0, 1) := by decide +kernel
theorem dX10_put_1 : decode cX10_put 1 = .ok (.iload_n 1, 1) := by decide +kernel
theorem dX10_put_2 : decode cX10_put 2 = .ok (.invokevirtual 110, 3) := by decide +kernel
theorem dX10_put_5 : decode cX10_put 5 = .ok (.astore 5, 2) := by decide +kernel
theorem dX10_put_7 : decode cX10_put 7 = .ok (.aload 5, 2) := by decide +kernel
theorem dX10_put_9 : decode cX10_put 9 = .ok (.ifnull 21, 3) := by decide +kernel
theorem dX10_put_12 : decode cX10_put 12 = .ok (.aload 5, 2) := by decide +kernel
theorem dX10_put_14 : decode cX10_put 14 = .ok (.iload_n 2, 1) := by decide +kernel
theorem dX10_put_15 : decode cX10_put 15 = .ok (.invokevirtual 124, 3) := by decide +kernel
theorem dX10_put_18 : decode cX10_put 18 = .ok (.ifCond .eq 12, 3) := by decide +kernel
theorem dX10_put_21 : decode cX10_put 21 = .ok (.iload_n 3, 1) := by decide +kernel
theorem dX10_put_22 : decode cX10_put 22 = .ok (.iload 4, 2) := by decide +kernel
theorem dX10_put_24 : decode cX10_put 24 = .ok (.invokestatic 114, 3) := by decide +kernel
theorem dX10_put_27 : decode cX10_put 27 = .ok (.ifCond .ne 5, 3) := by decide +kernel
theorem dX10_put_30 : decode cX10_put 30 = .ok (.iconst 0, 1) := by decide +kernel
theorem dX10_put_31 : decode cX10_put 31 = .ok (.ireturn, 1) := by decide +kernel
theorem dX10_put_32 : decode cX10_put 32 = .ok (.aload 5, 2) := by decide +kernel
theorem dX10_put_34 : decode cX10_put 34 = .ok (.iload_n 2, 1) := by decide +kernel
theorem dX10_put_35 : decode cX10_put 35 = .ok (.iload_n 3, 1) := by decide +kernel
theorem dX10_put_36 : decode cX10_put 36 = .ok (.iload 4, 2) := by decide +kernel
theorem dX10_put_38 : decode cX10_put 38 = .ok (.invokevirtual 127, 3) := by decide +kernel
theorem dX10_put_41 : decode cX10_put 41 = .ok (.iconst 1, 1) := by decide +kernel
theorem dX10_put_42 : decode cX10_put 42 = .ok (.ireturn, 1) := by decide +kernel
theorem dX10_trip_0 : decode cX10_trip 0 = .ok (.aload_n 0, 1) := by decide +kernel
theorem dX10_trip_1 : decode cX10_trip 1 = .ok (.iload_n 1, 1) := by decide +kernel
theorem dX10_trip_2 : decode cX10_trip 2 = .ok (.invokevirtual 131, 3) := by decide +kernel
theorem dX10_trip_5 : decode cX10_trip 5 = .ok (.astore 4, 2) := by decide +kernel
theorem dX10_trip_7 : decode cX10_trip 7 = .ok (.aload 4, 2) := by decide +kernel
theorem dX10_trip_9 : decode cX10_trip 9 = .ok (.ifnull 19, 3) := by decide +kernel
theorem dX10_trip_12 : decode cX10_trip 12 = .ok (.iload_n 2, 1) := by decide +kernel
theorem dX10_trip_13 : decode cX10_trip 13 = .ok (.ifCond .lt 15, 3) := by decide +kernel
theorem dX10_trip_16 : decode cX10_trip 16 = .ok (.iload_n 2, 1) := by decide +kernel
theorem dX10_trip_17 : decode cX10_trip 17 = .ok (.iload_n 3, 1) := by decide +kernel
theorem dX10_trip_18 : decode cX10_trip 18 = .ok (.if_icmp .ge 10, 3) := by decide +kernel
theorem dX10_trip_21 : decode cX10_trip 21 = .ok (.iload_n 3, 1) := by decide +kernel
theorem dX10_trip_22 : decode cX10_trip 22 = .ok (.sipush 20160, 3) := by decide +kernel
theorem dX10_trip_25 : decode cX10_trip 25 = .ok (.if_icmp .le 5, 3) := by decide +kernel
theorem dX10_trip_28 : decode cX10_trip 28 = .ok (.iconst 0, 1) := by decide +kernel
theorem dX10_trip_29 : decode cX10_trip 29 = .ok (.ireturn, 1) := by decide +kernel
theorem dX10_trip_30 : decode cX10_trip 30 = .ok (.aload 4, 2) := by decide +kernel
theorem dX10_trip_32 : decode cX10_trip 32 = .ok (.iload_n 2, 1) := by decide +kernel
theorem dX10_trip_33 : decode cX10_trip 33 = .ok (.iload_n 3, 1) := by decide +kernel
theorem dX10_trip_34 : decode cX10_trip 34 = .ok (.invokevirtual 135, 3) := by decide +kernel
theorem dX10_trip_37 : decode cX10_trip 37 = .ok (.ireturn, 1) := by decide +kernel
theorem dX10_breaches_0 : decode cX10_breaches 0 = .ok (.aload_n 0, 1) := by decide +kernel
theorem dX10_breaches_1 : decode cX10_breaches 1 = .ok (.iload_n 1, 1) := by decide +kernel
theorem dX10_breaches_2 : decode cX10_breaches 2 = .ok (.invokevirtual 110, 3) := by decide +kernel
theorem dX10_breaches_5 : decode cX10_breaches 5 = .ok (.astore_n 3, 1) := by decide +kernel
theorem dX10_breaches_6 : decode cX10_breaches 6 = .ok (.aload_n 3, 1) := by decide +kernel
theorem dX10_breaches_7 : decode cX10_breaches 7 = .ok (.ifnonnull 5, 3) := by decide +kernel
theorem dX10_breaches_10 : decode cX10_breaches 10 = .ok (.iconst (-1), 1) := by decide +kernel
theorem dX10_breaches_11 : decode cX10_breaches 11 = .ok (.ireturn, 1) := by decide +kernel
theorem dX10_breaches_12 : decode cX10_breaches 12 = .ok (.aload_n 0, 1) := by decide +kernel
theorem dX10_breaches_13 : decode cX10_breaches 13 = .ok (.aload_n 3, 1) := by decide +kernel
theorem dX10_breaches_14 : decode cX10_breaches 14 = .ok (.iload_n 2, 1) := by decide +kernel
theorem dX10_breaches_15 : decode cX10_breaches 15 = .ok (.invokevirtual 138, 3) := by decide +kernel
theorem dX10_breaches_18 : decode cX10_breaches 18 = .ok (.aload_n 0, 1) := by decide +kernel
theorem dX10_breaches_19 : decode cX10_breaches 19 = .ok (.invokevirtual 142, 3) := by decide +kernel
theorem dX10_breaches_22 : decode cX10_breaches 22 = .ok (.aload_n 0, 1) := by decide +kernel
theorem dX10_breaches_23 : decode cX10_breaches 23 = .ok (.getfield 72, 3) := by decide +kernel
theorem dX10_breaches_26 : decode cX10_breaches 26 = .ok (.getfield 145, 3) := by decide +kernel
theorem dX10_breaches_29 : decode cX10_breaches 29 = .ok (.ireturn, 1) := by decide +kernel
theorem dX10_breach_0 : decode cX10_breach 0 = .ok (.aload_n 0, 1) := by decide +kernel
theorem dX10_breach_1 : decode cX10_breach 1 = .ok (.iload_n 1, 1) := by decide +kernel
theorem dX10_breach_2 : decode cX10_breach 2 = .ok (.invokevirtual 110, 3) := by decide +kernel
theorem dX10_breach_5 : decode cX10_breach 5 = .ok (.astore 5, 2) := by decide +kernel
theorem dX10_breach_7 : decode cX10_breach 7 = .ok (.aload 5, 2) := by decide +kernel
theorem dX10_breach_9 : decode cX10_breach 9 = .ok (.ifnonnull 5, 3) := by decide +kernel
theorem dX10_breach_12 : decode cX10_breach 12 = .ok (.iconst (-1), 1) := by decide +kernel
theorem dX10_breach_13 : decode cX10_breach 13 = .ok (.ireturn, 1) := by decide +kernel
theorem dX10_breach_14 : decode cX10_breach 14 = .ok (.aload_n 0, 1) := by decide +kernel
theorem dX10_breach_15 : decode cX10_breach 15 = .ok (.aload 5, 2) := by decide +kernel
theorem dX10_breach_17 : decode cX10_breach 17 = .ok (.iload_n 2, 1) := by decide +kernel
theorem dX10_breach_18 : decode cX10_breach 18 = .ok (.invokevirtual 138, 3) := by decide +kernel
theorem dX10_breach_21 : decode cX10_breach 21 = .ok (.aload_n 0, 1) := by decide +kernel
theorem dX10_breach_22 : decode cX10_breach 22 = .ok (.invokevirtual 142, 3) := by decide +kernel
theorem dX10_breach_25 : decode cX10_breach 25 = .ok (.aload_n 0, 1) := by decide +kernel
theorem dX10_breach_26 : decode cX10_breach 26 = .ok (.getfield 72, 3) := by decide +kernel
theorem dX10_breach_29 : decode cX10_breach 29 = .ok (.iload_n 3, 1) := by decide +kernel
theorem dX10_breach_30 : decode cX10_breach 30 = .ok (.iload 4, 2) := by decide +kernel
theorem dX10_breach_32 : decode cX10_breach 32 = .ok (.invokevirtual 146, 3) := by decide +kernel
theorem dX10_breach_35 : decode cX10_breach 35 = .ok (.ireturn, 1) := by decide +kernel
theorem dX10_weight_0 : decode cX10_weight 0 = .ok (.aload_n 0, 1) := by decide +kernel
theorem dX10_weight_1 : decode cX10_weight 1 = .ok (.iload_n 1, 1) := by decide +kernel
theorem dX10_weight_2 : decode cX10_weight 2 = .ok (.invokevirtual 110, 3) := by decide +kernel
theorem dX10_weight_5 : decode cX10_weight 5 = .ok (.astore_n 3, 1) := by decide +kernel
theorem dX10_weight_6 : decode cX10_weight 6 = .ok (.aload_n 3, 1) := by decide +kernel
theorem dX10_weight_7 : decode cX10_weight 7 = .ok (.ifnonnull 5, 3) := by decide +kernel
theorem dX10_weight_10 : decode cX10_weight 10 = .ok (.iconst (-1), 1) := by decide +kernel
theorem dX10_weight_11 : decode cX10_weight 11 = .ok (.ireturn, 1) := by decide +kernel
theorem dX10_weight_12 : decode cX10_weight 12 = .ok (.aload_n 0, 1) := by decide +kernel
theorem dX10_weight_13 : decode cX10_weight 13 = .ok (.aload_n 3, 1) := by decide +kernel
theorem dX10_weight_14 : decode cX10_weight 14 = .ok (.iload_n 2, 1) := by decide +kernel
theorem dX10_weight_15 : decode cX10_weight 15 = .ok (.invokevirtual 138, 3) := by decide +kernel
theorem dX10_weight_18 : decode cX10_weight 18 = .ok (.aload_n 0, 1) := by decide +kernel
theorem dX10_weight_19 : decode cX10_weight 19 = .ok (.getfield 56, 3) := by decide +kernel
theorem dX10_weight_22 : decode cX10_weight 22 = .ok (.invokevirtual 149, 3) := by decide +kernel
theorem dX10_weight_25 : decode cX10_weight 25 = .ok (.ireturn, 1) := by decide +kernel
theorem dX10_day_0 : decode cX10_day 0 = .ok (.aload_n 0, 1) := by decide +kernel
theorem dX10_day_1 : decode cX10_day 1 = .ok (.iload_n 1, 1) := by decide +kernel
theorem dX10_day_2 : decode cX10_day 2 = .ok (.invokevirtual 110, 3) := by decide +kernel
theorem dX10_day_5 : decode cX10_day 5 = .ok (.astore 5, 2) := by decide +kernel
theorem dX10_day_7 : decode cX10_day 7 = .ok (.aload 5, 2) := by decide +kernel
theorem dX10_day_9 : decode cX10_day 9 = .ok (.ifnonnull 5, 3) := by decide +kernel
theorem dX10_day_12 : decode cX10_day 12 = .ok (.iconst (-1), 1) := by decide +kernel
theorem dX10_day_13 : decode cX10_day 13 = .ok (.ireturn, 1) := by decide +kernel
theorem dX10_day_14 : decode cX10_day 14 = .ok (.aload_n 0, 1) := by decide +kernel
theorem dX10_day_15 : decode cX10_day 15 = .ok (.aload 5, 2) := by decide +kernel
theorem dX10_day_17 : decode cX10_day 17 = .ok (.iload_n 2, 1) := by decide +kernel
theorem dX10_day_18 : decode cX10_day 18 = .ok (.invokevirtual 138, 3) := by decide +kernel
theorem dX10_day_21 : decode cX10_day 21 = .ok (.aload_n 0, 1) := by decide +kernel
theorem dX10_day_22 : decode cX10_day 22 = .ok (.getfield 56, 3) := by decide +kernel
theorem dX10_day_25 : decode cX10_day 25 = .ok (.iload_n 3, 1) := by decide +kernel
theorem dX10_day_26 : decode cX10_day 26 = .ok (.iload 4, 2) := by decide +kernel
theorem dX10_day_28 : decode cX10_day 28 = .ok (.invokevirtual 153, 3) := by decide +kernel
theorem dX10_day_31 : decode cX10_day 31 = .ok (.ireturn, 1) := by decide +kernel
theorem dX10_may_0 : decode cX10_may 0 = .ok (.aload_n 0, 1) := by decide +kernel
theorem dX10_may_1 : decode cX10_may 1 = .ok (.iload_n 1, 1) := by decide +kernel
theorem dX10_may_2 : decode cX10_may 2 = .ok (.invokevirtual 110, 3) := by decide +kernel
theorem dX10_may_5 : decode cX10_may 5 = .ok (.astore_n 3, 1) := by decide +kernel
theorem dX10_may_6 : decode cX10_may 6 = .ok (.aload_n 3, 1) := by decide +kernel
theorem dX10_may_7 : decode cX10_may 7 = .ok (.ifnonnull 5, 3) := by decide +kernel
theorem dX10_may_10 : decode cX10_may 10 = .ok (.iconst (-1), 1) := by decide +kernel
theorem dX10_may_11 : decode cX10_may 11 = .ok (.ireturn, 1) := by decide +kernel
theorem dX10_may_12 : decode cX10_may 12 = .ok (.aload_n 0, 1) := by decide +kernel
theorem dX10_may_13 : decode cX10_may 13 = .ok (.getfield 40, 3) := by decide +kernel
theorem dX10_may_16 : decode cX10_may 16 = .ok (.aload_n 3, 1) := by decide +kernel
theorem dX10_may_17 : decode cX10_may 17 = .ok (.iload_n 2, 1) := by decide +kernel
theorem dX10_may_18 : decode cX10_may 18 = .ok (.invokevirtual 154, 3) := by decide +kernel
theorem dX10_may_21 : decode cX10_may 21 = .ok (.aload_n 0, 1) := by decide +kernel
theorem dX10_may_22 : decode cX10_may 22 = .ok (.getfield 49, 3) := by decide +kernel
theorem dX10_may_25 : decode cX10_may 25 = .ok (.invokevirtual 157, 3) := by decide +kernel
theorem dX10_may_28 : decode cX10_may 28 = .ok (.ireturn, 1) := by decide +kernel
theorem dX10_most_0 : decode cX10_most 0 = .ok (.aload_n 0, 1) := by decide +kernel
theorem dX10_most_1 : decode cX10_most 1 = .ok (.iload_n 1, 1) := by decide +kernel
theorem dX10_most_2 : decode cX10_most 2 = .ok (.invokevirtual 110, 3) := by decide +kernel
theorem dX10_most_5 : decode cX10_most 5 = .ok (.astore 4, 2) := by decide +kernel
theorem dX10_most_7 : decode cX10_most 7 = .ok (.aload 4, 2) := by decide +kernel
theorem dX10_most_9 : decode cX10_most 9 = .ok (.ifnull 14, 3) := by decide +kernel
theorem dX10_most_12 : decode cX10_most 12 = .ok (.iload_n 3, 1) := by decide +kernel
theorem dX10_most_13 : decode cX10_most 13 = .ok (.ifCond .lt 10, 3) := by decide +kernel
theorem dX10_most_16 : decode cX10_most 16 = .ok (.iload_n 3, 1) := by decide +kernel
theorem dX10_most_17 : decode cX10_most 17 = .ok (.sipush 2000, 3) := by decide +kernel
theorem dX10_most_20 : decode cX10_most 20 = .ok (.if_icmp .le 5, 3) := by decide +kernel
theorem dX10_most_23 : decode cX10_most 23 = .ok (.iconst (-1), 1) := by decide +kernel
theorem dX10_most_24 : decode cX10_most 24 = .ok (.ireturn, 1) := by decide +kernel
theorem dX10_most_25 : decode cX10_most 25 = .ok (.aload_n 0, 1) := by decide +kernel
theorem dX10_most_26 : decode cX10_most 26 = .ok (.getfield 40, 3) := by decide +kernel
theorem dX10_most_29 : decode cX10_most 29 = .ok (.aload 4, 2) := by decide +kernel
theorem dX10_most_31 : decode cX10_most 31 = .ok (.iload_n 2, 1) := by decide +kernel
theorem dX10_most_32 : decode cX10_most 32 = .ok (.invokevirtual 154, 3) := by decide +kernel
theorem dX10_most_35 : decode cX10_most 35 = .ok (.aload_n 0, 1) := by decide +kernel
theorem dX10_most_36 : decode cX10_most 36 = .ok (.getfield 49, 3) := by decide +kernel
theorem dX10_most_39 : decode cX10_most 39 = .ok (.iload_n 3, 1) := by decide +kernel
theorem dX10_most_40 : decode cX10_most 40 = .ok (.invokevirtual 160, 3) := by decide +kernel
theorem dX10_most_43 : decode cX10_most 43 = .ok (.ireturn, 1) := by decide +kernel
theorem dX10_against_0 : decode cX10_against 0 = .ok (.aload_n 0, 1) := by decide +kernel
theorem dX10_against_1 : decode cX10_against 1 = .ok (.iload_n 1, 1) := by decide +kernel
theorem dX10_against_2 : decode cX10_against 2 = .ok (.invokevirtual 131, 3) := by decide +kernel
theorem dX10_against_5 : decode cX10_against 5 = .ok (.astore_n 3, 1) := by decide +kernel
theorem dX10_against_6 : decode cX10_against 6 = .ok (.aload_n 3, 1) := by decide +kernel
theorem dX10_against_7 : decode cX10_against 7 = .ok (.ifnonnull 5, 3) := by decide +kernel
theorem dX10_against_10 : decode cX10_against 10 = .ok (.iconst (-1), 1) := by decide +kernel
theorem dX10_against_11 : decode cX10_against 11 = .ok (.ireturn, 1) := by decide +kernel
theorem dX10_against_12 : decode cX10_against 12 = .ok (.aload_n 0, 1) := by decide +kernel
theorem dX10_against_13 : decode cX10_against 13 = .ok (.getfield 79, 3) := by decide +kernel
theorem dX10_against_16 : decode cX10_against 16 = .ok (.aload_n 0, 1) := by decide +kernel
theorem dX10_against_17 : decode cX10_against 17 = .ok (.getfield 25, 3) := by decide +kernel
theorem dX10_against_20 : decode cX10_against 20 = .ok (.aload_n 3, 1) := by decide +kernel
theorem dX10_against_21 : decode cX10_against 21 = .ok (.iload_n 1, 1) := by decide +kernel
theorem dX10_against_22 : decode cX10_against 22 = .ok (.invokevirtual 163, 3) := by decide +kernel
theorem dX10_against_25 : decode cX10_against 25 = .ok (.iload_n 2, 1) := by decide +kernel
theorem dX10_against_26 : decode cX10_against 26 = .ok (.tableswitch 50 0 2 #[26, 34, 42], 26) := by decide +kernel
theorem dX10_against_52 : decode cX10_against 52 = .ok (.aload_n 0, 1) := by decide +kernel
theorem dX10_against_53 : decode cX10_against 53 = .ok (.getfield 79, 3) := by decide +kernel
theorem dX10_against_56 : decode cX10_against 56 = .ok (.getfield 167, 3) := by decide +kernel
theorem dX10_against_59 : decode cX10_against 59 = .ok (.ireturn, 1) := by decide +kernel
theorem dX10_against_60 : decode cX10_against 60 = .ok (.aload_n 0, 1) := by decide +kernel
theorem dX10_against_61 : decode cX10_against 61 = .ok (.getfield 79, 3) := by decide +kernel
theorem dX10_against_64 : decode cX10_against 64 = .ok (.getfield 170, 3) := by decide +kernel
theorem dX10_against_67 : decode cX10_against 67 = .ok (.ireturn, 1) := by decide +kernel
theorem dX10_against_68 : decode cX10_against 68 = .ok (.aload_n 0, 1) := by decide +kernel
theorem dX10_against_69 : decode cX10_against 69 = .ok (.getfield 79, 3) := by decide +kernel
theorem dX10_against_72 : decode cX10_against 72 = .ok (.getfield 173, 3) := by decide +kernel
theorem dX10_against_75 : decode cX10_against 75 = .ok (.ireturn, 1) := by decide +kernel
theorem dX10_against_76 : decode cX10_against 76 = .ok (.iconst (-1), 1) := by decide +kernel
theorem dX10_against_77 : decode cX10_against 77 = .ok (.ireturn, 1) := by decide +kernel
theorem dX10_look_0 : decode cX10_look 0 = .ok (.aload_n 0, 1) := by decide +kernel
theorem dX10_look_1 : decode cX10_look 1 = .ok (.iload_n 1, 1) := by decide +kernel
theorem dX10_look_2 : decode cX10_look 2 = .ok (.invokevirtual 110, 3) := by decide +kernel
theorem dX10_look_5 : decode cX10_look 5 = .ok (.astore 4, 2) := by decide +kernel
theorem dX10_look_7 : decode cX10_look 7 = .ok (.aload 4, 2) := by decide +kernel
theorem dX10_look_9 : decode cX10_look 9 = .ok (.ifnull 12, 3) := by decide +kernel
theorem dX10_look_12 : decode cX10_look 12 = .ok (.aload 4, 2) := by decide +kernel
theorem dX10_look_14 : decode cX10_look 14 = .ok (.iload_n 2, 1) := by decide +kernel
theorem dX10_look_15 : decode cX10_look 15 = .ok (.invokevirtual 124, 3) := by decide +kernel
theorem dX10_look_18 : decode cX10_look 18 = .ok (.ifCond .ne 5, 3) := by decide +kernel
theorem dX10_look_21 : decode cX10_look 21 = .ok (.iconst (-1), 1) := by decide +kernel
theorem dX10_look_22 : decode cX10_look 22 = .ok (.ireturn, 1) := by decide +kernel
theorem dX10_look_23 : decode cX10_look 23 = .ok (.iload_n 3, 1) := by decide +kernel
theorem dX10_look_24 : decode cX10_look 24 = .ok (.tableswitch 74 0 3 #[32, 40, 58, 66], 32) := by decide +kernel
theorem dX10_look_56 : decode cX10_look 56 = .ok (.aload 4, 2) := by decide +kernel
theorem dX10_look_58 : decode cX10_look 58 = .ok (.getfield 176, 3) := by decide +kernel
theorem dX10_look_61 : decode cX10_look 61 = .ok (.iload_n 2, 1) := by decide +kernel
theorem dX10_look_62 : decode cX10_look 62 = .ok (.iaload, 1) := by decide +kernel
theorem dX10_look_63 : decode cX10_look 63 = .ok (.ireturn, 1) := by decide +kernel
theorem dX10_look_64 : decode cX10_look 64 = .ok (.aload 4, 2) := by decide +kernel
theorem dX10_look_66 : decode cX10_look 66 = .ok (.getfield 179, 3) := by decide +kernel
theorem dX10_look_69 : decode cX10_look 69 = .ok (.iload_n 2, 1) := by decide +kernel
theorem dX10_look_70 : decode cX10_look 70 = .ok (.iconst 1, 1) := by decide +kernel
theorem dX10_look_71 : decode cX10_look 71 = .ok (.iadd, 1) := by decide +kernel
theorem dX10_look_72 : decode cX10_look 72 = .ok (.iaload, 1) := by decide +kernel
theorem dX10_look_73 : decode cX10_look 73 = .ok (.aload 4, 2) := by decide +kernel
theorem dX10_look_75 : decode cX10_look 75 = .ok (.getfield 179, 3) := by decide +kernel
theorem dX10_look_78 : decode cX10_look 78 = .ok (.iload_n 2, 1) := by decide +kernel
theorem dX10_look_79 : decode cX10_look 79 = .ok (.iaload, 1) := by decide +kernel
theorem dX10_look_80 : decode cX10_look 80 = .ok (.isub, 1) := by decide +kernel
theorem dX10_look_81 : decode cX10_look 81 = .ok (.ireturn, 1) := by decide +kernel
theorem dX10_look_82 : decode cX10_look 82 = .ok (.aload 4, 2) := by decide +kernel
theorem dX10_look_84 : decode cX10_look 84 = .ok (.getfield 179, 3) := by decide +kernel
theorem dX10_look_87 : decode cX10_look 87 = .ok (.iload_n 2, 1) := by decide +kernel
theorem dX10_look_88 : decode cX10_look 88 = .ok (.iaload, 1) := by decide +kernel
theorem dX10_look_89 : decode cX10_look 89 = .ok (.ireturn, 1) := by decide +kernel
theorem dX10_look_90 : decode cX10_look 90 = .ok (.aload 4, 2) := by decide +kernel
theorem dX10_look_92 : decode cX10_look 92 = .ok (.getfield 182, 3) := by decide +kernel
theorem dX10_look_95 : decode cX10_look 95 = .ok (.iload_n 2, 1) := by decide +kernel
theorem dX10_look_96 : decode cX10_look 96 = .ok (.iaload, 1) := by decide +kernel
theorem dX10_look_97 : decode cX10_look 97 = .ok (.ireturn, 1) := by decide +kernel
theorem dX10_look_98 : decode cX10_look 98 = .ok (.iconst (-1), 1) := by decide +kernel
theorem dX10_look_99 : decode cX10_look 99 = .ok (.ireturn, 1) := by decide +kernel
theorem dX10_count_0 : decode cX10_count 0 = .ok (.iload_n 1, 1) := by decide +kernel
theorem dX10_count_1 : decode cX10_count 1 = .ok (.iconst (-1), 1) := by decide +kernel
theorem dX10_count_2 : decode cX10_count 2 = .ok (.if_icmp .ne 9, 3) := by decide +kernel
theorem dX10_count_5 : decode cX10_count 5 = .ok (.aload_n 0, 1) := by decide +kernel
theorem dX10_count_6 : decode cX10_count 6 = .ok (.iload_n 2, 1) := by decide +kernel
theorem dX10_count_7 : decode cX10_count 7 = .ok (.invokevirtual 185, 3) := by decide +kernel
theorem dX10_count_10 : decode cX10_count 10 = .ok (.ireturn, 1) := by decide +kernel
theorem dX10_count_11 : decode cX10_count 11 = .ok (.aload_n 0, 1) := by decide +kernel
theorem dX10_count_12 : decode cX10_count 12 = .ok (.iload_n 1, 1) := by decide +kernel
theorem dX10_count_13 : decode cX10_count 13 = .ok (.invokevirtual 110, 3) := by decide +kernel
theorem dX10_count_16 : decode cX10_count 16 = .ok (.astore_n 3, 1) := by decide +kernel
theorem dX10_count_17 : decode cX10_count 17 = .ok (.aload_n 3, 1) := by decide +kernel
theorem dX10_count_18 : decode cX10_count 18 = .ok (.ifnonnull 5, 3) := by decide +kernel
theorem dX10_count_21 : decode cX10_count 21 = .ok (.iconst (-1), 1) := by decide +kernel
theorem dX10_count_22 : decode cX10_count 22 = .ok (.ireturn, 1) := by decide +kernel
theorem dX10_count_23 : decode cX10_count 23 = .ok (.aload_n 0, 1) := by decide +kernel
theorem dX10_count_24 : decode cX10_count 24 = .ok (.getfield 40, 3) := by decide +kernel
theorem dX10_count_27 : decode cX10_count 27 = .ok (.aload_n 3, 1) := by decide +kernel
theorem dX10_count_28 : decode cX10_count 28 = .ok (.iconst 0, 1) := by decide +kernel
theorem dX10_count_29 : decode cX10_count 29 = .ok (.invokevirtual 154, 3) := by decide +kernel
theorem dX10_count_32 : decode cX10_count 32 = .ok (.iload_n 2, 1) := by decide +kernel
theorem dX10_count_33 : decode cX10_count 33 = .ok (.tableswitch 75 0 4 #[35, 43, 51, 59, 67], 35) := by decide +kernel
theorem dX10_count_68 : decode cX10_count 68 = .ok (.aload_n 0, 1) := by decide +kernel
theorem dX10_count_69 : decode cX10_count 69 = .ok (.getfield 40, 3) := by decide +kernel
theorem dX10_count_72 : decode cX10_count 72 = .ok (.getfield 188, 3) := by decide +kernel
theorem dX10_count_75 : decode cX10_count 75 = .ok (.ireturn, 1) := by decide +kernel
theorem dX10_count_76 : decode cX10_count 76 = .ok (.aload_n 0, 1) := by decide +kernel
theorem dX10_count_77 : decode cX10_count 77 = .ok (.getfield 40, 3) := by decide +kernel
theorem dX10_count_80 : decode cX10_count 80 = .ok (.getfield 191, 3) := by decide +kernel
theorem dX10_count_83 : decode cX10_count 83 = .ok (.ireturn, 1) := by decide +kernel
theorem dX10_count_84 : decode cX10_count 84 = .ok (.aload_n 0, 1) := by decide +kernel
theorem dX10_count_85 : decode cX10_count 85 = .ok (.getfield 40, 3) := by decide +kernel
theorem dX10_count_88 : decode cX10_count 88 = .ok (.getfield 194, 3) := by decide +kernel
theorem dX10_count_91 : decode cX10_count 91 = .ok (.ireturn, 1) := by decide +kernel
theorem dX10_count_92 : decode cX10_count 92 = .ok (.aload_n 0, 1) := by decide +kernel
theorem dX10_count_93 : decode cX10_count 93 = .ok (.getfield 40, 3) := by decide +kernel
theorem dX10_count_96 : decode cX10_count 96 = .ok (.getfield 197, 3) := by decide +kernel
theorem dX10_count_99 : decode cX10_count 99 = .ok (.ireturn, 1) := by decide +kernel
theorem dX10_count_100 : decode cX10_count 100 = .ok (.aload_n 0, 1) := by decide +kernel
theorem dX10_count_101 : decode cX10_count 101 = .ok (.getfield 40, 3) := by decide +kernel
theorem dX10_count_104 : decode cX10_count 104 = .ok (.invokevirtual 200, 3) := by decide +kernel
theorem dX10_count_107 : decode cX10_count 107 = .ok (.ireturn, 1) := by decide +kernel
theorem dX10_count_108 : decode cX10_count 108 = .ok (.iconst (-1), 1) := by decide +kernel
theorem dX10_count_109 : decode cX10_count 109 = .ok (.ireturn, 1) := by decide +kernel
theorem dX10_countOfAll_0 : decode cX10_countOfAll 0 = .ok (.iload_n 1, 1) := by decide +kernel
theorem dX10_countOfAll_1 : decode cX10_countOfAll 1 = .ok (.tableswitch 55 0 2 #[27, 35, 45], 27) := by decide +kernel
theorem dX10_countOfAll_28 : decode cX10_countOfAll 28 = .ok (.aload_n 0, 1) := by decide +kernel
theorem dX10_countOfAll_29 : decode cX10_countOfAll 29 = .ok (.getfield 10, 3) := by decide +kernel
theorem dX10_countOfAll_32 : decode cX10_countOfAll 32 = .ok (.getfield 91, 3) := by decide +kernel
theorem dX10_countOfAll_35 : decode cX10_countOfAll 35 = .ok (.ireturn, 1) := by decide +kernel
theorem dX10_countOfAll_36 : decode cX10_countOfAll 36 = .ok (.aload_n 0, 1) := by decide +kernel
theorem dX10_countOfAll_37 : decode cX10_countOfAll 37 = .ok (.getfield 32, 3) := by decide +kernel
theorem dX10_countOfAll_40 : decode cX10_countOfAll 40 = .ok (.iconst 0, 1) := by decide +kernel
theorem dX10_countOfAll_41 : decode cX10_countOfAll 41 = .ok (.aaload, 1) := by decide +kernel
theorem dX10_countOfAll_42 : decode cX10_countOfAll 42 = .ok (.getfield 203, 3) := by decide +kernel
theorem dX10_countOfAll_45 : decode cX10_countOfAll 45 = .ok (.ireturn, 1) := by decide +kernel
theorem dX10_countOfAll_46 : decode cX10_countOfAll 46 = .ok (.aload_n 0, 1) := by decide +kernel
theorem dX10_countOfAll_47 : decode cX10_countOfAll 47 = .ok (.getfield 32, 3) := by decide +kernel
theorem dX10_countOfAll_50 : decode cX10_countOfAll 50 = .ok (.iconst 1, 1) := by decide +kernel
theorem dX10_countOfAll_51 : decode cX10_countOfAll 51 = .ok (.aaload, 1) := by decide +kernel
theorem dX10_countOfAll_52 : decode cX10_countOfAll 52 = .ok (.getfield 203, 3) := by decide +kernel
theorem dX10_countOfAll_55 : decode cX10_countOfAll 55 = .ok (.ireturn, 1) := by decide +kernel
theorem dX10_countOfAll_56 : decode cX10_countOfAll 56 = .ok (.iconst (-1), 1) := by decide +kernel
theorem dX10_countOfAll_57 : decode cX10_countOfAll 57 = .ok (.ireturn, 1) := by decide +kernel
theorem dX10_cardOf_0 : decode cX10_cardOf 0 = .ok (.iload_n 1, 1) := by decide +kernel
theorem dX10_cardOf_1 : decode cX10_cardOf 1 = .ok (.ifCond .lt 17, 3) := by decide +kernel
theorem dX10_cardOf_4 : decode cX10_cardOf 4 = .ok (.iload_n 1, 1) := by decide +kernel
theorem dX10_cardOf_5 : decode cX10_cardOf 5 = .ok (.iconst 4, 1) := by decide +kernel
theorem dX10_cardOf_6 : decode cX10_cardOf 6 = .ok (.if_icmp .ge 12, 3) := by decide +kernel
theorem dX10_cardOf_9 : decode cX10_cardOf 9 = .ok (.aload_n 0, 1) := by decide +kernel
theorem dX10_cardOf_10 : decode cX10_cardOf 10 = .ok (.getfield 25, 3) := by decide +kernel
theorem dX10_cardOf_13 : decode cX10_cardOf 13 = .ok (.iload_n 1, 1) := by decide +kernel
theorem dX10_cardOf_14 : decode cX10_cardOf 14 = .ok (.aaload, 1) := by decide +kernel
theorem dX10_cardOf_15 : decode cX10_cardOf 15 = .ok (.goto 4, 3) := by decide +kernel
theorem dX10_cardOf_18 : decode cX10_cardOf 18 = .ok (.aconst_null, 1) := by decide +kernel
theorem dX10_cardOf_19 : decode cX10_cardOf 19 = .ok (.areturn, 1) := by decide +kernel
theorem dX10_tripsOf_0 : decode cX10_tripsOf 0 = .ok (.iload_n 1, 1) := by decide +kernel
theorem dX10_tripsOf_1 : decode cX10_tripsOf 1 = .ok (.ifCond .lt 17, 3) := by decide +kernel
theorem dX10_tripsOf_4 : decode cX10_tripsOf 4 = .ok (.iload_n 1, 1) := by decide +kernel
theorem dX10_tripsOf_5 : decode cX10_tripsOf 5 = .ok (.iconst 2, 1) := by decide +kernel
theorem dX10_tripsOf_6 : decode cX10_tripsOf 6 = .ok (.if_icmp .ge 12, 3) := by decide +kernel
theorem dX10_tripsOf_9 : decode cX10_tripsOf 9 = .ok (.aload_n 0, 1) := by decide +kernel
theorem dX10_tripsOf_10 : decode cX10_tripsOf 10 = .ok (.getfield 32, 3) := by decide +kernel
theorem dX10_tripsOf_13 : decode cX10_tripsOf 13 = .ok (.iload_n 1, 1) := by decide +kernel
theorem dX10_tripsOf_14 : decode cX10_tripsOf 14 = .ok (.aaload, 1) := by decide +kernel
theorem dX10_tripsOf_15 : decode cX10_tripsOf 15 = .ok (.goto 4, 3) := by decide +kernel
theorem dX10_tripsOf_18 : decode cX10_tripsOf 18 = .ok (.aconst_null, 1) := by decide +kernel
theorem dX10_tripsOf_19 : decode cX10_tripsOf 19 = .ok (.areturn, 1) := by decide +kernel
theorem dX10_isKind_0 : decode cX10_isKind 0 = .ok (.iload_n 0, 1) := by decide +kernel
theorem dX10_isKind_1 : decode cX10_isKind 1 = .ok (.ifCond .ne 18, 3) := by decide +kernel
theorem dX10_isKind_4 : decode cX10_isKind 4 = .ok (.iload_n 1, 1) := by decide +kernel
theorem dX10_isKind_5 : decode cX10_isKind 5 = .ok (.ifCond .lt 12, 3) := by decide +kernel
theorem dX10_isKind_8 : decode cX10_isKind 8 = .ok (.iload_n 1, 1) := by decide +kernel
theorem dX10_isKind_9 : decode cX10_isKind 9 = .ok (.iconst 2, 1) := by decide +kernel
theorem dX10_isKind_10 : decode cX10_isKind 10 = .ok (.if_icmp .ge 7, 3) := by decide +kernel
theorem dX10_isKind_13 : decode cX10_isKind 13 = .ok (.iconst 1, 1) := by decide +kernel
theorem dX10_isKind_14 : decode cX10_isKind 14 = .ok (.goto 4, 3) := by decide +kernel
theorem dX10_isKind_17 : decode cX10_isKind 17 = .ok (.iconst 0, 1) := by decide +kernel
theorem dX10_isKind_18 : decode cX10_isKind 18 = .ok (.ireturn, 1) := by decide +kernel
theorem dX10_isKind_19 : decode cX10_isKind 19 = .ok (.iload_n 0, 1) := by decide +kernel
theorem dX10_isKind_20 : decode cX10_isKind 20 = .ok (.ifCond .le 12, 3) := by decide +kernel
theorem dX10_isKind_23 : decode cX10_isKind 23 = .ok (.iload_n 0, 1) := by decide +kernel
theorem dX10_isKind_24 : decode cX10_isKind 24 = .ok (.iconst 5, 1) := by decide +kernel
theorem dX10_isKind_25 : decode cX10_isKind 25 = .ok (.if_icmp .ge 7, 3) := by decide +kernel
theorem dX10_isKind_28 : decode cX10_isKind 28 = .ok (.iconst 1, 1) := by decide +kernel
theorem dX10_isKind_29 : decode cX10_isKind 29 = .ok (.goto 4, 3) := by decide +kernel
theorem dX10_isKind_32 : decode cX10_isKind 32 = .ok (.iconst 0, 1) := by decide +kernel
theorem dX10_isKind_33 : decode cX10_isKind 33 = .ok (.ireturn, 1) := by decide +kernel
theorem dX10_findDays_0 : decode cX10_findDays 0 = .ok (.aload_n 0, 1) := by decide +kernel
theorem dX10_findDays_1 : decode cX10_findDays 1 = .ok (.getfield 40, 3) := by decide +kernel
theorem dX10_findDays_4 : decode cX10_findDays 4 = .ok (.aload_n 1, 1) := by decide +kernel
theorem dX10_findDays_5 : decode cX10_findDays 5 = .ok (.iload_n 2, 1) := by decide +kernel
theorem dX10_findDays_6 : decode cX10_findDays 6 = .ok (.invokevirtual 154, 3) := by decide +kernel
theorem dX10_findDays_9 : decode cX10_findDays 9 = .ok (.aload_n 0, 1) := by decide +kernel
theorem dX10_findDays_10 : decode cX10_findDays 10 = .ok (.getfield 65, 3) := by decide +kernel
theorem dX10_findDays_13 : decode cX10_findDays 13 = .ok (.invokevirtual 204, 3) := by decide +kernel
theorem dX10_findDays_16 : decode cX10_findDays 16 = .ok (.aload_n 0, 1) := by decide +kernel
theorem dX10_findDays_17 : decode cX10_findDays 17 = .ok (.getfield 65, 3) := by decide +kernel
theorem dX10_findDays_20 : decode cX10_findDays 20 = .ok (.invokevirtual 207, 3) := by decide +kernel
theorem dX10_findDays_23 : decode cX10_findDays 23 = .ok (.return_, 1) := by decide +kernel
theorem dX10_findBreaches_0 : decode cX10_findBreaches 0 = .ok (.aload_n 0, 1) := by decide +kernel
theorem dX10_findBreaches_1 : decode cX10_findBreaches 1 = .ok (.getfield 72, 3) := by decide +kernel
theorem dX10_findBreaches_4 : decode cX10_findBreaches 4 = .ok (.iconst 0, 1) := by decide +kernel
theorem dX10_findBreaches_5 : decode cX10_findBreaches 5 = .ok (.putfield 145, 3) := by decide +kernel
theorem dX10_findBreaches_8 : decode cX10_findBreaches 8 = .ok (.aload_n 0, 1) := by decide +kernel
theorem dX10_findBreaches_9 : decode cX10_findBreaches 9 = .ok (.getfield 49, 3) := by decide +kernel
theorem dX10_findBreaches_12 : decode cX10_findBreaches 12 = .ok (.aload_n 0, 1) := by decide +kernel
theorem dX10_findBreaches_13 : decode cX10_findBreaches 13 = .ok (.getfield 72, 3) := by decide +kernel
theorem dX10_findBreaches_16 : decode cX10_findBreaches 16 = .ok (.invokevirtual 210, 3) := by decide +kernel
theorem dX10_findBreaches_19 : decode cX10_findBreaches 19 = .ok (.aload_n 0, 1) := by decide +kernel
theorem dX10_findBreaches_20 : decode cX10_findBreaches 20 = .ok (.getfield 56, 3) := by decide +kernel
theorem dX10_findBreaches_23 : decode cX10_findBreaches 23 = .ok (.aload_n 0, 1) := by decide +kernel
theorem dX10_findBreaches_24 : decode cX10_findBreaches 24 = .ok (.getfield 72, 3) := by decide +kernel
theorem dX10_findBreaches_27 : decode cX10_findBreaches 27 = .ok (.aload_n 0, 1) := by decide +kernel
theorem dX10_findBreaches_28 : decode cX10_findBreaches 28 = .ok (.getfield 19, 3) := by decide +kernel
theorem dX10_findBreaches_31 : decode cX10_findBreaches 31 = .ok (.aload_n 0, 1) := by decide +kernel
theorem dX10_findBreaches_32 : decode cX10_findBreaches 32 = .ok (.getfield 40, 3) := by decide +kernel
theorem dX10_findBreaches_35 : decode cX10_findBreaches 35 = .ok (.invokevirtual 214, 3) := by decide +kernel
theorem dX10_findBreaches_38 : decode cX10_findBreaches 38 = .ok (.aload_n 0, 1) := by decide +kernel
theorem dX10_findBreaches_39 : decode cX10_findBreaches 39 = .ok (.invokevirtual 218, 3) := by decide +kernel
theorem dX10_findBreaches_42 : decode cX10_findBreaches 42 = .ok (.return_, 1) := by decide +kernel
theorem dX10_tellOverInWeeks_0 : decode cX10_tellOverInWeeks 0 = .ok (.aload_n 0, 1) := by decide +kernel
theorem dX10_tellOverInWeeks_1 : decode cX10_tellOverInWeeks 1 = .ok (.getfield 19, 3) := by decide +kernel
theorem dX10_tellOverInWeeks_4 : decode cX10_tellOverInWeeks 4 = .ok (.getfield 107, 3) := by decide +kernel
theorem dX10_tellOverInWeeks_7 : decode cX10_tellOverInWeeks 7 = .ok (.bipush 10, 2) := by decide +kernel
theorem dX10_tellOverInWeeks_9 : decode cX10_tellOverInWeeks 9 = .ok (.iaload, 1) := by decide +kernel
theorem dX10_tellOverInWeeks_10 : decode cX10_tellOverInWeeks 10 = .ok (.istore_n 1, 1) := by decide +kernel
theorem dX10_tellOverInWeeks_11 : decode cX10_tellOverInWeeks 11 = .ok (.iconst 0, 1) := by decide +kernel
theorem dX10_tellOverInWeeks_12 : decode cX10_tellOverInWeeks 12 = .ok (.istore_n 2, 1) := by decide +kernel
theorem dX10_tellOverInWeeks_13 : decode cX10_tellOverInWeeks 13 = .ok (.iload_n 2, 1) := by decide +kernel
theorem dX10_tellOverInWeeks_14 : decode cX10_tellOverInWeeks 14 = .ok (.iconst 2, 1) := by decide +kernel
theorem dX10_tellOverInWeeks_15 : decode cX10_tellOverInWeeks 15 = .ok (.if_icmp .ge 67, 3) := by decide +kernel
theorem dX10_tellOverInWeeks_18 : decode cX10_tellOverInWeeks 18 = .ok (.aload_n 0, 1) := by decide +kernel
theorem dX10_tellOverInWeeks_19 : decode cX10_tellOverInWeeks 19 = .ok (.getfield 40, 3) := by decide +kernel
theorem dX10_tellOverInWeeks_22 : decode cX10_tellOverInWeeks 22 = .ok (.iload_n 2, 1) := by decide +kernel
theorem dX10_tellOverInWeeks_23 : decode cX10_tellOverInWeeks 23 = .ok (.sipush 10080, 3) := by decide +kernel
theorem dX10_tellOverInWeeks_26 : decode cX10_tellOverInWeeks 26 = .ok (.imul, 1) := by decide +kernel
theorem dX10_tellOverInWeeks_27 : decode cX10_tellOverInWeeks 27 = .ok (.invokevirtual 221, 3) := by decide +kernel
theorem dX10_tellOverInWeeks_30 : decode cX10_tellOverInWeeks 30 = .ok (.istore_n 3, 1) := by decide +kernel
theorem dX10_tellOverInWeeks_31 : decode cX10_tellOverInWeeks 31 = .ok (.aload_n 0, 1) := by decide +kernel
theorem dX10_tellOverInWeeks_32 : decode cX10_tellOverInWeeks 32 = .ok (.getfield 40, 3) := by decide +kernel
theorem dX10_tellOverInWeeks_35 : decode cX10_tellOverInWeeks 35 = .ok (.iload_n 2, 1) := by decide +kernel
theorem dX10_tellOverInWeeks_36 : decode cX10_tellOverInWeeks 36 = .ok (.iconst 1, 1) := by decide +kernel
theorem dX10_tellOverInWeeks_37 : decode cX10_tellOverInWeeks 37 = .ok (.iadd, 1) := by decide +kernel
theorem dX10_tellOverInWeeks_38 : decode cX10_tellOverInWeeks 38 = .ok (.sipush 10080, 3) := by decide +kernel
theorem dX10_tellOverInWeeks_41 : decode cX10_tellOverInWeeks 41 = .ok (.imul, 1) := by decide +kernel
theorem dX10_tellOverInWeeks_42 : decode cX10_tellOverInWeeks 42 = .ok (.invokevirtual 221, 3) := by decide +kernel
theorem dX10_tellOverInWeeks_45 : decode cX10_tellOverInWeeks 45 = .ok (.iload_n 3, 1) := by decide +kernel
theorem dX10_tellOverInWeeks_46 : decode cX10_tellOverInWeeks 46 = .ok (.isub, 1) := by decide +kernel
theorem dX10_tellOverInWeeks_47 : decode cX10_tellOverInWeeks 47 = .ok (.iload_n 1, 1) := by decide +kernel
theorem dX10_tellOverInWeeks_48 : decode cX10_tellOverInWeeks 48 = .ok (.isub, 1) := by decide +kernel
theorem dX10_tellOverInWeeks_49 : decode cX10_tellOverInWeeks 49 = .ok (.istore 4, 2) := by decide +kernel
theorem dX10_tellOverInWeeks_51 : decode cX10_tellOverInWeeks 51 = .ok (.iload 4, 2) := by decide +kernel
theorem dX10_tellOverInWeeks_53 : decode cX10_tellOverInWeeks 53 = .ok (.ifCond .le 23, 3) := by decide +kernel
theorem dX10_tellOverInWeeks_56 : decode cX10_tellOverInWeeks 56 = .ok (.aload_n 0, 1) := by decide +kernel
theorem dX10_tellOverInWeeks_57 : decode cX10_tellOverInWeeks 57 = .ok (.getfield 72, 3) := by decide +kernel
theorem dX10_tellOverInWeeks_60 : decode cX10_tellOverInWeeks 60 = .ok (.aload_n 0, 1) := by decide +kernel
theorem dX10_tellOverInWeeks_61 : decode cX10_tellOverInWeeks 61 = .ok (.getfield 40, 3) := by decide +kernel
theorem dX10_tellOverInWeeks_64 : decode cX10_tellOverInWeeks 64 = .ok (.iload_n 3, 1) := by decide +kernel
theorem dX10_tellOverInWeeks_65 : decode cX10_tellOverInWeeks 65 = .ok (.iload_n 1, 1) := by decide +kernel
theorem dX10_tellOverInWeeks_66 : decode cX10_tellOverInWeeks 66 = .ok (.iadd, 1) := by decide +kernel
theorem dX10_tellOverInWeeks_67 : decode cX10_tellOverInWeeks 67 = .ok (.invokevirtual 224, 3) := by decide +kernel
theorem dX10_tellOverInWeeks_70 : decode cX10_tellOverInWeeks 70 = .ok (.iconst 4, 1) := by decide +kernel
theorem dX10_tellOverInWeeks_71 : decode cX10_tellOverInWeeks 71 = .ok (.iload 4, 2) := by decide +kernel
theorem dX10_tellOverInWeeks_73 : decode cX10_tellOverInWeeks 73 = .ok (.invokevirtual 227, 3) := by decide +kernel
theorem dX10_tellOverInWeeks_76 : decode cX10_tellOverInWeeks 76 = .ok (.iinc 2 1, 3) := by decide +kernel
theorem dX10_tellOverInWeeks_79 : decode cX10_tellOverInWeeks 79 = .ok (.goto (-66), 3) := by decide +kernel
theorem dX10_tellOverInWeeks_82 : decode cX10_tellOverInWeeks 82 = .ok (.return_, 1) := by decide +kernel
theorem dX11_init_0 : decode cX11_init 0 = .ok (.aload_n 0, 1) := by decide +kernel
theorem dX11_init_1 : decode cX11_init 1 = .ok (.invokespecial 1, 3) := by decide +kernel
theorem dX11_init_4 : decode cX11_init 4 = .ok (.aload_n 0, 1) := by decide +kernel
theorem dX11_init_5 : decode cX11_init 5 = .ok (.bipush 80, 2) := by decide +kernel
theorem dX11_init_7 : decode cX11_init 7 = .ok (.newarray .byte, 2) := by decide +kernel
theorem dX11_init_9 : decode cX11_init 9 = .ok (.putfield 7, 3) := by decide +kernel
theorem dX11_init_12 : decode cX11_init 12 = .ok (.aload_n 0, 1) := by decide +kernel
theorem dX11_init_13 : decode cX11_init 13 = .ok (.bipush 11, 2) := by decide +kernel
theorem dX11_init_15 : decode cX11_init 15 = .ok (.newarray .int, 2) := by decide +kernel
theorem dX11_init_17 : decode cX11_init 17 = .ok (.putfield 13, 3) := by decide +kernel
theorem dX11_init_20 : decode cX11_init 20 = .ok (.aload_n 0, 1) := by decide +kernel
theorem dX11_init_21 : decode cX11_init 21 = .ok (.bipush 11, 2) := by decide +kernel
theorem dX11_init_23 : decode cX11_init 23 = .ok (.newarray .int, 2) := by decide +kernel
theorem dX11_init_25 : decode cX11_init 25 = .ok (.putfield 17, 3) := by decide +kernel
theorem dX11_init_28 : decode cX11_init 28 = .ok (.aload_n 0, 1) := by decide +kernel
theorem dX11_init_29 : decode cX11_init 29 = .ok (.iconst 4, 1) := by decide +kernel
theorem dX11_init_30 : decode cX11_init 30 = .ok (.newarray .int, 2) := by decide +kernel
theorem dX11_init_32 : decode cX11_init 32 = .ok (.putfield 20, 3) := by decide +kernel
theorem dX11_init_35 : decode cX11_init 35 = .ok (.aload_n 0, 1) := by decide +kernel
theorem dX11_init_36 : decode cX11_init 36 = .ok (.iconst 4, 1) := by decide +kernel
theorem dX11_init_37 : decode cX11_init 37 = .ok (.newarray .int, 2) := by decide +kernel
theorem dX11_init_39 : decode cX11_init 39 = .ok (.putfield 23, 3) := by decide +kernel
theorem dX11_init_42 : decode cX11_init 42 = .ok (.aload_n 0, 1) := by decide +kernel
theorem dX11_init_43 : decode cX11_init 43 = .ok (.sipush 240, 3) := by decide +kernel
theorem dX11_init_46 : decode cX11_init 46 = .ok (.newarray .int, 2) := by decide +kernel
theorem dX11_init_48 : decode cX11_init 48 = .ok (.putfield 26, 3) := by decide +kernel
theorem dX11_init_51 : decode cX11_init 51 = .ok (.aload_n 0, 1) := by decide +kernel
theorem dX11_init_52 : decode cX11_init 52 = .ok (.sipush 240, 3) := by decide +kernel
theorem dX11_init_55 : decode cX11_init 55 = .ok (.newarray .int, 2) := by decide +kernel
theorem dX11_init_57 : decode cX11_init 57 = .ok (.putfield 29, 3) := by decide +kernel
theorem dX11_init_60 : decode cX11_init 60 = .ok (.aload_n 0, 1) := by decide +kernel
theorem dX11_init_61 : decode cX11_init 61 = .ok (.sipush 240, 3) := by decide +kernel
theorem dX11_init_64 : decode cX11_init 64 = .ok (.newarray .int, 2) := by decide +kernel
theorem dX11_init_66 : decode cX11_init 66 = .ok (.putfield 32, 3) := by decide +kernel
theorem dX11_init_69 : decode cX11_init 69 = .ok (.aload_n 0, 1) := by decide +kernel
theorem dX11_init_70 : decode cX11_init 70 = .ok (.iconst 2, 1) := by decide +kernel
theorem dX11_init_71 : decode cX11_init 71 = .ok (.newarray .int, 2) := by decide +kernel
theorem dX11_init_73 : decode cX11_init 73 = .ok (.putfield 35, 3) := by decide +kernel
theorem dX11_init_76 : decode cX11_init 76 = .ok (.aload_n 0, 1) := by decide +kernel
theorem dX11_init_77 : decode cX11_init 77 = .ok (.bipush 40, 2) := by decide +kernel
theorem dX11_init_79 : decode cX11_init 79 = .ok (.newarray .int, 2) := by decide +kernel
theorem dX11_init_81 : decode cX11_init 81 = .ok (.putfield 38, 3) := by decide +kernel
theorem dX11_init_84 : decode cX11_init 84 = .ok (.aload_n 0, 1) := by decide +kernel
theorem dX11_init_85 : decode cX11_init 85 = .ok (.bipush 40, 2) := by decide +kernel
theorem dX11_init_87 : decode cX11_init 87 = .ok (.newarray .int, 2) := by decide +kernel
theorem dX11_init_89 : decode cX11_init 89 = .ok (.putfield 41, 3) := by decide +kernel
theorem dX11_init_92 : decode cX11_init 92 = .ok (.aload_n 0, 1) := by decide +kernel
theorem dX11_init_93 : decode cX11_init 93 = .ok (.sipush 20160, 3) := by decide +kernel
theorem dX11_init_96 : decode cX11_init 96 = .ok (.newarray .int, 2) := by decide +kernel
theorem dX11_init_98 : decode cX11_init 98 = .ok (.putfield 44, 3) := by decide +kernel
theorem dX11_init_101 : decode cX11_init 101 = .ok (.aload_n 0, 1) := by decide +kernel
theorem dX11_init_102 : decode cX11_init 102 = .ok (.sipush 20161, 3) := by decide +kernel
theorem dX11_init_105 : decode cX11_init 105 = .ok (.newarray .int, 2) := by decide +kernel
theorem dX11_init_107 : decode cX11_init 107 = .ok (.putfield 47, 3) := by decide +kernel
theorem dX11_init_110 : decode cX11_init 110 = .ok (.aload_n 0, 1) := by decide +kernel
theorem dX11_init_111 : decode cX11_init 111 = .ok (.bipush 60, 2) := by decide +kernel
theorem dX11_init_113 : decode cX11_init 113 = .ok (.newarray .int, 2) := by decide +kernel
theorem dX11_init_115 : decode cX11_init 115 = .ok (.putfield 50, 3) := by decide +kernel
theorem dX11_init_118 : decode cX11_init 118 = .ok (.aload_n 0, 1) := by decide +kernel
theorem dX11_init_119 : decode cX11_init 119 = .ok (.bipush 60, 2) := by decide +kernel
theorem dX11_init_121 : decode cX11_init 121 = .ok (.newarray .int, 2) := by decide +kernel
theorem dX11_init_123 : decode cX11_init 123 = .ok (.putfield 53, 3) := by decide +kernel
theorem dX11_init_126 : decode cX11_init 126 = .ok (.aload_n 0, 1) := by decide +kernel
theorem dX11_init_127 : decode cX11_init 127 = .ok (.sipush 400, 3) := by decide +kernel
theorem dX11_init_130 : decode cX11_init 130 = .ok (.newarray .int, 2) := by decide +kernel
theorem dX11_init_132 : decode cX11_init 132 = .ok (.putfield 56, 3) := by decide +kernel
theorem dX11_init_135 : decode cX11_init 135 = .ok (.aload_n 0, 1) := by decide +kernel
theorem dX11_init_136 : decode cX11_init 136 = .ok (.sipush 400, 3) := by decide +kernel
theorem dX11_init_139 : decode cX11_init 139 = .ok (.newarray .int, 2) := by decide +kernel
theorem dX11_init_141 : decode cX11_init 141 = .ok (.putfield 59, 3) := by decide +kernel
theorem dX11_init_144 : decode cX11_init 144 = .ok (.aload_n 0, 1) := by decide +kernel
theorem dX11_init_145 : decode cX11_init 145 = .ok (.sipush 400, 3) := by decide +kernel
theorem dX11_init_148 : decode cX11_init 148 = .ok (.newarray .int, 2) := by decide +kernel
theorem dX11_init_150 : decode cX11_init 150 = .ok (.putfield 62, 3) := by decide +kernel
theorem dX11_init_153 : decode cX11_init 153 = .ok (.aload_n 0, 1) := by decide +kernel
theorem dX11_init_154 : decode cX11_init 154 = .ok (.bipush 12, 2) := by decide +kernel
theorem dX11_init_156 : decode cX11_init 156 = .ok (.newarray .int, 2) := by decide +kernel
theorem dX11_init_158 : decode cX11_init 158 = .ok (.putfield 65, 3) := by decide +kernel
theorem dX11_init_161 : decode cX11_init 161 = .ok (.aload_n 0, 1) := by decide +kernel
theorem dX11_init_162 : decode cX11_init 162 = .ok (.bipush 62, 2) := by decide +kernel
theorem dX11_init_164 : decode cX11_init 164 = .ok (.newarray .int, 2) := by decide +kernel
theorem dX11_init_166 : decode cX11_init 166 = .ok (.putfield 68, 3) := by decide +kernel
theorem dX11_init_169 : decode cX11_init 169 = .ok (.aload_n 0, 1) := by decide +kernel
theorem dX11_init_170 : decode cX11_init 170 = .ok (.bipush 62, 2) := by decide +kernel
theorem dX11_init_172 : decode cX11_init 172 = .ok (.newarray .int, 2) := by decide +kernel
theorem dX11_init_174 : decode cX11_init 174 = .ok (.putfield 71, 3) := by decide +kernel
theorem dX11_init_177 : decode cX11_init 177 = .ok (.aload_n 0, 1) := by decide +kernel
theorem dX11_init_178 : decode cX11_init 178 = .ok (.bipush 62, 2) := by decide +kernel
theorem dX11_init_180 : decode cX11_init 180 = .ok (.newarray .int, 2) := by decide +kernel
theorem dX11_init_182 : decode cX11_init 182 = .ok (.putfield 74, 3) := by decide +kernel
theorem dX11_init_185 : decode cX11_init 185 = .ok (.aload_n 0, 1) := by decide +kernel
theorem dX11_init_186 : decode cX11_init 186 = .ok (.bipush 62, 2) := by decide +kernel
theorem dX11_init_188 : decode cX11_init 188 = .ok (.newarray .boolean, 2) := by decide +kernel
theorem dX11_init_190 : decode cX11_init 190 = .ok (.putfield 77, 3) := by decide +kernel
theorem dX11_init_193 : decode cX11_init 193 = .ok (.aload_n 0, 1) := by decide +kernel
theorem dX11_init_194 : decode cX11_init 194 = .ok (.sipush 20160, 3) := by decide +kernel
theorem dX11_init_197 : decode cX11_init 197 = .ok (.newarray .int, 2) := by decide +kernel
theorem dX11_init_199 : decode cX11_init 199 = .ok (.putfield 81, 3) := by decide +kernel
theorem dX11_init_202 : decode cX11_init 202 = .ok (.aload_n 0, 1) := by decide +kernel
theorem dX11_init_203 : decode cX11_init 203 = .ok (.getfield 13, 3) := by decide +kernel
theorem dX11_init_206 : decode cX11_init 206 = .ok (.invokestatic 84, 3) := by decide +kernel
theorem dX11_init_209 : decode cX11_init 209 = .ok (.return_, 1) := by decide +kernel
theorem dX11_begins_0 : decode cX11_begins 0 = .ok (.aload_n 0, 1) := by decide +kernel
theorem dX11_begins_1 : decode cX11_begins 1 = .ok (.iconst 0, 1) := by decide +kernel
theorem dX11_begins_2 : decode cX11_begins 2 = .ok (.sipush 270, 3) := by decide +kernel
theorem dX11_begins_5 : decode cX11_begins 5 = .ok (.iastore, 1) := by decide +kernel
theorem dX11_begins_6 : decode cX11_begins 6 = .ok (.aload_n 0, 1) := by decide +kernel
theorem dX11_begins_7 : decode cX11_begins 7 = .ok (.iconst 1, 1) := by decide +kernel
theorem dX11_begins_8 : decode cX11_begins 8 = .ok (.bipush 45, 2) := by decide +kernel
theorem dX11_begins_10 : decode cX11_begins 10 = .ok (.iastore, 1) := by decide +kernel
theorem dX11_begins_11 : decode cX11_begins 11 = .ok (.aload_n 0, 1) := by decide +kernel
theorem dX11_begins_12 : decode cX11_begins 12 = .ok (.iconst 2, 1) := by decide +kernel
theorem dX11_begins_13 : decode cX11_begins 13 = .ok (.bipush 15, 2) := by decide +kernel
theorem dX11_begins_15 : decode cX11_begins 15 = .ok (.iastore, 1) := by decide +kernel
theorem dX11_begins_16 : decode cX11_begins 16 = .ok (.aload_n 0, 1) := by decide +kernel
theorem dX11_begins_17 : decode cX11_begins 17 = .ok (.iconst 3, 1) := by decide +kernel
theorem dX11_begins_18 : decode cX11_begins 18 = .ok (.bipush 30, 2) := by decide +kernel
theorem dX11_begins_20 : decode cX11_begins 20 = .ok (.iastore, 1) := by decide +kernel
theorem dX11_begins_21 : decode cX11_begins 21 = .ok (.aload_n 0, 1) := by decide +kernel
theorem dX11_begins_22 : decode cX11_begins 22 = .ok (.iconst 4, 1) := by decide +kernel
theorem dX11_begins_23 : decode cX11_begins 23 = .ok (.sipush 540, 3) := by decide +kernel
theorem dX11_begins_26 : decode cX11_begins 26 = .ok (.iastore, 1) := by decide +kernel
theorem dX11_begins_27 : decode cX11_begins 27 = .ok (.aload_n 0, 1) := by decide +kernel
theorem dX11_begins_28 : decode cX11_begins 28 = .ok (.iconst 5, 1) := by decide +kernel
theorem dX11_begins_29 : decode cX11_begins 29 = .ok (.sipush 600, 3) := by decide +kernel
theorem dX11_begins_32 : decode cX11_begins 32 = .ok (.iastore, 1) := by decide +kernel
theorem dX11_begins_33 : decode cX11_begins 33 = .ok (.aload_n 0, 1) := by decide +kernel
theorem dX11_begins_34 : decode cX11_begins 34 = .ok (.bipush 6, 2) := by decide +kernel
theorem dX11_begins_36 : decode cX11_begins 36 = .ok (.iconst 2, 1) := by decide +kernel
theorem dX11_begins_37 : decode cX11_begins 37 = .ok (.iastore, 1) := by decide +kernel
theorem dX11_begins_38 : decode cX11_begins 38 = .ok (.aload_n 0, 1) := by decide +kernel
theorem dX11_begins_39 : decode cX11_begins 39 = .ok (.bipush 7, 2) := by decide +kernel
theorem dX11_begins_41 : decode cX11_begins 41 = .ok (.sipush 660, 3) := by decide +kernel
theorem dX11_begins_44 : decode cX11_begins 44 = .ok (.iastore, 1) := by decide +kernel
theorem dX11_begins_45 : decode cX11_begins 45 = .ok (.aload_n 0, 1) := by decide +kernel
theorem dX11_begins_46 : decode cX11_begins 46 = .ok (.bipush 8, 2) := by decide +kernel
theorem dX11_begins_48 : decode cX11_begins 48 = .ok (.sipush 540, 3) := by decide +kernel
theorem dX11_begins_51 : decode cX11_begins 51 = .ok (.iastore, 1) := by decide +kernel
theorem dX11_begins_52 : decode cX11_begins 52 = .ok (.aload_n 0, 1) := by decide +kernel
theorem dX11_begins_53 : decode cX11_begins 53 = .ok (.bipush 9, 2) := by decide +kernel
theorem dX11_begins_55 : decode cX11_begins 55 = .ok (.iconst 3, 1) := by decide +kernel
theorem dX11_begins_56 : decode cX11_begins 56 = .ok (.iastore, 1) := by decide +kernel
theorem dX11_begins_57 : decode cX11_begins 57 = .ok (.aload_n 0, 1) := by decide +kernel
theorem dX11_begins_58 : decode cX11_begins 58 = .ok (.bipush 10, 2) := by decide +kernel
theorem dX11_begins_60 : decode cX11_begins 60 = .ok (.sipush 3360, 3) := by decide +kernel
theorem dX11_begins_63 : decode cX11_begins 63 = .ok (.iastore, 1) := by decide +kernel
theorem dX11_begins_64 : decode cX11_begins 64 = .ok (.return_, 1) := by decide +kernel
theorem dX11_types_0 : decode cX11_types 0 = .ok (.iconst 3, 1) := by decide +kernel
theorem dX11_types_1 : decode cX11_types 1 = .ok (.istore_n 2, 1) := by decide +kernel
theorem dX11_types_2 : decode cX11_types 2 = .ok (.iload_n 2, 1) := by decide +kernel
theorem dX11_types_3 : decode cX11_types 3 = .ok (.ifCond .lt 35, 3) := by decide +kernel
theorem dX11_types_6 : decode cX11_types 6 = .ok (.aload_n 0, 1) := by decide +kernel
theorem dX11_types_7 : decode cX11_types 7 = .ok (.getfield 7, 3) := by decide +kernel
theorem dX11_types_10 : decode cX11_types 10 = .ok (.aload_n 0, 1) := by decide +kernel
theorem dX11_types_11 : decode cX11_types 11 = .ok (.getfield 88, 3) := by decide +kernel
theorem dX11_types_14 : decode cX11_types 14 = .ok (.iload_n 1, 1) := by decide +kernel
theorem dX11_types_15 : decode cX11_types 15 = .ok (.bipush 8, 2) := by decide +kernel
theorem dX11_types_17 : decode cX11_types 17 = .ok (.iload_n 2, 1) := by decide +kernel
theorem dX11_types_18 : decode cX11_types 18 = .ok (.imul, 1) := by decide +kernel
theorem dX11_types_19 : decode cX11_types 19 = .ok (.ishr, 1) := by decide +kernel
theorem dX11_types_20 : decode cX11_types 20 = .ok (.i2b, 1) := by decide +kernel
theorem dX11_types_21 : decode cX11_types 21 = .ok (.bastore, 1) := by decide +kernel
theorem dX11_types_22 : decode cX11_types 22 = .ok (.aload_n 0, 1) := by decide +kernel
theorem dX11_types_23 : decode cX11_types 23 = .ok (.aload_n 0, 1) := by decide +kernel
theorem dX11_types_24 : decode cX11_types 24 = .ok (.getfield 88, 3) := by decide +kernel
theorem dX11_types_27 : decode cX11_types 27 = .ok (.iconst 1, 1) := by decide +kernel
theorem dX11_types_28 : decode cX11_types 28 = .ok (.iadd, 1) := by decide +kernel
theorem dX11_types_29 : decode cX11_types 29 = .ok (.putfield 88, 3) := by decide +kernel
theorem dX11_types_32 : decode cX11_types 32 = .ok (.iinc 2 (-1), 3) := by decide +kernel
theorem dX11_types_35 : decode cX11_types 35 = .ok (.goto (-33), 3) := by decide +kernel
theorem dX11_types_38 : decode cX11_types 38 = .ok (.return_, 1) := by decide +kernel
theorem dX11_feed_0 : decode cX11_feed 0 = .ok (.aload_n 0, 1) := by decide +kernel
theorem dX11_feed_1 : decode cX11_feed 1 = .ok (.getfield 88, 3) := by decide +kernel
theorem dX11_feed_4 : decode cX11_feed 4 = .ok (.bipush 20, 2) := by decide +kernel
theorem dX11_feed_6 : decode cX11_feed 6 = .ok (.iadd, 1) := by decide +kernel
theorem dX11_feed_7 : decode cX11_feed 7 = .ok (.bipush 80, 2) := by decide +kernel
theorem dX11_feed_9 : decode cX11_feed 9 = .ok (.if_icmp .le 5, 3) := by decide +kernel
theorem dX11_feed_12 : decode cX11_feed 12 = .ok (.iconst (-1), 1) := by decide +kernel
theorem dX11_feed_13 : decode cX11_feed 13 = .ok (.ireturn, 1) := by decide +kernel
theorem dX11_feed_14 : decode cX11_feed 14 = .ok (.aload_n 0, 1) := by decide +kernel
theorem dX11_feed_15 : decode cX11_feed 15 = .ok (.iload_n 1, 1) := by decide +kernel
theorem dX11_feed_16 : decode cX11_feed 16 = .ok (.invokevirtual 92, 3) := by decide +kernel
theorem dX11_feed_19 : decode cX11_feed 19 = .ok (.aload_n 0, 1) := by decide +kernel
theorem dX11_feed_20 : decode cX11_feed 20 = .ok (.iload_n 2, 1) := by decide +kernel
theorem dX11_feed_21 : decode cX11_feed 21 = .ok (.invokevirtual 92, 3) := by decide +kernel
theorem dX11_feed_24 : decode cX11_feed 24 = .ok (.aload_n 0, 1) := by decide +kernel
theorem dX11_feed_25 : decode cX11_feed 25 = .ok (.iload_n 3, 1) := by decide +kernel
theorem dX11_feed_26 : decode cX11_feed 26 = .ok (.invokevirtual 92, 3) := by decide +kernel
theorem dX11_feed_29 : decode cX11_feed 29 = .ok (.aload_n 0, 1) := by decide +kernel
theorem dX11_feed_30 : decode cX11_feed 30 = .ok (.iload 4, 2) := by decide +kernel
theorem dX11_feed_32 : decode cX11_feed 32 = .ok (.invokevirtual 92, 3) := by decide +kernel
theorem dX11_feed_35 : decode cX11_feed 35 = .ok (.aload_n 0, 1) := by decide +kernel
theorem dX11_feed_36 : decode cX11_feed 36 = .ok (.iload 5, 2) := by decide +kernel
theorem dX11_feed_38 : decode cX11_feed 38 = .ok (.invokevirtual 92, 3) := by decide +kernel
theorem dX11_feed_41 : decode cX11_feed 41 = .ok (.aload_n 0, 1) := by decide +kernel
theorem dX11_feed_42 : decode cX11_feed 42 = .ok (.getfield 88, 3) := by decide +kernel
theorem dX11_feed_45 : decode cX11_feed 45 = .ok (.ireturn, 1) := by decide +kernel
theorem dX11_letterOf_0 : decode cX11_letterOf 0 = .ok (.iload_n 0, 1) := by decide +kernel
theorem dX11_letterOf_1 : decode cX11_letterOf 1 = .ok (.tableswitch 138 98 121 #[113, 111, 119, 121, 138, 138, 138, 138, 138, 138, 138, 138, 138, 138, 138, 129, 126, 115, 117, 138, 138, 135, 123, 132], 111) := by decide +kernel
theorem dX11_letterOf_112 : decode cX11_letterOf 112 = .ok (.iconst 0, 1) := by decide +kernel
theorem dX11_letterOf_113 : decode cX11_letterOf 113 = .ok (.ireturn, 1) := by decide +kernel
theorem dX11_letterOf_114 : decode cX11_letterOf 114 = .ok (.iconst 1, 1) := by decide +kernel
theorem dX11_letterOf_115 : decode cX11_letterOf 115 = .ok (.ireturn, 1) := by decide +kernel
theorem dX11_letterOf_116 : decode cX11_letterOf 116 = .ok (.iconst 2, 1) := by decide +kernel
theorem dX11_letterOf_117 : decode cX11_letterOf 117 = .ok (.ireturn, 1) := by decide +kernel
theorem dX11_letterOf_118 : decode cX11_letterOf 118 = .ok (.iconst 3, 1) := by decide +kernel
theorem dX11_letterOf_119 : decode cX11_letterOf 119 = .ok (.ireturn, 1) := by decide +kernel
theorem dX11_letterOf_120 : decode cX11_letterOf 120 = .ok (.iconst 4, 1) := by decide +kernel
theorem dX11_letterOf_121 : decode cX11_letterOf 121 = .ok (.ireturn, 1) := by decide +kernel
theorem dX11_letterOf_122 : decode cX11_letterOf 122 = .ok (.iconst 5, 1) := by decide +kernel
theorem dX11_letterOf_123 : decode cX11_letterOf 123 = .ok (.ireturn, 1) := by decide +kernel
theorem dX11_letterOf_124 : decode cX11_letterOf 124 = .ok (.bipush 6, 2) := by decide +kernel
theorem dX11_letterOf_126 : decode cX11_letterOf 126 = .ok (.ireturn, 1) := by decide +kernel
theorem dX11_letterOf_127 : decode cX11_letterOf 127 = .ok (.bipush 7, 2) := by decide +kernel
theorem dX11_letterOf_129 : decode cX11_letterOf 129 = .ok (.ireturn, 1) := by decide +kernel
theorem dX11_letterOf_130 : decode cX11_letterOf 130 = .ok (.bipush 8, 2) := by decide +kernel
theorem dX11_letterOf_132 : decode cX11_letterOf 132 = .ok (.ireturn, 1) := by decide +kernel
theorem dX11_letterOf_133 : decode cX11_letterOf 133 = .ok (.bipush 9, 2) := by decide +kernel
theorem dX11_letterOf_135 : decode cX11_letterOf 135 = .ok (.ireturn, 1) := by decide +kernel
theorem dX11_letterOf_136 : decode cX11_letterOf 136 = .ok (.bipush 10, 2) := by decide +kernel
theorem dX11_letterOf_138 : decode cX11_letterOf 138 = .ok (.ireturn, 1) := by decide +kernel
theorem dX11_letterOf_139 : decode cX11_letterOf 139 = .ok (.iconst (-1), 1) := by decide +kernel
theorem dX11_letterOf_140 : decode cX11_letterOf 140 = .ok (.ireturn, 1) := by decide +kernel
theorem dX11_canBe_0 : decode cX11_canBe 0 = .ok (.iload_n 0, 1) := by decide +kernel
theorem dX11_canBe_1 : decode cX11_canBe 1 = .ok (.bipush 6, 2) := by decide +kernel
theorem dX11_canBe_3 : decode cX11_canBe 3 = .ok (.if_icmp .eq 9, 3) := by decide +kernel
theorem dX11_canBe_6 : decode cX11_canBe 6 = .ok (.iload_n 0, 1) := by decide +kernel
theorem dX11_canBe_7 : decode cX11_canBe 7 = .ok (.bipush 9, 2) := by decide +kernel
theorem dX11_canBe_9 : decode cX11_canBe 9 = .ok (.if_icmp .ne 17, 3) := by decide +kernel
theorem dX11_canBe_12 : decode cX11_canBe 12 = .ok (.iload_n 1, 1) := by decide +kernel
theorem dX11_canBe_13 : decode cX11_canBe 13 = .ok (.bipush 99, 2) := by decide +kernel
theorem dX11_canBe_15 : decode cX11_canBe 15 = .ok (.if_icmp .gt 7, 3) := by decide +kernel
theorem dX11_canBe_18 : decode cX11_canBe 18 = .ok (.iconst 1, 1) := by decide +kernel
theorem dX11_canBe_19 : decode cX11_canBe 19 = .ok (.goto 17, 3) := by decide +kernel
theorem dX11_canBe_22 : decode cX11_canBe 22 = .ok (.iconst 0, 1) := by decide +kernel
theorem dX11_canBe_23 : decode cX11_canBe 23 = .ok (.goto 13, 3) := by decide +kernel
theorem dX11_canBe_26 : decode cX11_canBe 26 = .ok (.iload_n 1, 1) := by decide +kernel
theorem dX11_canBe_27 : decode cX11_canBe 27 = .ok (.iconst 1, 1) := by decide +kernel
theorem dX11_canBe_28 : decode cX11_canBe 28 = .ok (.if_icmp .lt 7, 3) := by decide +kernel
theorem dX11_canBe_31 : decode cX11_canBe 31 = .ok (.iconst 1, 1) := by decide +kernel
theorem dX11_canBe_32 : decode cX11_canBe 32 = .ok (.goto 4, 3) := by decide +kernel
theorem dX11_canBe_35 : decode cX11_canBe 35 = .ok (.iconst 0, 1) := by decide +kernel
theorem dX11_canBe_36 : decode cX11_canBe 36 = .ok (.ireturn, 1) := by decide +kernel
theorem dX11_isDigit_0 : decode cX11_isDigit 0 = .ok (.iload_n 1, 1) := by decide +kernel
theorem dX11_isDigit_1 : decode cX11_isDigit 1 = .ok (.iload_n 2, 1) := by decide +kernel
theorem dX11_isDigit_2 : decode cX11_isDigit 2 = .ok (.if_icmp .ge 29, 3) := by decide +kernel
theorem dX11_isDigit_5 : decode cX11_isDigit 5 = .ok (.aload_n 0, 1) := by decide +kernel
theorem dX11_isDigit_6 : decode cX11_isDigit 6 = .ok (.getfield 7, 3) := by decide +kernel
theorem dX11_isDigit_9 : decode cX11_isDigit 9 = .ok (.iload_n 1, 1) := by decide +kernel
theorem dX11_isDigit_10 : decode cX11_isDigit 10 = .ok (.baload, 1) := by decide +kernel
theorem dX11_isDigit_11 : decode cX11_isDigit 11 = .ok (.bipush 48, 2) := by decide +kernel
theorem dX11_isDigit_13 : decode cX11_isDigit 13 = .ok (.if_icmp .lt 18, 3) := by decide +kernel
theorem dX11_isDigit_16 : decode cX11_isDigit 16 = .ok (.aload_n 0, 1) := by decide +kernel
theorem dX11_isDigit_17 : decode cX11_isDigit 17 = .ok (.getfield 7, 3) := by decide +kernel
theorem dX11_isDigit_20 : decode cX11_isDigit 20 = .ok (.iload_n 1, 1) := by decide +kernel
theorem dX11_isDigit_21 : decode cX11_isDigit 21 = .ok (.baload, 1) := by decide +kernel
theorem dX11_isDigit_22 : decode cX11_isDigit 22 = .ok (.bipush 57, 2) := by decide +kernel
theorem dX11_isDigit_24 : decode cX11_isDigit 24 = .ok (.if_icmp .gt 7, 3) := by decide +kernel
theorem dX11_isDigit_27 : decode cX11_isDigit 27 = .ok (.iconst 1, 1) := by decide +kernel
theorem dX11_isDigit_28 : decode cX11_isDigit 28 = .ok (.goto 4, 3) := by decide +kernel
theorem dX11_isDigit_31 : decode cX11_isDigit 31 = .ok (.iconst 0, 1) := by decide +kernel
theorem dX11_isDigit_32 : decode cX11_isDigit 32 = .ok (.ireturn, 1) := by decide +kernel
theorem dX11_parse_0 : decode cX11_parse 0 = .ok (.iconst 0, 1) := by decide +kernel
theorem dX11_parse_1 : decode cX11_parse 1 = .ok (.istore_n 2, 1) := by decide +kernel
theorem dX11_parse_2 : decode cX11_parse 2 = .ok (.iload_n 2, 1) := by decide +kernel
theorem dX11_parse_3 : decode cX11_parse 3 = .ok (.iload_n 1, 1) := by decide +kernel
theorem dX11_parse_4 : decode cX11_parse 4 = .ok (.if_icmp .ge 15, 3) := by decide +kernel
theorem dX11_parse_7 : decode cX11_parse 7 = .ok (.aload_n 0, 1) := by decide +kernel
theorem dX11_parse_8 : decode cX11_parse 8 = .ok (.getfield 7, 3) := by decide +kernel
theorem dX11_parse_11 : decode cX11_parse 11 = .ok (.iload_n 2, 1) := by decide +kernel
theorem dX11_parse_12 : decode cX11_parse 12 = .ok (.baload, 1) := by decide +kernel
theorem dX11_parse_13 : decode cX11_parse 13 = .ok (.invokestatic 96, 3) := by decide +kernel
theorem dX11_parse_16 : decode cX11_parse 16 = .ok (.goto 4, 3) := by decide +kernel
theorem dX11_parse_19 : decode cX11_parse 19 = .ok (.iconst (-1), 1) := by decide +kernel
theorem dX11_parse_20 : decode cX11_parse 20 = .ok (.istore_n 3, 1) := by decide +kernel
theorem dX11_parse_21 : decode cX11_parse 21 = .ok (.iload_n 3, 1) := by decide +kernel
theorem dX11_parse_22 : decode cX11_parse 22 = .ok (.iconst (-1), 1) := by decide +kernel
theorem dX11_parse_23 : decode cX11_parse 23 = .ok (.if_icmp .ne 8, 3) := by decide +kernel
theorem dX11_parse_26 : decode cX11_parse 26 = .ok (.bipush 100, 2) := by decide +kernel
theorem dX11_parse_28 : decode cX11_parse 28 = .ok (.iload_n 2, 1) := by decide +kernel
theorem dX11_parse_29 : decode cX11_parse 29 = .ok (.iadd, 1) := by decide +kernel
theorem dX11_parse_30 : decode cX11_parse 30 = .ok (.ireturn, 1) := by decide +kernel
theorem dX11_parse_31 : decode cX11_parse 31 = .ok (.iload_n 2, 1) := by decide +kernel
theorem dX11_parse_32 : decode cX11_parse 32 = .ok (.iconst 1, 1) := by decide +kernel
theorem dX11_parse_33 : decode cX11_parse 33 = .ok (.iadd, 1) := by decide +kernel
theorem dX11_parse_34 : decode cX11_parse 34 = .ok (.istore_n 2, 1) := by decide +kernel
theorem dX11_parse_35 : decode cX11_parse 35 = .ok (.iload_n 2, 1) := by decide +kernel
theorem dX11_parse_36 : decode cX11_parse 36 = .ok (.istore 4, 2) := by decide +kernel
theorem dX11_parse_38 : decode cX11_parse 38 = .ok (.aload_n 0, 1) := by decide +kernel
theorem dX11_parse_39 : decode cX11_parse 39 = .ok (.iload_n 2, 1) := by decide +kernel
theorem dX11_parse_40 : decode cX11_parse 40 = .ok (.iload_n 1, 1) := by decide +kernel
theorem dX11_parse_41 : decode cX11_parse 41 = .ok (.invokevirtual 100, 3) := by decide +kernel
theorem dX11_parse_44 : decode cX11_parse 44 = .ok (.ifCond .ne 9, 3) := by decide +kernel
theorem dX11_parse_47 : decode cX11_parse 47 = .ok (.sipush 200, 3) := by decide +kernel
theorem dX11_parse_50 : decode cX11_parse 50 = .ok (.iload_n 2, 1) := by decide +kernel
theorem dX11_parse_51 : decode cX11_parse 51 = .ok (.iadd, 1) := by decide +kernel
theorem dX11_parse_52 : decode cX11_parse 52 = .ok (.ireturn, 1) := by decide +kernel
theorem dX11_parse_53 : decode cX11_parse 53 = .ok (.iconst 0, 1) := by decide +kernel
theorem dX11_parse_54 : decode cX11_parse 54 = .ok (.istore 5, 2) := by decide +kernel
theorem dX11_parse_56 : decode cX11_parse 56 = .ok (.aload_n 0, 1) := by decide +kernel
theorem dX11_parse_57 : decode cX11_parse 57 = .ok (.iload_n 2, 1) := by decide +kernel
theorem dX11_parse_58 : decode cX11_parse 58 = .ok (.iload_n 1, 1) := by decide +kernel
theorem dX11_parse_59 : decode cX11_parse 59 = .ok (.invokevirtual 100, 3) := by decide +kernel
theorem dX11_parse_62 : decode cX11_parse 62 = .ok (.ifCond .eq 41, 3) := by decide +kernel
theorem dX11_parse_65 : decode cX11_parse 65 = .ok (.iload_n 2, 1) := by decide +kernel
theorem dX11_parse_66 : decode cX11_parse 66 = .ok (.iload 4, 2) := by decide +kernel
theorem dX11_parse_68 : decode cX11_parse 68 = .ok (.iconst 4, 1) := by decide +kernel
theorem dX11_parse_69 : decode cX11_parse 69 = .ok (.iadd, 1) := by decide +kernel
theorem dX11_parse_70 : decode cX11_parse 70 = .ok (.if_icmp .ne 9, 3) := by decide +kernel
theorem dX11_parse_73 : decode cX11_parse 73 = .ok (.sipush 300, 3) := by decide +kernel
theorem dX11_parse_76 : decode cX11_parse 76 = .ok (.iload_n 2, 1) := by decide +kernel
theorem dX11_parse_77 : decode cX11_parse 77 = .ok (.iadd, 1) := by decide +kernel
theorem dX11_parse_78 : decode cX11_parse 78 = .ok (.ireturn, 1) := by decide +kernel
theorem dX11_parse_79 : decode cX11_parse 79 = .ok (.bipush 10, 2) := by decide +kernel
theorem dX11_parse_81 : decode cX11_parse 81 = .ok (.iload 5, 2) := by decide +kernel
theorem dX11_parse_83 : decode cX11_parse 83 = .ok (.imul, 1) := by decide +kernel
theorem dX11_parse_84 : decode cX11_parse 84 = .ok (.aload_n 0, 1) := by decide +kernel
theorem dX11_parse_85 : decode cX11_parse 85 = .ok (.getfield 7, 3) := by decide +kernel
theorem dX11_parse_88 : decode cX11_parse 88 = .ok (.iload_n 2, 1) := by decide +kernel
theorem dX11_parse_89 : decode cX11_parse 89 = .ok (.baload, 1) := by decide +kernel
theorem dX11_parse_90 : decode cX11_parse 90 = .ok (.iadd, 1) := by decide +kernel
theorem dX11_parse_91 : decode cX11_parse 91 = .ok (.bipush 48, 2) := by decide +kernel
theorem dX11_parse_93 : decode cX11_parse 93 = .ok (.isub, 1) := by decide +kernel
theorem dX11_parse_94 : decode cX11_parse 94 = .ok (.istore 5, 2) := by decide +kernel
theorem dX11_parse_96 : decode cX11_parse 96 = .ok (.iload_n 2, 1) := by decide +kernel
theorem dX11_parse_97 : decode cX11_parse 97 = .ok (.iconst 1, 1) := by decide +kernel
theorem dX11_parse_98 : decode cX11_parse 98 = .ok (.iadd, 1) := by decide +kernel
theorem dX11_parse_99 : decode cX11_parse 99 = .ok (.istore_n 2, 1) := by decide +kernel
theorem dX11_parse_100 : decode cX11_parse 100 = .ok (.goto (-44), 3) := by decide +kernel
theorem dX11_parse_103 : decode cX11_parse 103 = .ok (.iload_n 3, 1) := by decide +kernel
theorem dX11_parse_104 : decode cX11_parse 104 = .ok (.iload 5, 2) := by decide +kernel
theorem dX11_parse_106 : decode cX11_parse 106 = .ok (.invokestatic 104, 3) := by decide +kernel
theorem dX11_parse_109 : decode cX11_parse 109 = .ok (.ifCond .ne 10, 3) := by decide +kernel
theorem dX11_parse_112 : decode cX11_parse 112 = .ok (.sipush 400, 3) := by decide +kernel
theorem dX11_parse_115 : decode cX11_parse 115 = .ok (.iload 4, 2) := by decide +kernel
theorem dX11_parse_117 : decode cX11_parse 117 = .ok (.iadd, 1) := by decide +kernel
theorem dX11_parse_118 : decode cX11_parse 118 = .ok (.ireturn, 1) := by decide +kernel
theorem dX11_parse_119 : decode cX11_parse 119 = .ok (.aload_n 0, 1) := by decide +kernel
theorem dX11_parse_120 : decode cX11_parse 120 = .ok (.getfield 17, 3) := by decide +kernel
theorem dX11_parse_123 : decode cX11_parse 123 = .ok (.iload_n 3, 1) := by decide +kernel
theorem dX11_parse_124 : decode cX11_parse 124 = .ok (.iload 5, 2) := by decide +kernel
theorem dX11_parse_126 : decode cX11_parse 126 = .ok (.iastore, 1) := by decide +kernel
theorem dX11_parse_127 : decode cX11_parse 127 = .ok (.iload_n 2, 1) := by decide +kernel
theorem dX11_parse_128 : decode cX11_parse 128 = .ok (.iload_n 1, 1) := by decide +kernel
theorem dX11_parse_129 : decode cX11_parse 129 = .ok (.if_icmp .ne 5, 3) := by decide +kernel
theorem dX11_parse_132 : decode cX11_parse 132 = .ok (.iconst 0, 1) := by decide +kernel
theorem dX11_parse_133 : decode cX11_parse 133 = .ok (.ireturn, 1) := by decide +kernel
theorem dX11_parse_134 : decode cX11_parse 134 = .ok (.aload_n 0, 1) := by decide +kernel
theorem dX11_parse_135 : decode cX11_parse 135 = .ok (.getfield 7, 3) := by decide +kernel
theorem dX11_parse_138 : decode cX11_parse 138 = .ok (.iload_n 2, 1) := by decide +kernel
theorem dX11_parse_139 : decode cX11_parse 139 = .ok (.baload, 1) := by decide +kernel
theorem dX11_parse_140 : decode cX11_parse 140 = .ok (.bipush 59, 2) := by decide +kernel
theorem dX11_parse_142 : decode cX11_parse 142 = .ok (.if_icmp .eq 9, 3) := by decide +kernel
theorem dX11_parse_145 : decode cX11_parse 145 = .ok (.sipush 500, 3) := by decide +kernel
theorem dX11_parse_148 : decode cX11_parse 148 = .ok (.iload_n 2, 1) := by decide +kernel
theorem dX11_parse_149 : decode cX11_parse 149 = .ok (.iadd, 1) := by decide +kernel
theorem dX11_parse_150 : decode cX11_parse 150 = .ok (.ireturn, 1) := by decide +kernel
theorem dX11_parse_151 : decode cX11_parse 151 = .ok (.iload_n 2, 1) := by decide +kernel
theorem dX11_parse_152 : decode cX11_parse 152 = .ok (.iconst 1, 1) := by decide +kernel
theorem dX11_parse_153 : decode cX11_parse 153 = .ok (.iadd, 1) := by decide +kernel
theorem dX11_parse_154 : decode cX11_parse 154 = .ok (.istore_n 2, 1) := by decide +kernel
theorem dX11_parse_155 : decode cX11_parse 155 = .ok (.goto (-153), 3) := by decide +kernel
theorem dX11_law_0 : decode cX11_law 0 = .ok (.iload_n 1, 1) := by decide +kernel
theorem dX11_law_1 : decode cX11_law 1 = .ok (.ifCond .lt 11, 3) := by decide +kernel
theorem dX11_law_4 : decode cX11_law 4 = .ok (.iload_n 1, 1) := by decide +kernel
theorem dX11_law_5 : decode cX11_law 5 = .ok (.aload_n 0, 1) := by decide +kernel
theorem dX11_law_6 : decode cX11_law 6 = .ok (.getfield 88, 3) := by decide +kernel
theorem dX11_law_9 : decode cX11_law 9 = .ok (.if_icmp .le 5, 3) := by decide +kernel
theorem dX11_law_12 : decode cX11_law 12 = .ok (.iconst (-1), 1) := by decide +kernel
theorem dX11_law_13 : decode cX11_law 13 = .ok (.ireturn, 1) := by decide +kernel
theorem dX11_law_14 : decode cX11_law 14 = .ok (.aload_n 0, 1) := by decide +kernel
theorem dX11_law_15 : decode cX11_law 15 = .ok (.getfield 17, 3) := by decide +kernel
theorem dX11_law_18 : decode cX11_law 18 = .ok (.invokestatic 84, 3) := by decide +kernel
theorem dX11_law_21 : decode cX11_law 21 = .ok (.aload_n 0, 1) := by decide +kernel
theorem dX11_law_22 : decode cX11_law 22 = .ok (.iload_n 1, 1) := by decide +kernel
theorem dX11_law_23 : decode cX11_law 23 = .ok (.invokevirtual 107, 3) := by decide +kernel
theorem dX11_law_26 : decode cX11_law 26 = .ok (.istore_n 2, 1) := by decide +kernel
theorem dX11_law_27 : decode cX11_law 27 = .ok (.aload_n 0, 1) := by decide +kernel
theorem dX11_law_28 : decode cX11_law 28 = .ok (.iconst 0, 1) := by decide +kernel
theorem dX11_law_29 : decode cX11_law 29 = .ok (.putfield 88, 3) := by decide +kernel
theorem dX11_law_32 : decode cX11_law 32 = .ok (.iconst 0, 1) := by decide +kernel
theorem dX11_law_33 : decode cX11_law 33 = .ok (.istore_n 3, 1) := by decide +kernel
theorem dX11_law_34 : decode cX11_law 34 = .ok (.iload_n 3, 1) := by decide +kernel
theorem dX11_law_35 : decode cX11_law 35 = .ok (.bipush 11, 2) := by decide +kernel
theorem dX11_law_37 : decode cX11_law 37 = .ok (.if_icmp .ge 25, 3) := by decide +kernel
theorem dX11_law_40 : decode cX11_law 40 = .ok (.iload_n 2, 1) := by decide +kernel
theorem dX11_law_41 : decode cX11_law 41 = .ok (.ifCond .ne 21, 3) := by decide +kernel
theorem dX11_law_44 : decode cX11_law 44 = .ok (.aload_n 0, 1) := by decide +kernel
theorem dX11_law_45 : decode cX11_law 45 = .ok (.getfield 13, 3) := by decide +kernel
theorem dX11_law_48 : decode cX11_law 48 = .ok (.iload_n 3, 1) := by decide +kernel
theorem dX11_law_49 : decode cX11_law 49 = .ok (.aload_n 0, 1) := by decide +kernel
theorem dX11_law_50 : decode cX11_law 50 = .ok (.getfield 17, 3) := by decide +kernel
theorem dX11_law_53 : decode cX11_law 53 = .ok (.iload_n 3, 1) := by decide +kernel
theorem dX11_law_54 : decode cX11_law 54 = .ok (.iaload, 1) := by decide +kernel
theorem dX11_law_55 : decode cX11_law 55 = .ok (.iastore, 1) := by decide +kernel
theorem dX11_law_56 : decode cX11_law 56 = .ok (.iinc 3 1, 3) := by decide +kernel
theorem dX11_law_59 : decode cX11_law 59 = .ok (.goto (-25), 3) := by decide +kernel
theorem dX11_law_62 : decode cX11_law 62 = .ok (.iload_n 2, 1) := by decide +kernel
theorem dX11_law_63 : decode cX11_law 63 = .ok (.ireturn, 1) := by decide +kernel
theorem dX11_rule_0 : decode cX11_rule 0 = .ok (.iload_n 1, 1) := by decide +kernel
theorem dX11_rule_1 : decode cX11_rule 1 = .ok (.invokestatic 96, 3) := by decide +kernel
theorem dX11_rule_4 : decode cX11_rule 4 = .ok (.istore_n 2, 1) := by decide +kernel
theorem dX11_rule_5 : decode cX11_rule 5 = .ok (.iload_n 2, 1) := by decide +kernel
theorem dX11_rule_6 : decode cX11_rule 6 = .ok (.iconst (-1), 1) := by decide +kernel
theorem dX11_rule_7 : decode cX11_rule 7 = .ok (.if_icmp .ne 7, 3) := by decide +kernel
theorem dX11_rule_10 : decode cX11_rule 10 = .ok (.iconst (-1), 1) := by decide +kernel
theorem dX11_rule_11 : decode cX11_rule 11 = .ok (.goto 9, 3) := by decide +kernel
theorem dX11_rule_14 : decode cX11_rule 14 = .ok (.aload_n 0, 1) := by decide +kernel
theorem dX11_rule_15 : decode cX11_rule 15 = .ok (.getfield 13, 3) := by decide +kernel
theorem dX11_rule_18 : decode cX11_rule 18 = .ok (.iload_n 2, 1) := by decide +kernel
theorem dX11_rule_19 : decode cX11_rule 19 = .ok (.iaload, 1) := by decide +kernel
theorem dX11_rule_20 : decode cX11_rule 20 = .ok (.ireturn, 1) := by decide +kernel
theorem dX11_isCard_0 : decode cX11_isCard 0 = .ok (.iload_n 0, 1) := by decide +kernel
theorem dX11_isCard_1 : decode cX11_isCard 1 = .ok (.ifCond .lt 12, 3) := by decide +kernel
theorem dX11_isCard_4 : decode cX11_isCard 4 = .ok (.iload_n 0, 1) := by decide +kernel
theorem dX11_isCard_5 : decode cX11_isCard 5 = .ok (.iconst 4, 1) := by decide +kernel
theorem dX11_isCard_6 : decode cX11_isCard 6 = .ok (.if_icmp .ge 7, 3) := by decide +kernel
theorem dX11_isCard_9 : decode cX11_isCard 9 = .ok (.iconst 1, 1) := by decide +kernel
theorem dX11_isCard_10 : decode cX11_isCard 10 = .ok (.goto 4, 3) := by decide +kernel
theorem dX11_isCard_13 : decode cX11_isCard 13 = .ok (.iconst 0, 1) := by decide +kernel
theorem dX11_isCard_14 : decode cX11_isCard 14 = .ok (.ireturn, 1) := by decide +kernel
theorem dX11_isKind_0 : decode cX11_isKind 0 = .ok (.iload_n 0, 1) := by decide +kernel
theorem dX11_isKind_1 : decode cX11_isKind 1 = .ok (.ifCond .lt 25, 3) := by decide +kernel
theorem dX11_isKind_4 : decode cX11_isKind 4 = .ok (.iload_n 0, 1) := by decide +kernel
theorem dX11_isKind_5 : decode cX11_isKind 5 = .ok (.iconst 4, 1) := by decide +kernel
theorem dX11_isKind_6 : decode cX11_isKind 6 = .ok (.if_icmp .gt 20, 3) := by decide +kernel
theorem dX11_isKind_9 : decode cX11_isKind 9 = .ok (.iload_n 0, 1) := by decide +kernel
theorem dX11_isKind_10 : decode cX11_isKind 10 = .ok (.ifCond .ne 12, 3) := by decide +kernel
theorem dX11_isKind_13 : decode cX11_isKind 13 = .ok (.iload_n 1, 1) := by decide +kernel
theorem dX11_isKind_14 : decode cX11_isKind 14 = .ok (.ifCond .eq 8, 3) := by decide +kernel
theorem dX11_isKind_17 : decode cX11_isKind 17 = .ok (.iload_n 1, 1) := by decide +kernel
theorem dX11_isKind_18 : decode cX11_isKind 18 = .ok (.iconst 1, 1) := by decide +kernel
theorem dX11_isKind_19 : decode cX11_isKind 19 = .ok (.if_icmp .ne 7, 3) := by decide +kernel
theorem dX11_isKind_22 : decode cX11_isKind 22 = .ok (.iconst 1, 1) := by decide +kernel
theorem dX11_isKind_23 : decode cX11_isKind 23 = .ok (.goto 4, 3) := by decide +kernel
theorem dX11_isKind_26 : decode cX11_isKind 26 = .ok (.iconst 0, 1) := by decide +kernel
theorem dX11_isKind_27 : decode cX11_isKind 27 = .ok (.ireturn, 1) := by decide +kernel
theorem dX11_act_0 : decode cX11_act 0 = .ok (.iload_n 1, 1) := by decide +kernel
theorem dX11_act_1 : decode cX11_act 1 = .ok (.invokestatic 110, 3) := by decide +kernel
theorem dX11_act_4 : decode cX11_act 4 = .ok (.ifCond .eq 49, 3) := by decide +kernel
theorem dX11_act_7 : decode cX11_act 7 = .ok (.iload_n 2, 1) := by decide +kernel
theorem dX11_act_8 : decode cX11_act 8 = .ok (.iload 4, 2) := by decide +kernel
theorem dX11_act_10 : decode cX11_act 10 = .ok (.invokestatic 114, 3) := by decide +kernel
theorem dX11_act_13 : decode cX11_act 13 = .ok (.ifCond .eq 40, 3) := by decide +kernel
theorem dX11_act_16 : decode cX11_act 16 = .ok (.iload_n 3, 1) := by decide +kernel
theorem dX11_act_17 : decode cX11_act 17 = .ok (.iconst 1, 1) := by decide +kernel
theorem dX11_act_18 : decode cX11_act 18 = .ok (.if_icmp .lt 35, 3) := by decide +kernel
theorem dX11_act_21 : decode cX11_act 21 = .ok (.iload_n 3, 1) := by decide +kernel
theorem dX11_act_22 : decode cX11_act 22 = .ok (.sipush 20160, 3) := by decide +kernel
theorem dX11_act_25 : decode cX11_act 25 = .ok (.if_icmp .gt 28, 3) := by decide +kernel
theorem dX11_act_28 : decode cX11_act 28 = .ok (.aload_n 0, 1) := by decide +kernel
theorem dX11_act_29 : decode cX11_act 29 = .ok (.getfield 20, 3) := by decide +kernel
theorem dX11_act_32 : decode cX11_act 32 = .ok (.iload_n 1, 1) := by decide +kernel
theorem dX11_act_33 : decode cX11_act 33 = .ok (.iaload, 1) := by decide +kernel
theorem dX11_act_34 : decode cX11_act 34 = .ok (.bipush 60, 2) := by decide +kernel
theorem dX11_act_36 : decode cX11_act 36 = .ok (.if_icmp .eq 17, 3) := by decide +kernel
theorem dX11_act_39 : decode cX11_act 39 = .ok (.aload_n 0, 1) := by decide +kernel
theorem dX11_act_40 : decode cX11_act 40 = .ok (.getfield 23, 3) := by decide +kernel
theorem dX11_act_43 : decode cX11_act 43 = .ok (.iload_n 1, 1) := by decide +kernel
theorem dX11_act_44 : decode cX11_act 44 = .ok (.iaload, 1) := by decide +kernel
theorem dX11_act_45 : decode cX11_act 45 = .ok (.iload_n 3, 1) := by decide +kernel
theorem dX11_act_46 : decode cX11_act 46 = .ok (.iadd, 1) := by decide +kernel
theorem dX11_act_47 : decode cX11_act 47 = .ok (.sipush 20160, 3) := by decide +kernel
theorem dX11_act_50 : decode cX11_act 50 = .ok (.if_icmp .le 5, 3) := by decide +kernel
theorem dX11_act_53 : decode cX11_act 53 = .ok (.iconst (-1), 1) := by decide +kernel
theorem dX11_act_54 : decode cX11_act 54 = .ok (.ireturn, 1) := by decide +kernel
theorem dX11_act_55 : decode cX11_act 55 = .ok (.bipush 60, 2) := by decide +kernel
theorem dX11_act_57 : decode cX11_act 57 = .ok (.iload_n 1, 1) := by decide +kernel
theorem dX11_act_58 : decode cX11_act 58 = .ok (.imul, 1) := by decide +kernel
theorem dX11_act_59 : decode cX11_act 59 = .ok (.aload_n 0, 1) := by decide +kernel
theorem dX11_act_60 : decode cX11_act 60 = .ok (.getfield 20, 3) := by decide +kernel
theorem dX11_act_63 : decode cX11_act 63 = .ok (.iload_n 1, 1) := by decide +kernel
theorem dX11_act_64 : decode cX11_act 64 = .ok (.iaload, 1) := by decide +kernel
theorem dX11_act_65 : decode cX11_act 65 = .ok (.iadd, 1) := by decide +kernel
theorem dX11_act_66 : decode cX11_act 66 = .ok (.istore 5, 2) := by decide +kernel
theorem dX11_act_68 : decode cX11_act 68 = .ok (.aload_n 0, 1) := by decide +kernel
theorem dX11_act_69 : decode cX11_act 69 = .ok (.getfield 26, 3) := by decide +kernel
theorem dX11_act_72 : decode cX11_act 72 = .ok (.iload 5, 2) := by decide +kernel
theorem dX11_act_74 : decode cX11_act 74 = .ok (.iload_n 2, 1) := by decide +kernel
theorem dX11_act_75 : decode cX11_act 75 = .ok (.iastore, 1) := by decide +kernel
theorem dX11_act_76 : decode cX11_act 76 = .ok (.aload_n 0, 1) := by decide +kernel
theorem dX11_act_77 : decode cX11_act 77 = .ok (.getfield 29, 3) := by decide +kernel
theorem dX11_act_80 : decode cX11_act 80 = .ok (.iload 5, 2) := by decide +kernel
theorem dX11_act_82 : decode cX11_act 82 = .ok (.iload_n 3, 1) := by decide +kernel
theorem dX11_act_83 : decode cX11_act 83 = .ok (.iastore, 1) := by decide +kernel
theorem dX11_act_84 : decode cX11_act 84 = .ok (.aload_n 0, 1) := by decide +kernel
theorem dX11_act_85 : decode cX11_act 85 = .ok (.getfield 32, 3) := by decide +kernel
theorem dX11_act_88 : decode cX11_act 88 = .ok (.iload 5, 2) := by decide +kernel
theorem dX11_act_90 : decode cX11_act 90 = .ok (.iload_n 2, 1) := by decide +kernel
theorem dX11_act_91 : decode cX11_act 91 = .ok (.ifCond .ne 8, 3) := by decide +kernel
theorem dX11_act_94 : decode cX11_act 94 = .ok (.iload 4, 2) := by decide +kernel
theorem dX11_act_96 : decode cX11_act 96 = .ok (.goto 4, 3) := by decide +kernel
theorem dX11_act_99 : decode cX11_act 99 = .ok (.iconst (-1), 1) := by decide +kernel
theorem dX11_act_100 : decode cX11_act 100 = .ok (.iastore, 1) := by decide +kernel
theorem dX11_act_101 : decode cX11_act 101 = .ok (.aload_n 0, 1) := by decide +kernel
theorem dX11_act_102 : decode cX11_act 102 = .ok (.getfield 23, 3) := by decide +kernel
theorem dX11_act_105 : decode cX11_act 105 = .ok (.iload_n 1, 1) := by decide +kernel
theorem dX11_act_106 : decode cX11_act 106 = .ok (.aload_n 0, 1) := by decide +kernel
theorem dX11_act_107 : decode cX11_act 107 = .ok (.getfield 23, 3) := by decide +kernel
theorem dX11_act_110 : decode cX11_act 110 = .ok (.iload_n 1, 1) := by decide +kernel
theorem dX11_act_111 : decode cX11_act 111 = .ok (.iaload, 1) := by decide +kernel
theorem dX11_act_112 : decode cX11_act 112 = .ok (.iload_n 3, 1) := by decide +kernel
theorem dX11_act_113 : decode cX11_act 113 = .ok (.iadd, 1) := by decide +kernel
theorem dX11_act_114 : decode cX11_act 114 = .ok (.iastore, 1) := by decide +kernel
theorem dX11_act_115 : decode cX11_act 115 = .ok (.aload_n 0, 1) := by decide +kernel
theorem dX11_act_116 : decode cX11_act 116 = .ok (.getfield 20, 3) := by decide +kernel
theorem dX11_act_119 : decode cX11_act 119 = .ok (.iload_n 1, 1) := by decide +kernel
theorem dX11_act_120 : decode cX11_act 120 = .ok (.aload_n 0, 1) := by decide +kernel
theorem dX11_act_121 : decode cX11_act 121 = .ok (.getfield 20, 3) := by decide +kernel
theorem dX11_act_124 : decode cX11_act 124 = .ok (.iload_n 1, 1) := by decide +kernel
theorem dX11_act_125 : decode cX11_act 125 = .ok (.iaload, 1) := by decide +kernel
theorem dX11_act_126 : decode cX11_act 126 = .ok (.iconst 1, 1) := by decide +kernel
theorem dX11_act_127 : decode cX11_act 127 = .ok (.iadd, 1) := by decide +kernel
theorem dX11_act_128 : decode cX11_act 128 = .ok (.iastore, 1) := by decide +kernel
theorem dX11_act_129 : decode cX11_act 129 = .ok (.aload_n 0, 1) := by decide +kernel
theorem dX11_act_130 : decode cX11_act 130 = .ok (.getfield 20, 3) := by decide +kernel
theorem dX11_act_133 : decode cX11_act 133 = .ok (.iload_n 1, 1) := by decide +kernel
theorem dX11_act_134 : decode cX11_act 134 = .ok (.iaload, 1) := by decide +kernel
theorem dX11_act_135 : decode cX11_act 135 = .ok (.iconst 1, 1) := by decide +kernel
theorem dX11_act_136 : decode cX11_act 136 = .ok (.isub, 1) := by decide +kernel
theorem dX11_act_137 : decode cX11_act 137 = .ok (.ireturn, 1) := by decide +kernel
theorem dX11_put_0 : decode cX11_put 0 = .ok (.iload_n 1, 1) := by decide +kernel
theorem dX11_put_1 : decode cX11_put 1 = .ok (.invokestatic 110, 3) := by decide +kernel
theorem dX11_put_4 : decode cX11_put 4 = .ok (.ifCond .eq 26, 3) := by decide +kernel
theorem dX11_put_7 : decode cX11_put 7 = .ok (.iload_n 2, 1) := by decide +kernel
theorem dX11_put_8 : decode cX11_put 8 = .ok (.ifCond .lt 22, 3) := by decide +kernel
theorem dX11_put_11 : decode cX11_put 11 = .ok (.iload_n 2, 1) := by decide +kernel
theorem dX11_put_12 : decode cX11_put 12 = .ok (.aload_n 0, 1) := by decide +kernel
theorem dX11_put_13 : decode cX11_put 13 = .ok (.getfield 20, 3) := by decide +kernel
theorem dX11_put_16 : decode cX11_put 16 = .ok (.iload_n 1, 1) := by decide +kernel
theorem dX11_put_17 : decode cX11_put 17 = .ok (.iaload, 1) := by decide +kernel
theorem dX11_put_18 : decode cX11_put 18 = .ok (.if_icmp .ge 12, 3) := by decide +kernel
theorem dX11_put_21 : decode cX11_put 21 = .ok (.iload_n 3, 1) := by decide +kernel
theorem dX11_put_22 : decode cX11_put 22 = .ok (.iload 4, 2) := by decide +kernel
theorem dX11_put_24 : decode cX11_put 24 = .ok (.invokestatic 114, 3) := by decide +kernel
theorem dX11_put_27 : decode cX11_put 27 = .ok (.ifCond .ne 5, 3) := by decide +kernel
theorem dX11_put_30 : decode cX11_put 30 = .ok (.iconst 0, 1) := by decide +kernel
theorem dX11_put_31 : decode cX11_put 31 = .ok (.ireturn, 1) := by decide +kernel
theorem dX11_put_32 : decode cX11_put 32 = .ok (.aload_n 0, 1) := by decide +kernel
theorem dX11_put_33 : decode cX11_put 33 = .ok (.getfield 26, 3) := by decide +kernel
theorem dX11_put_36 : decode cX11_put 36 = .ok (.bipush 60, 2) := by decide +kernel
theorem dX11_put_38 : decode cX11_put 38 = .ok (.iload_n 1, 1) := by decide +kernel
theorem dX11_put_39 : decode cX11_put 39 = .ok (.imul, 1) := by decide +kernel
theorem dX11_put_40 : decode cX11_put 40 = .ok (.iload_n 2, 1) := by decide +kernel
theorem dX11_put_41 : decode cX11_put 41 = .ok (.iadd, 1) := by decide +kernel
theorem dX11_put_42 : decode cX11_put 42 = .ok (.iload_n 3, 1) := by decide +kernel
theorem dX11_put_43 : decode cX11_put 43 = .ok (.iastore, 1) := by decide +kernel
theorem dX11_put_44 : decode cX11_put 44 = .ok (.aload_n 0, 1) := by decide +kernel
theorem dX11_put_45 : decode cX11_put 45 = .ok (.getfield 32, 3) := by decide +kernel
theorem dX11_put_48 : decode cX11_put 48 = .ok (.bipush 60, 2) := by decide +kernel
theorem dX11_put_50 : decode cX11_put 50 = .ok (.iload_n 1, 1) := by decide +kernel
theorem dX11_put_51 : decode cX11_put 51 = .ok (.imul, 1) := by decide +kernel
theorem dX11_put_52 : decode cX11_put 52 = .ok (.iload_n 2, 1) := by decide +kernel
theorem dX11_put_53 : decode cX11_put 53 = .ok (.iadd, 1) := by decide +kernel
theorem dX11_put_54 : decode cX11_put 54 = .ok (.iload_n 3, 1) := by decide +kernel
theorem dX11_put_55 : decode cX11_put 55 = .ok (.ifCond .ne 8, 3) := by decide +kernel
theorem dX11_put_58 : decode cX11_put 58 = .ok (.iload 4, 2) := by decide +kernel
theorem dX11_put_60 : decode cX11_put 60 = .ok (.goto 4, 3) := by decide +kernel
theorem dX11_put_63 : decode cX11_put 63 = .ok (.iconst (-1), 1) := by decide +kernel
theorem dX11_put_64 : decode cX11_put 64 = .ok (.iastore, 1) := by decide +kernel
theorem dX11_put_65 : decode cX11_put 65 = .ok (.iconst 1, 1) := by decide +kernel
theorem dX11_put_66 : decode cX11_put 66 = .ok (.ireturn, 1) := by decide +kernel
theorem dX11_trip_0 : decode cX11_trip 0 = .ok (.iload_n 1, 1) := by decide +kernel
theorem dX11_trip_1 : decode cX11_trip 1 = .ok (.ifCond .lt 35, 3) := by decide +kernel
theorem dX11_trip_4 : decode cX11_trip 4 = .ok (.iload_n 1, 1) := by decide +kernel
theorem dX11_trip_5 : decode cX11_trip 5 = .ok (.iconst 1, 1) := by decide +kernel
theorem dX11_trip_6 : decode cX11_trip 6 = .ok (.if_icmp .gt 30, 3) := by decide +kernel
theorem dX11_trip_9 : decode cX11_trip 9 = .ok (.iload_n 2, 1) := by decide +kernel
theorem dX11_trip_10 : decode cX11_trip 10 = .ok (.ifCond .lt 26, 3) := by decide +kernel
theorem dX11_trip_13 : decode cX11_trip 13 = .ok (.iload_n 3, 1) := by decide +kernel
theorem dX11_trip_14 : decode cX11_trip 14 = .ok (.sipush 20160, 3) := by decide +kernel
theorem dX11_trip_17 : decode cX11_trip 17 = .ok (.if_icmp .gt 19, 3) := by decide +kernel
theorem dX11_trip_20 : decode cX11_trip 20 = .ok (.iload_n 2, 1) := by decide +kernel
theorem dX11_trip_21 : decode cX11_trip 21 = .ok (.iload_n 3, 1) := by decide +kernel
theorem dX11_trip_22 : decode cX11_trip 22 = .ok (.if_icmp .ge 14, 3) := by decide +kernel
theorem dX11_trip_25 : decode cX11_trip 25 = .ok (.aload_n 0, 1) := by decide +kernel
theorem dX11_trip_26 : decode cX11_trip 26 = .ok (.getfield 35, 3) := by decide +kernel
theorem dX11_trip_29 : decode cX11_trip 29 = .ok (.iload_n 1, 1) := by decide +kernel
theorem dX11_trip_30 : decode cX11_trip 30 = .ok (.iaload, 1) := by decide +kernel
theorem dX11_trip_31 : decode cX11_trip 31 = .ok (.bipush 20, 2) := by decide +kernel
theorem dX11_trip_33 : decode cX11_trip 33 = .ok (.if_icmp .ne 5, 3) := by decide +kernel
theorem dX11_trip_36 : decode cX11_trip 36 = .ok (.iconst 0, 1) := by decide +kernel
theorem dX11_trip_37 : decode cX11_trip 37 = .ok (.ireturn, 1) := by decide +kernel
theorem dX11_trip_38 : decode cX11_trip 38 = .ok (.bipush 20, 2) := by decide +kernel
theorem dX11_trip_40 : decode cX11_trip 40 = .ok (.iload_n 1, 1) := by decide +kernel
theorem dX11_trip_41 : decode cX11_trip 41 = .ok (.imul, 1) := by decide +kernel
theorem dX11_trip_42 : decode cX11_trip 42 = .ok (.istore 4, 2) := by decide +kernel
theorem dX11_trip_44 : decode cX11_trip 44 = .ok (.iload 4, 2) := by decide +kernel
theorem dX11_trip_46 : decode cX11_trip 46 = .ok (.bipush 20, 2) := by decide +kernel
theorem dX11_trip_48 : decode cX11_trip 48 = .ok (.iload_n 1, 1) := by decide +kernel
theorem dX11_trip_49 : decode cX11_trip 49 = .ok (.imul, 1) := by decide +kernel
theorem dX11_trip_50 : decode cX11_trip 50 = .ok (.aload_n 0, 1) := by decide +kernel
theorem dX11_trip_51 : decode cX11_trip 51 = .ok (.getfield 35, 3) := by decide +kernel
theorem dX11_trip_54 : decode cX11_trip 54 = .ok (.iload_n 1, 1) := by decide +kernel
theorem dX11_trip_55 : decode cX11_trip 55 = .ok (.iaload, 1) := by decide +kernel
theorem dX11_trip_56 : decode cX11_trip 56 = .ok (.iadd, 1) := by decide +kernel
theorem dX11_trip_57 : decode cX11_trip 57 = .ok (.if_icmp .ge 33, 3) := by decide +kernel
theorem dX11_trip_60 : decode cX11_trip 60 = .ok (.iload_n 2, 1) := by decide +kernel
theorem dX11_trip_61 : decode cX11_trip 61 = .ok (.aload_n 0, 1) := by decide +kernel
theorem dX11_trip_62 : decode cX11_trip 62 = .ok (.getfield 41, 3) := by decide +kernel
theorem dX11_trip_65 : decode cX11_trip 65 = .ok (.iload 4, 2) := by decide +kernel
theorem dX11_trip_67 : decode cX11_trip 67 = .ok (.iaload, 1) := by decide +kernel
theorem dX11_trip_68 : decode cX11_trip 68 = .ok (.if_icmp .ge 16, 3) := by decide +kernel
theorem dX11_trip_71 : decode cX11_trip 71 = .ok (.aload_n 0, 1) := by decide +kernel
theorem dX11_trip_72 : decode cX11_trip 72 = .ok (.getfield 38, 3) := by decide +kernel
theorem dX11_trip_75 : decode cX11_trip 75 = .ok (.iload 4, 2) := by decide +kernel
theorem dX11_trip_77 : decode cX11_trip 77 = .ok (.iaload, 1) := by decide +kernel
theorem dX11_trip_78 : decode cX11_trip 78 = .ok (.iload_n 3, 1) := by decide +kernel
theorem dX11_trip_79 : decode cX11_trip 79 = .ok (.if_icmp .ge 5, 3) := by decide +kernel
theorem dX11_trip_82 : decode cX11_trip 82 = .ok (.iconst 0, 1) := by decide +kernel
theorem dX11_trip_83 : decode cX11_trip 83 = .ok (.ireturn, 1) := by decide +kernel
theorem dX11_trip_84 : decode cX11_trip 84 = .ok (.iinc 4 1, 3) := by decide +kernel
theorem dX11_trip_87 : decode cX11_trip 87 = .ok (.goto (-43), 3) := by decide +kernel
theorem dX11_trip_90 : decode cX11_trip 90 = .ok (.aload_n 0, 1) := by decide +kernel
theorem dX11_trip_91 : decode cX11_trip 91 = .ok (.getfield 38, 3) := by decide +kernel
theorem dX11_trip_94 : decode cX11_trip 94 = .ok (.bipush 20, 2) := by decide +kernel
theorem dX11_trip_96 : decode cX11_trip 96 = .ok (.iload_n 1, 1) := by decide +kernel
theorem dX11_trip_97 : decode cX11_trip 97 = .ok (.imul, 1) := by decide +kernel
theorem dX11_trip_98 : decode cX11_trip 98 = .ok (.aload_n 0, 1) := by decide +kernel
theorem dX11_trip_99 : decode cX11_trip 99 = .ok (.getfield 35, 3) := by decide +kernel
theorem dX11_trip_102 : decode cX11_trip 102 = .ok (.iload_n 1, 1) := by decide +kernel
theorem dX11_trip_103 : decode cX11_trip 103 = .ok (.iaload, 1) := by decide +kernel
theorem dX11_trip_104 : decode cX11_trip 104 = .ok (.iadd, 1) := by decide +kernel
theorem dX11_trip_105 : decode cX11_trip 105 = .ok (.iload_n 2, 1) := by decide +kernel
theorem dX11_trip_106 : decode cX11_trip 106 = .ok (.iastore, 1) := by decide +kernel
theorem dX11_trip_107 : decode cX11_trip 107 = .ok (.aload_n 0, 1) := by decide +kernel
theorem dX11_trip_108 : decode cX11_trip 108 = .ok (.getfield 41, 3) := by decide +kernel
theorem dX11_trip_111 : decode cX11_trip 111 = .ok (.bipush 20, 2) := by decide +kernel
theorem dX11_trip_113 : decode cX11_trip 113 = .ok (.iload_n 1, 1) := by decide +kernel
theorem dX11_trip_114 : decode cX11_trip 114 = .ok (.imul, 1) := by decide +kernel
theorem dX11_trip_115 : decode cX11_trip 115 = .ok (.aload_n 0, 1) := by decide +kernel
theorem dX11_trip_116 : decode cX11_trip 116 = .ok (.getfield 35, 3) := by decide +kernel
theorem dX11_trip_119 : decode cX11_trip 119 = .ok (.iload_n 1, 1) := by decide +kernel
theorem dX11_trip_120 : decode cX11_trip 120 = .ok (.iaload, 1) := by decide +kernel
theorem dX11_trip_121 : decode cX11_trip 121 = .ok (.iadd, 1) := by decide +kernel
theorem dX11_trip_122 : decode cX11_trip 122 = .ok (.iload_n 3, 1) := by decide +kernel
theorem dX11_trip_123 : decode cX11_trip 123 = .ok (.iastore, 1) := by decide +kernel
theorem dX11_trip_124 : decode cX11_trip 124 = .ok (.aload_n 0, 1) := by decide +kernel
theorem dX11_trip_125 : decode cX11_trip 125 = .ok (.getfield 35, 3) := by decide +kernel
theorem dX11_trip_128 : decode cX11_trip 128 = .ok (.iload_n 1, 1) := by decide +kernel
theorem dX11_trip_129 : decode cX11_trip 129 = .ok (.aload_n 0, 1) := by decide +kernel
theorem dX11_trip_130 : decode cX11_trip 130 = .ok (.getfield 35, 3) := by decide +kernel
theorem dX11_trip_133 : decode cX11_trip 133 = .ok (.iload_n 1, 1) := by decide +kernel
theorem dX11_trip_134 : decode cX11_trip 134 = .ok (.iaload, 1) := by decide +kernel
theorem dX11_trip_135 : decode cX11_trip 135 = .ok (.iconst 1, 1) := by decide +kernel
theorem dX11_trip_136 : decode cX11_trip 136 = .ok (.iadd, 1) := by decide +kernel
theorem dX11_trip_137 : decode cX11_trip 137 = .ok (.iastore, 1) := by decide +kernel
theorem dX11_trip_138 : decode cX11_trip 138 = .ok (.iconst 1, 1) := by decide +kernel
theorem dX11_trip_139 : decode cX11_trip 139 = .ok (.ireturn, 1) := by decide +kernel
theorem dX11_isRest_0 : decode cX11_isRest 0 = .ok (.iload_n 2, 1) := by decide +kernel
theorem dX11_isRest_1 : decode cX11_isRest 1 = .ok (.ifCond .lt 51, 3) := by decide +kernel
theorem dX11_isRest_4 : decode cX11_isRest 4 = .ok (.iload_n 2, 1) := by decide +kernel
theorem dX11_isRest_5 : decode cX11_isRest 5 = .ok (.aload_n 0, 1) := by decide +kernel
theorem dX11_isRest_6 : decode cX11_isRest 6 = .ok (.getfield 20, 3) := by decide +kernel
theorem dX11_isRest_9 : decode cX11_isRest 9 = .ok (.iload_n 1, 1) := by decide +kernel
theorem dX11_isRest_10 : decode cX11_isRest 10 = .ok (.iaload, 1) := by decide +kernel
theorem dX11_isRest_11 : decode cX11_isRest 11 = .ok (.if_icmp .ge 41, 3) := by decide +kernel
theorem dX11_isRest_14 : decode cX11_isRest 14 = .ok (.aload_n 0, 1) := by decide +kernel
theorem dX11_isRest_15 : decode cX11_isRest 15 = .ok (.getfield 26, 3) := by decide +kernel
theorem dX11_isRest_18 : decode cX11_isRest 18 = .ok (.bipush 60, 2) := by decide +kernel
theorem dX11_isRest_20 : decode cX11_isRest 20 = .ok (.iload_n 1, 1) := by decide +kernel
theorem dX11_isRest_21 : decode cX11_isRest 21 = .ok (.imul, 1) := by decide +kernel
theorem dX11_isRest_22 : decode cX11_isRest 22 = .ok (.iload_n 2, 1) := by decide +kernel
theorem dX11_isRest_23 : decode cX11_isRest 23 = .ok (.iadd, 1) := by decide +kernel
theorem dX11_isRest_24 : decode cX11_isRest 24 = .ok (.iaload, 1) := by decide +kernel
theorem dX11_isRest_25 : decode cX11_isRest 25 = .ok (.iconst 2, 1) := by decide +kernel
theorem dX11_isRest_26 : decode cX11_isRest 26 = .ok (.if_icmp .eq 22, 3) := by decide +kernel
theorem dX11_isRest_29 : decode cX11_isRest 29 = .ok (.aload_n 0, 1) := by decide +kernel
theorem dX11_isRest_30 : decode cX11_isRest 30 = .ok (.getfield 26, 3) := by decide +kernel
theorem dX11_isRest_33 : decode cX11_isRest 33 = .ok (.bipush 60, 2) := by decide +kernel
theorem dX11_isRest_35 : decode cX11_isRest 35 = .ok (.iload_n 1, 1) := by decide +kernel
theorem dX11_isRest_36 : decode cX11_isRest 36 = .ok (.imul, 1) := by decide +kernel
theorem dX11_isRest_37 : decode cX11_isRest 37 = .ok (.iload_n 2, 1) := by decide +kernel
theorem dX11_isRest_38 : decode cX11_isRest 38 = .ok (.iadd, 1) := by decide +kernel
theorem dX11_isRest_39 : decode cX11_isRest 39 = .ok (.iaload, 1) := by decide +kernel
theorem dX11_isRest_40 : decode cX11_isRest 40 = .ok (.iconst 4, 1) := by decide +kernel
theorem dX11_isRest_41 : decode cX11_isRest 41 = .ok (.if_icmp .ne 11, 3) := by decide +kernel
theorem dX11_isRest_44 : decode cX11_isRest 44 = .ok (.iload_n 3, 1) := by decide +kernel
theorem dX11_isRest_45 : decode cX11_isRest 45 = .ok (.ifCond .ne 7, 3) := by decide +kernel
theorem dX11_isRest_48 : decode cX11_isRest 48 = .ok (.iconst 1, 1) := by decide +kernel
theorem dX11_isRest_49 : decode cX11_isRest 49 = .ok (.goto 4, 3) := by decide +kernel
theorem dX11_isRest_52 : decode cX11_isRest 52 = .ok (.iconst 0, 1) := by decide +kernel
theorem dX11_isRest_53 : decode cX11_isRest 53 = .ok (.ireturn, 1) := by decide +kernel
theorem dX11_readAs_0 : decode cX11_readAs 0 = .ok (.aload_n 0, 1) := by decide +kernel
theorem dX11_readAs_1 : decode cX11_readAs 1 = .ok (.getfield 26, 3) := by decide +kernel
theorem dX11_readAs_4 : decode cX11_readAs 4 = .ok (.bipush 60, 2) := by decide +kernel
theorem dX11_readAs_6 : decode cX11_readAs 6 = .ok (.iload_n 1, 1) := by decide +kernel
theorem dX11_readAs_7 : decode cX11_readAs 7 = .ok (.imul, 1) := by decide +kernel
theorem dX11_readAs_8 : decode cX11_readAs 8 = .ok (.iload_n 2, 1) := by decide +kernel
theorem dX11_readAs_9 : decode cX11_readAs 9 = .ok (.iadd, 1) := by decide +kernel
theorem dX11_readAs_10 : decode cX11_readAs 10 = .ok (.iaload, 1) := by decide +kernel
theorem dX11_readAs_11 : decode cX11_readAs 11 = .ok (.istore 4, 2) := by decide +kernel
theorem dX11_readAs_13 : decode cX11_readAs 13 = .ok (.iload 4, 2) := by decide +kernel
theorem dX11_readAs_15 : decode cX11_readAs 15 = .ok (.iconst 4, 1) := by decide +kernel
theorem dX11_readAs_16 : decode cX11_readAs 16 = .ok (.if_icmp .ne 13, 3) := by decide +kernel
theorem dX11_readAs_19 : decode cX11_readAs 19 = .ok (.iload_n 3, 1) := by decide +kernel
theorem dX11_readAs_20 : decode cX11_readAs 20 = .ok (.ifCond .eq 7, 3) := by decide +kernel
theorem dX11_readAs_23 : decode cX11_readAs 23 = .ok (.iconst 0, 1) := by decide +kernel
theorem dX11_readAs_24 : decode cX11_readAs 24 = .ok (.goto 4, 3) := by decide +kernel
theorem dX11_readAs_27 : decode cX11_readAs 27 = .ok (.iconst 2, 1) := by decide +kernel
theorem dX11_readAs_28 : decode cX11_readAs 28 = .ok (.ireturn, 1) := by decide +kernel
theorem dX11_readAs_29 : decode cX11_readAs 29 = .ok (.iload 4, 2) := by decide +kernel
theorem dX11_readAs_31 : decode cX11_readAs 31 = .ok (.iconst 3, 1) := by decide +kernel
theorem dX11_readAs_32 : decode cX11_readAs 32 = .ok (.if_icmp .ne 33, 3) := by decide +kernel
theorem dX11_readAs_35 : decode cX11_readAs 35 = .ok (.aload_n 0, 1) := by decide +kernel
theorem dX11_readAs_36 : decode cX11_readAs 36 = .ok (.iload_n 1, 1) := by decide +kernel
theorem dX11_readAs_37 : decode cX11_readAs 37 = .ok (.iload_n 2, 1) := by decide +kernel
theorem dX11_readAs_38 : decode cX11_readAs 38 = .ok (.iconst 1, 1) := by decide +kernel
theorem dX11_readAs_39 : decode cX11_readAs 39 = .ok (.isub, 1) := by decide +kernel
theorem dX11_readAs_40 : decode cX11_readAs 40 = .ok (.iload_n 3, 1) := by decide +kernel
theorem dX11_readAs_41 : decode cX11_readAs 41 = .ok (.invokevirtual 117, 3) := by decide +kernel
theorem dX11_readAs_44 : decode cX11_readAs 44 = .ok (.ifCond .eq 19, 3) := by decide +kernel
theorem dX11_readAs_47 : decode cX11_readAs 47 = .ok (.aload_n 0, 1) := by decide +kernel
theorem dX11_readAs_48 : decode cX11_readAs 48 = .ok (.iload_n 1, 1) := by decide +kernel
theorem dX11_readAs_49 : decode cX11_readAs 49 = .ok (.iload_n 2, 1) := by decide +kernel
theorem dX11_readAs_50 : decode cX11_readAs 50 = .ok (.iconst 1, 1) := by decide +kernel
theorem dX11_readAs_51 : decode cX11_readAs 51 = .ok (.iadd, 1) := by decide +kernel
theorem dX11_readAs_52 : decode cX11_readAs 52 = .ok (.iload_n 3, 1) := by decide +kernel
theorem dX11_readAs_53 : decode cX11_readAs 53 = .ok (.invokevirtual 117, 3) := by decide +kernel
theorem dX11_readAs_56 : decode cX11_readAs 56 = .ok (.ifCond .eq 7, 3) := by decide +kernel
theorem dX11_readAs_59 : decode cX11_readAs 59 = .ok (.iconst 2, 1) := by decide +kernel
theorem dX11_readAs_60 : decode cX11_readAs 60 = .ok (.goto 4, 3) := by decide +kernel
theorem dX11_readAs_63 : decode cX11_readAs 63 = .ok (.iconst 1, 1) := by decide +kernel
theorem dX11_readAs_64 : decode cX11_readAs 64 = .ok (.ireturn, 1) := by decide +kernel
theorem dX11_readAs_65 : decode cX11_readAs 65 = .ok (.iload 4, 2) := by decide +kernel
theorem dX11_readAs_67 : decode cX11_readAs 67 = .ok (.ireturn, 1) := by decide +kernel
theorem dX11_lays_0 : decode cX11_lays 0 = .ok (.aload_n 0, 1) := by decide +kernel
theorem dX11_lays_1 : decode cX11_lays 1 = .ok (.iconst 0, 1) := by decide +kernel
theorem dX11_lays_2 : decode cX11_lays 2 = .ok (.putfield 121, 3) := by decide +kernel
theorem dX11_lays_5 : decode cX11_lays 5 = .ok (.iconst 0, 1) := by decide +kernel
theorem dX11_lays_6 : decode cX11_lays 6 = .ok (.istore_n 3, 1) := by decide +kernel
theorem dX11_lays_7 : decode cX11_lays 7 = .ok (.iload_n 3, 1) := by decide +kernel
theorem dX11_lays_8 : decode cX11_lays 8 = .ok (.aload_n 0, 1) := by decide +kernel
theorem dX11_lays_9 : decode cX11_lays 9 = .ok (.getfield 20, 3) := by decide +kernel
theorem dX11_lays_12 : decode cX11_lays 12 = .ok (.iload_n 1, 1) := by decide +kernel
theorem dX11_lays_13 : decode cX11_lays 13 = .ok (.iaload, 1) := by decide +kernel
theorem dX11_lays_14 : decode cX11_lays 14 = .ok (.if_icmp .ge 64, 3) := by decide +kernel
theorem dX11_lays_17 : decode cX11_lays 17 = .ok (.aload_n 0, 1) := by decide +kernel
theorem dX11_lays_18 : decode cX11_lays 18 = .ok (.iload_n 1, 1) := by decide +kernel
theorem dX11_lays_19 : decode cX11_lays 19 = .ok (.iload_n 3, 1) := by decide +kernel
theorem dX11_lays_20 : decode cX11_lays 20 = .ok (.iload_n 2, 1) := by decide +kernel
theorem dX11_lays_21 : decode cX11_lays 21 = .ok (.invokevirtual 124, 3) := by decide +kernel
theorem dX11_lays_24 : decode cX11_lays 24 = .ok (.istore 4, 2) := by decide +kernel
theorem dX11_lays_26 : decode cX11_lays 26 = .ok (.iconst 0, 1) := by decide +kernel
theorem dX11_lays_27 : decode cX11_lays 27 = .ok (.istore 5, 2) := by decide +kernel
theorem dX11_lays_29 : decode cX11_lays 29 = .ok (.iload 5, 2) := by decide +kernel
theorem dX11_lays_31 : decode cX11_lays 31 = .ok (.aload_n 0, 1) := by decide +kernel
theorem dX11_lays_32 : decode cX11_lays 32 = .ok (.getfield 29, 3) := by decide +kernel
theorem dX11_lays_35 : decode cX11_lays 35 = .ok (.bipush 60, 2) := by decide +kernel
theorem dX11_lays_37 : decode cX11_lays 37 = .ok (.iload_n 1, 1) := by decide +kernel
theorem dX11_lays_38 : decode cX11_lays 38 = .ok (.imul, 1) := by decide +kernel
theorem dX11_lays_39 : decode cX11_lays 39 = .ok (.iload_n 3, 1) := by decide +kernel
theorem dX11_lays_40 : decode cX11_lays 40 = .ok (.iadd, 1) := by decide +kernel
theorem dX11_lays_41 : decode cX11_lays 41 = .ok (.iaload, 1) := by decide +kernel
theorem dX11_lays_42 : decode cX11_lays 42 = .ok (.if_icmp .ge 30, 3) := by decide +kernel
theorem dX11_lays_45 : decode cX11_lays 45 = .ok (.aload_n 0, 1) := by decide +kernel
theorem dX11_lays_46 : decode cX11_lays 46 = .ok (.getfield 44, 3) := by decide +kernel
theorem dX11_lays_49 : decode cX11_lays 49 = .ok (.aload_n 0, 1) := by decide +kernel
theorem dX11_lays_50 : decode cX11_lays 50 = .ok (.getfield 121, 3) := by decide +kernel
theorem dX11_lays_53 : decode cX11_lays 53 = .ok (.iload 4, 2) := by decide +kernel
theorem dX11_lays_55 : decode cX11_lays 55 = .ok (.iastore, 1) := by decide +kernel
theorem dX11_lays_56 : decode cX11_lays 56 = .ok (.aload_n 0, 1) := by decide +kernel
theorem dX11_lays_57 : decode cX11_lays 57 = .ok (.aload_n 0, 1) := by decide +kernel
theorem dX11_lays_58 : decode cX11_lays 58 = .ok (.getfield 121, 3) := by decide +kernel
theorem dX11_lays_61 : decode cX11_lays 61 = .ok (.iconst 1, 1) := by decide +kernel
theorem dX11_lays_62 : decode cX11_lays 62 = .ok (.iadd, 1) := by decide +kernel
theorem dX11_lays_63 : decode cX11_lays 63 = .ok (.putfield 121, 3) := by decide +kernel
theorem dX11_lays_66 : decode cX11_lays 66 = .ok (.iinc 5 1, 3) := by decide +kernel
theorem dX11_lays_69 : decode cX11_lays 69 = .ok (.goto (-40), 3) := by decide +kernel
theorem dX11_lays_72 : decode cX11_lays 72 = .ok (.iinc 3 1, 3) := by decide +kernel
theorem dX11_lays_75 : decode cX11_lays 75 = .ok (.goto (-68), 3) := by decide +kernel
theorem dX11_lays_78 : decode cX11_lays 78 = .ok (.aload_n 0, 1) := by decide +kernel
theorem dX11_lays_79 : decode cX11_lays 79 = .ok (.getfield 47, 3) := by decide +kernel
theorem dX11_lays_82 : decode cX11_lays 82 = .ok (.iconst 0, 1) := by decide +kernel
theorem dX11_lays_83 : decode cX11_lays 83 = .ok (.iconst 0, 1) := by decide +kernel
theorem dX11_lays_84 : decode cX11_lays 84 = .ok (.iastore, 1) := by decide +kernel
theorem dX11_lays_85 : decode cX11_lays 85 = .ok (.aload_n 0, 1) := by decide +kernel
theorem dX11_lays_86 : decode cX11_lays 86 = .ok (.iconst 0, 1) := by decide +kernel
theorem dX11_lays_87 : decode cX11_lays 87 = .ok (.putfield 128, 3) := by decide +kernel
theorem dX11_lays_90 : decode cX11_lays 90 = .ok (.iconst 0, 1) := by decide +kernel
theorem dX11_lays_91 : decode cX11_lays 91 = .ok (.istore_n 3, 1) := by decide +kernel
theorem dX11_lays_92 : decode cX11_lays 92 = .ok (.iload_n 3, 1) := by decide +kernel
theorem dX11_lays_93 : decode cX11_lays 93 = .ok (.aload_n 0, 1) := by decide +kernel
theorem dX11_lays_94 : decode cX11_lays 94 = .ok (.getfield 121, 3) := by decide +kernel
theorem dX11_lays_97 : decode cX11_lays 97 = .ok (.if_icmp .ge 101, 3) := by decide +kernel
theorem dX11_lays_100 : decode cX11_lays 100 = .ok (.aload_n 0, 1) := by decide +kernel
theorem dX11_lays_101 : decode cX11_lays 101 = .ok (.getfield 47, 3) := by decide +kernel
theorem dX11_lays_104 : decode cX11_lays 104 = .ok (.iload_n 3, 1) := by decide +kernel
theorem dX11_lays_105 : decode cX11_lays 105 = .ok (.iconst 1, 1) := by decide +kernel
theorem dX11_lays_106 : decode cX11_lays 106 = .ok (.iadd, 1) := by decide +kernel
theorem dX11_lays_107 : decode cX11_lays 107 = .ok (.aload_n 0, 1) := by decide +kernel
theorem dX11_lays_108 : decode cX11_lays 108 = .ok (.getfield 47, 3) := by decide +kernel
theorem dX11_lays_111 : decode cX11_lays 111 = .ok (.iload_n 3, 1) := by decide +kernel
theorem dX11_lays_112 : decode cX11_lays 112 = .ok (.iaload, 1) := by decide +kernel
theorem dX11_lays_113 : decode cX11_lays 113 = .ok (.aload_n 0, 1) := by decide +kernel
theorem dX11_lays_114 : decode cX11_lays 114 = .ok (.getfield 44, 3) := by decide +kernel
theorem dX11_lays_117 : decode cX11_lays 117 = .ok (.iload_n 3, 1) := by decide +kernel
theorem dX11_lays_118 : decode cX11_lays 118 = .ok (.iaload, 1) := by decide +kernel
theorem dX11_lays_119 : decode cX11_lays 119 = .ok (.ifCond .ne 7, 3) := by decide +kernel
theorem dX11_lays_122 : decode cX11_lays 122 = .ok (.iconst 1, 1) := by decide +kernel
theorem dX11_lays_123 : decode cX11_lays 123 = .ok (.goto 4, 3) := by decide +kernel
theorem dX11_lays_126 : decode cX11_lays 126 = .ok (.iconst 0, 1) := by decide +kernel
theorem dX11_lays_127 : decode cX11_lays 127 = .ok (.iadd, 1) := by decide +kernel
theorem dX11_lays_128 : decode cX11_lays 128 = .ok (.iastore, 1) := by decide +kernel
theorem dX11_lays_129 : decode cX11_lays 129 = .ok (.aload_n 0, 1) := by decide +kernel
theorem dX11_lays_130 : decode cX11_lays 130 = .ok (.getfield 44, 3) := by decide +kernel
theorem dX11_lays_133 : decode cX11_lays 133 = .ok (.iload_n 3, 1) := by decide +kernel
theorem dX11_lays_134 : decode cX11_lays 134 = .ok (.iaload, 1) := by decide +kernel
theorem dX11_lays_135 : decode cX11_lays 135 = .ok (.iconst 2, 1) := by decide +kernel
theorem dX11_lays_136 : decode cX11_lays 136 = .ok (.if_icmp .eq 6, 3) := by decide +kernel
theorem dX11_lays_139 : decode cX11_lays 139 = .ok (.goto 53, 3) := by decide +kernel
theorem dX11_lays_142 : decode cX11_lays 142 = .ok (.iload_n 3, 1) := by decide +kernel
theorem dX11_lays_143 : decode cX11_lays 143 = .ok (.ifCond .eq 15, 3) := by decide +kernel
theorem dX11_lays_146 : decode cX11_lays 146 = .ok (.aload_n 0, 1) := by decide +kernel
theorem dX11_lays_147 : decode cX11_lays 147 = .ok (.getfield 44, 3) := by decide +kernel
theorem dX11_lays_150 : decode cX11_lays 150 = .ok (.iload_n 3, 1) := by decide +kernel
theorem dX11_lays_151 : decode cX11_lays 151 = .ok (.iconst 1, 1) := by decide +kernel
theorem dX11_lays_152 : decode cX11_lays 152 = .ok (.isub, 1) := by decide +kernel
theorem dX11_lays_153 : decode cX11_lays 153 = .ok (.iaload, 1) := by decide +kernel
theorem dX11_lays_154 : decode cX11_lays 154 = .ok (.iconst 2, 1) := by decide +kernel
theorem dX11_lays_155 : decode cX11_lays 155 = .ok (.if_icmp .eq 23, 3) := by decide +kernel
theorem dX11_lays_158 : decode cX11_lays 158 = .ok (.aload_n 0, 1) := by decide +kernel
theorem dX11_lays_159 : decode cX11_lays 159 = .ok (.getfield 50, 3) := by decide +kernel
theorem dX11_lays_162 : decode cX11_lays 162 = .ok (.aload_n 0, 1) := by decide +kernel
theorem dX11_lays_163 : decode cX11_lays 163 = .ok (.getfield 128, 3) := by decide +kernel
theorem dX11_lays_166 : decode cX11_lays 166 = .ok (.iload_n 3, 1) := by decide +kernel
theorem dX11_lays_167 : decode cX11_lays 167 = .ok (.iastore, 1) := by decide +kernel
theorem dX11_lays_168 : decode cX11_lays 168 = .ok (.aload_n 0, 1) := by decide +kernel
theorem dX11_lays_169 : decode cX11_lays 169 = .ok (.aload_n 0, 1) := by decide +kernel
theorem dX11_lays_170 : decode cX11_lays 170 = .ok (.getfield 128, 3) := by decide +kernel
theorem dX11_lays_173 : decode cX11_lays 173 = .ok (.iconst 1, 1) := by decide +kernel
theorem dX11_lays_174 : decode cX11_lays 174 = .ok (.iadd, 1) := by decide +kernel
theorem dX11_lays_175 : decode cX11_lays 175 = .ok (.putfield 128, 3) := by decide +kernel
theorem dX11_lays_178 : decode cX11_lays 178 = .ok (.aload_n 0, 1) := by decide +kernel
theorem dX11_lays_179 : decode cX11_lays 179 = .ok (.getfield 53, 3) := by decide +kernel
theorem dX11_lays_182 : decode cX11_lays 182 = .ok (.aload_n 0, 1) := by decide +kernel
theorem dX11_lays_183 : decode cX11_lays 183 = .ok (.getfield 128, 3) := by decide +kernel
theorem dX11_lays_186 : decode cX11_lays 186 = .ok (.iconst 1, 1) := by decide +kernel
theorem dX11_lays_187 : decode cX11_lays 187 = .ok (.isub, 1) := by decide +kernel
theorem dX11_lays_188 : decode cX11_lays 188 = .ok (.iload_n 3, 1) := by decide +kernel
theorem dX11_lays_189 : decode cX11_lays 189 = .ok (.iconst 1, 1) := by decide +kernel
theorem dX11_lays_190 : decode cX11_lays 190 = .ok (.iadd, 1) := by decide +kernel
theorem dX11_lays_191 : decode cX11_lays 191 = .ok (.iastore, 1) := by decide +kernel
theorem dX11_lays_192 : decode cX11_lays 192 = .ok (.iinc 3 1, 3) := by decide +kernel
theorem dX11_lays_195 : decode cX11_lays 195 = .ok (.goto (-103), 3) := by decide +kernel
theorem dX11_lays_198 : decode cX11_lays 198 = .ok (.return_, 1) := by decide +kernel
theorem dX11_runLength_0 : decode cX11_runLength 0 = .ok (.aload_n 0, 1) := by decide +kernel
theorem dX11_runLength_1 : decode cX11_runLength 1 = .ok (.getfield 53, 3) := by decide +kernel
theorem dX11_runLength_4 : decode cX11_runLength 4 = .ok (.iload_n 1, 1) := by decide +kernel
theorem dX11_runLength_5 : decode cX11_runLength 5 = .ok (.iaload, 1) := by decide +kernel
theorem dX11_runLength_6 : decode cX11_runLength 6 = .ok (.aload_n 0, 1) := by decide +kernel
theorem dX11_runLength_7 : decode cX11_runLength 7 = .ok (.getfield 50, 3) := by decide +kernel
theorem dX11_runLength_10 : decode cX11_runLength 10 = .ok (.iload_n 1, 1) := by decide +kernel
theorem dX11_runLength_11 : decode cX11_runLength 11 = .ok (.iaload, 1) := by decide +kernel
theorem dX11_runLength_12 : decode cX11_runLength 12 = .ok (.isub, 1) := by decide +kernel
theorem dX11_runLength_13 : decode cX11_runLength 13 = .ok (.ireturn, 1) := by decide +kernel
theorem dX11_tells_0 : decode cX11_tells 0 = .ok (.iload_n 3, 1) := by decide +kernel
theorem dX11_tells_1 : decode cX11_tells 1 = .ok (.ifCond .ne 4, 3) := by decide +kernel
theorem dX11_tells_4 : decode cX11_tells 4 = .ok (.return_, 1) := by decide +kernel
theorem dX11_tells_5 : decode cX11_tells 5 = .ok (.aload_n 0, 1) := by decide +kernel
theorem dX11_tells_6 : decode cX11_tells 6 = .ok (.getfield 131, 3) := by decide +kernel
theorem dX11_tells_9 : decode cX11_tells 9 = .ok (.istore 4, 2) := by decide +kernel
theorem dX11_tells_11 : decode cX11_tells 11 = .ok (.iload 4, 2) := by decide +kernel
theorem dX11_tells_13 : decode cX11_tells 13 = .ok (.ifCond .le 99, 3) := by decide +kernel
theorem dX11_tells_16 : decode cX11_tells 16 = .ok (.aload_n 0, 1) := by decide +kernel
theorem dX11_tells_17 : decode cX11_tells 17 = .ok (.getfield 56, 3) := by decide +kernel
theorem dX11_tells_20 : decode cX11_tells 20 = .ok (.iload 4, 2) := by decide +kernel
theorem dX11_tells_22 : decode cX11_tells 22 = .ok (.iconst 1, 1) := by decide +kernel
theorem dX11_tells_23 : decode cX11_tells 23 = .ok (.isub, 1) := by decide +kernel
theorem dX11_tells_24 : decode cX11_tells 24 = .ok (.iaload, 1) := by decide +kernel
theorem dX11_tells_25 : decode cX11_tells 25 = .ok (.iload_n 1, 1) := by decide +kernel
theorem dX11_tells_26 : decode cX11_tells 26 = .ok (.if_icmp .gt 29, 3) := by decide +kernel
theorem dX11_tells_29 : decode cX11_tells 29 = .ok (.aload_n 0, 1) := by decide +kernel
theorem dX11_tells_30 : decode cX11_tells 30 = .ok (.getfield 56, 3) := by decide +kernel
theorem dX11_tells_33 : decode cX11_tells 33 = .ok (.iload 4, 2) := by decide +kernel
theorem dX11_tells_35 : decode cX11_tells 35 = .ok (.iconst 1, 1) := by decide +kernel
theorem dX11_tells_36 : decode cX11_tells 36 = .ok (.isub, 1) := by decide +kernel
theorem dX11_tells_37 : decode cX11_tells 37 = .ok (.iaload, 1) := by decide +kernel
theorem dX11_tells_38 : decode cX11_tells 38 = .ok (.iload_n 1, 1) := by decide +kernel
theorem dX11_tells_39 : decode cX11_tells 39 = .ok (.if_icmp .ne 73, 3) := by decide +kernel
theorem dX11_tells_42 : decode cX11_tells 42 = .ok (.aload_n 0, 1) := by decide +kernel
theorem dX11_tells_43 : decode cX11_tells 43 = .ok (.getfield 59, 3) := by decide +kernel
theorem dX11_tells_46 : decode cX11_tells 46 = .ok (.iload 4, 2) := by decide +kernel
theorem dX11_tells_48 : decode cX11_tells 48 = .ok (.iconst 1, 1) := by decide +kernel
theorem dX11_tells_49 : decode cX11_tells 49 = .ok (.isub, 1) := by decide +kernel
theorem dX11_tells_50 : decode cX11_tells 50 = .ok (.iaload, 1) := by decide +kernel
theorem dX11_tells_51 : decode cX11_tells 51 = .ok (.iload_n 2, 1) := by decide +kernel
theorem dX11_tells_52 : decode cX11_tells 52 = .ok (.if_icmp .le 60, 3) := by decide +kernel
theorem dX11_tells_55 : decode cX11_tells 55 = .ok (.aload_n 0, 1) := by decide +kernel
theorem dX11_tells_56 : decode cX11_tells 56 = .ok (.getfield 56, 3) := by decide +kernel
theorem dX11_tells_59 : decode cX11_tells 59 = .ok (.iload 4, 2) := by decide +kernel
theorem dX11_tells_61 : decode cX11_tells 61 = .ok (.aload_n 0, 1) := by decide +kernel
theorem dX11_tells_62 : decode cX11_tells 62 = .ok (.getfield 56, 3) := by decide +kernel
theorem dX11_tells_65 : decode cX11_tells 65 = .ok (.iload 4, 2) := by decide +kernel
theorem dX11_tells_67 : decode cX11_tells 67 = .ok (.iconst 1, 1) := by decide +kernel
theorem dX11_tells_68 : decode cX11_tells 68 = .ok (.isub, 1) := by decide +kernel
theorem dX11_tells_69 : decode cX11_tells 69 = .ok (.iaload, 1) := by decide +kernel
theorem dX11_tells_70 : decode cX11_tells 70 = .ok (.iastore, 1) := by decide +kernel
theorem dX11_tells_71 : decode cX11_tells 71 = .ok (.aload_n 0, 1) := by decide +kernel
theorem dX11_tells_72 : decode cX11_tells 72 = .ok (.getfield 59, 3) := by decide +kernel
theorem dX11_tells_75 : decode cX11_tells 75 = .ok (.iload 4, 2) := by decide +kernel
theorem dX11_tells_77 : decode cX11_tells 77 = .ok (.aload_n 0, 1) := by decide +kernel
theorem dX11_tells_78 : decode cX11_tells 78 = .ok (.getfield 59, 3) := by decide +kernel
theorem dX11_tells_81 : decode cX11_tells 81 = .ok (.iload 4, 2) := by decide +kernel
theorem dX11_tells_83 : decode cX11_tells 83 = .ok (.iconst 1, 1) := by decide +kernel
theorem dX11_tells_84 : decode cX11_tells 84 = .ok (.isub, 1) := by decide +kernel
theorem dX11_tells_85 : decode cX11_tells 85 = .ok (.iaload, 1) := by decide +kernel
theorem dX11_tells_86 : decode cX11_tells 86 = .ok (.iastore, 1) := by decide +kernel
theorem dX11_tells_87 : decode cX11_tells 87 = .ok (.aload_n 0, 1) := by decide +kernel
theorem dX11_tells_88 : decode cX11_tells 88 = .ok (.getfield 62, 3) := by decide +kernel
theorem dX11_tells_91 : decode cX11_tells 91 = .ok (.iload 4, 2) := by decide +kernel
theorem dX11_tells_93 : decode cX11_tells 93 = .ok (.aload_n 0, 1) := by decide +kernel
theorem dX11_tells_94 : decode cX11_tells 94 = .ok (.getfield 62, 3) := by decide +kernel
theorem dX11_tells_97 : decode cX11_tells 97 = .ok (.iload 4, 2) := by decide +kernel
theorem dX11_tells_99 : decode cX11_tells 99 = .ok (.iconst 1, 1) := by decide +kernel
theorem dX11_tells_100 : decode cX11_tells 100 = .ok (.isub, 1) := by decide +kernel
theorem dX11_tells_101 : decode cX11_tells 101 = .ok (.iaload, 1) := by decide +kernel
theorem dX11_tells_102 : decode cX11_tells 102 = .ok (.iastore, 1) := by decide +kernel
theorem dX11_tells_103 : decode cX11_tells 103 = .ok (.iload 4, 2) := by decide +kernel
theorem dX11_tells_105 : decode cX11_tells 105 = .ok (.iconst 1, 1) := by decide +kernel
theorem dX11_tells_106 : decode cX11_tells 106 = .ok (.isub, 1) := by decide +kernel
theorem dX11_tells_107 : decode cX11_tells 107 = .ok (.istore 4, 2) := by decide +kernel
theorem dX11_tells_109 : decode cX11_tells 109 = .ok (.goto (-98), 3) := by decide +kernel
theorem dX11_tells_112 : decode cX11_tells 112 = .ok (.aload_n 0, 1) := by decide +kernel
theorem dX11_tells_113 : decode cX11_tells 113 = .ok (.getfield 56, 3) := by decide +kernel
theorem dX11_tells_116 : decode cX11_tells 116 = .ok (.iload 4, 2) := by decide +kernel
theorem dX11_tells_118 : decode cX11_tells 118 = .ok (.iload_n 1, 1) := by decide +kernel
theorem dX11_tells_119 : decode cX11_tells 119 = .ok (.iastore, 1) := by decide +kernel
theorem dX11_tells_120 : decode cX11_tells 120 = .ok (.aload_n 0, 1) := by decide +kernel
theorem dX11_tells_121 : decode cX11_tells 121 = .ok (.getfield 59, 3) := by decide +kernel
theorem dX11_tells_124 : decode cX11_tells 124 = .ok (.iload 4, 2) := by decide +kernel
theorem dX11_tells_126 : decode cX11_tells 126 = .ok (.iload_n 2, 1) := by decide +kernel
theorem dX11_tells_127 : decode cX11_tells 127 = .ok (.iastore, 1) := by decide +kernel
theorem dX11_tells_128 : decode cX11_tells 128 = .ok (.aload_n 0, 1) := by decide +kernel
theorem dX11_tells_129 : decode cX11_tells 129 = .ok (.getfield 62, 3) := by decide +kernel
theorem dX11_tells_132 : decode cX11_tells 132 = .ok (.iload 4, 2) := by decide +kernel
theorem dX11_tells_134 : decode cX11_tells 134 = .ok (.iload_n 3, 1) := by decide +kernel
theorem dX11_tells_135 : decode cX11_tells 135 = .ok (.iastore, 1) := by decide +kernel
theorem dX11_tells_136 : decode cX11_tells 136 = .ok (.aload_n 0, 1) := by decide +kernel
theorem dX11_tells_137 : decode cX11_tells 137 = .ok (.aload_n 0, 1) := by decide +kernel
theorem dX11_tells_138 : decode cX11_tells 138 = .ok (.getfield 131, 3) := by decide +kernel
theorem dX11_tells_141 : decode cX11_tells 141 = .ok (.iconst 1, 1) := by decide +kernel
theorem dX11_tells_142 : decode cX11_tells 142 = .ok (.iadd, 1) := by decide +kernel
theorem dX11_tells_143 : decode cX11_tells 143 = .ok (.putfield 131, 3) := by decide +kernel
theorem dX11_tells_146 : decode cX11_tells 146 = .ok (.return_, 1) := by decide +kernel
theorem dX11_resets_0 : decode cX11_resets 0 = .ok (.iload_n 1, 1) := by decide +kernel
theorem dX11_resets_1 : decode cX11_resets 1 = .ok (.aload_n 0, 1) := by decide +kernel
theorem dX11_resets_2 : decode cX11_resets 2 = .ok (.getfield 13, 3) := by decide +kernel
theorem dX11_resets_5 : decode cX11_resets 5 = .ok (.iconst 1, 1) := by decide +kernel
theorem dX11_resets_6 : decode cX11_resets 6 = .ok (.iaload, 1) := by decide +kernel
theorem dX11_resets_7 : decode cX11_resets 7 = .ok (.if_icmp .ge 20, 3) := by decide +kernel
theorem dX11_resets_10 : decode cX11_resets 10 = .ok (.iload_n 1, 1) := by decide +kernel
theorem dX11_resets_11 : decode cX11_resets 11 = .ok (.aload_n 0, 1) := by decide +kernel
theorem dX11_resets_12 : decode cX11_resets 12 = .ok (.getfield 13, 3) := by decide +kernel
theorem dX11_resets_15 : decode cX11_resets 15 = .ok (.iconst 3, 1) := by decide +kernel
theorem dX11_resets_16 : decode cX11_resets 16 = .ok (.iaload, 1) := by decide +kernel
theorem dX11_resets_17 : decode cX11_resets 17 = .ok (.if_icmp .lt 14, 3) := by decide +kernel
theorem dX11_resets_20 : decode cX11_resets 20 = .ok (.aload_n 0, 1) := by decide +kernel
theorem dX11_resets_21 : decode cX11_resets 21 = .ok (.getfield 134, 3) := by decide +kernel
theorem dX11_resets_24 : decode cX11_resets 24 = .ok (.ifCond .eq 7, 3) := by decide +kernel
theorem dX11_resets_27 : decode cX11_resets 27 = .ok (.iconst 1, 1) := by decide +kernel
theorem dX11_resets_28 : decode cX11_resets 28 = .ok (.goto 4, 3) := by decide +kernel
theorem dX11_resets_31 : decode cX11_resets 31 = .ok (.iconst 0, 1) := by decide +kernel
theorem dX11_resets_32 : decode cX11_resets 32 = .ok (.ireturn, 1) := by decide +kernel
theorem dX11_ruleOne_0 : decode cX11_ruleOne 0 = .ok (.aload_n 0, 1) := by decide +kernel
theorem dX11_ruleOne_1 : decode cX11_ruleOne 1 = .ok (.iconst 0, 1) := by decide +kernel
theorem dX11_ruleOne_2 : decode cX11_ruleOne 2 = .ok (.putfield 138, 3) := by decide +kernel
theorem dX11_ruleOne_5 : decode cX11_ruleOne 5 = .ok (.aload_n 0, 1) := by decide +kernel
theorem dX11_ruleOne_6 : decode cX11_ruleOne 6 = .ok (.iconst 0, 1) := by decide +kernel
theorem dX11_ruleOne_7 : decode cX11_ruleOne 7 = .ok (.putfield 134, 3) := by decide +kernel
theorem dX11_ruleOne_10 : decode cX11_ruleOne 10 = .ok (.iconst 0, 1) := by decide +kernel
theorem dX11_ruleOne_11 : decode cX11_ruleOne 11 = .ok (.istore_n 1, 1) := by decide +kernel
theorem dX11_ruleOne_12 : decode cX11_ruleOne 12 = .ok (.iconst (-1), 1) := by decide +kernel
theorem dX11_ruleOne_13 : decode cX11_ruleOne 13 = .ok (.istore_n 2, 1) := by decide +kernel
theorem dX11_ruleOne_14 : decode cX11_ruleOne 14 = .ok (.iconst 0, 1) := by decide +kernel
theorem dX11_ruleOne_15 : decode cX11_ruleOne 15 = .ok (.istore_n 3, 1) := by decide +kernel
theorem dX11_ruleOne_16 : decode cX11_ruleOne 16 = .ok (.iconst 0, 1) := by decide +kernel
theorem dX11_ruleOne_17 : decode cX11_ruleOne 17 = .ok (.istore 4, 2) := by decide +kernel
theorem dX11_ruleOne_19 : decode cX11_ruleOne 19 = .ok (.iload 4, 2) := by decide +kernel
theorem dX11_ruleOne_21 : decode cX11_ruleOne 21 = .ok (.aload_n 0, 1) := by decide +kernel
theorem dX11_ruleOne_22 : decode cX11_ruleOne 22 = .ok (.getfield 121, 3) := by decide +kernel
theorem dX11_ruleOne_25 : decode cX11_ruleOne 25 = .ok (.if_icmp .ge 142, 3) := by decide +kernel
theorem dX11_ruleOne_28 : decode cX11_ruleOne 28 = .ok (.aload_n 0, 1) := by decide +kernel
theorem dX11_ruleOne_29 : decode cX11_ruleOne 29 = .ok (.getfield 44, 3) := by decide +kernel
theorem dX11_ruleOne_32 : decode cX11_ruleOne 32 = .ok (.iload 4, 2) := by decide +kernel
theorem dX11_ruleOne_34 : decode cX11_ruleOne 34 = .ok (.iaload, 1) := by decide +kernel
theorem dX11_ruleOne_35 : decode cX11_ruleOne 35 = .ok (.ifCond .ne 42, 3) := by decide +kernel
theorem dX11_ruleOne_38 : decode cX11_ruleOne 38 = .ok (.aload_n 0, 1) := by decide +kernel
theorem dX11_ruleOne_39 : decode cX11_ruleOne 39 = .ok (.aload_n 0, 1) := by decide +kernel
theorem dX11_ruleOne_40 : decode cX11_ruleOne 40 = .ok (.getfield 138, 3) := by decide +kernel
theorem dX11_ruleOne_43 : decode cX11_ruleOne 43 = .ok (.iconst 1, 1) := by decide +kernel
theorem dX11_ruleOne_44 : decode cX11_ruleOne 44 = .ok (.iadd, 1) := by decide +kernel
theorem dX11_ruleOne_45 : decode cX11_ruleOne 45 = .ok (.putfield 138, 3) := by decide +kernel
theorem dX11_ruleOne_48 : decode cX11_ruleOne 48 = .ok (.aload_n 0, 1) := by decide +kernel
theorem dX11_ruleOne_49 : decode cX11_ruleOne 49 = .ok (.getfield 138, 3) := by decide +kernel
theorem dX11_ruleOne_52 : decode cX11_ruleOne 52 = .ok (.aload_n 0, 1) := by decide +kernel
theorem dX11_ruleOne_53 : decode cX11_ruleOne 53 = .ok (.getfield 13, 3) := by decide +kernel
theorem dX11_ruleOne_56 : decode cX11_ruleOne 56 = .ok (.iconst 0, 1) := by decide +kernel
theorem dX11_ruleOne_57 : decode cX11_ruleOne 57 = .ok (.iaload, 1) := by decide +kernel
theorem dX11_ruleOne_58 : decode cX11_ruleOne 58 = .ok (.if_icmp .le 19, 3) := by decide +kernel
theorem dX11_ruleOne_61 : decode cX11_ruleOne 61 = .ok (.iload_n 1, 1) := by decide +kernel
theorem dX11_ruleOne_62 : decode cX11_ruleOne 62 = .ok (.iconst 1, 1) := by decide +kernel
theorem dX11_ruleOne_63 : decode cX11_ruleOne 63 = .ok (.iadd, 1) := by decide +kernel
theorem dX11_ruleOne_64 : decode cX11_ruleOne 64 = .ok (.istore_n 1, 1) := by decide +kernel
theorem dX11_ruleOne_65 : decode cX11_ruleOne 65 = .ok (.iload_n 2, 1) := by decide +kernel
theorem dX11_ruleOne_66 : decode cX11_ruleOne 66 = .ok (.iconst (-1), 1) := by decide +kernel
theorem dX11_ruleOne_67 : decode cX11_ruleOne 67 = .ok (.if_icmp .ne 8, 3) := by decide +kernel
theorem dX11_ruleOne_70 : decode cX11_ruleOne 70 = .ok (.iload 4, 2) := by decide +kernel
theorem dX11_ruleOne_72 : decode cX11_ruleOne 72 = .ok (.goto 4, 3) := by decide +kernel
theorem dX11_ruleOne_75 : decode cX11_ruleOne 75 = .ok (.iload_n 2, 1) := by decide +kernel
theorem dX11_ruleOne_76 : decode cX11_ruleOne 76 = .ok (.istore_n 2, 1) := by decide +kernel
theorem dX11_ruleOne_77 : decode cX11_ruleOne 77 = .ok (.iload_n 3, 1) := by decide +kernel
theorem dX11_ruleOne_78 : decode cX11_ruleOne 78 = .ok (.aload_n 0, 1) := by decide +kernel
theorem dX11_ruleOne_79 : decode cX11_ruleOne 79 = .ok (.getfield 128, 3) := by decide +kernel
theorem dX11_ruleOne_82 : decode cX11_ruleOne 82 = .ok (.if_icmp .eq 79, 3) := by decide +kernel
theorem dX11_ruleOne_85 : decode cX11_ruleOne 85 = .ok (.aload_n 0, 1) := by decide +kernel
theorem dX11_ruleOne_86 : decode cX11_ruleOne 86 = .ok (.getfield 53, 3) := by decide +kernel
theorem dX11_ruleOne_89 : decode cX11_ruleOne 89 = .ok (.iload_n 3, 1) := by decide +kernel
theorem dX11_ruleOne_90 : decode cX11_ruleOne 90 = .ok (.iaload, 1) := by decide +kernel
theorem dX11_ruleOne_91 : decode cX11_ruleOne 91 = .ok (.iload 4, 2) := by decide +kernel
theorem dX11_ruleOne_93 : decode cX11_ruleOne 93 = .ok (.iconst 1, 1) := by decide +kernel
theorem dX11_ruleOne_94 : decode cX11_ruleOne 94 = .ok (.iadd, 1) := by decide +kernel
theorem dX11_ruleOne_95 : decode cX11_ruleOne 95 = .ok (.if_icmp .eq 6, 3) := by decide +kernel
theorem dX11_ruleOne_98 : decode cX11_ruleOne 98 = .ok (.goto 63, 3) := by decide +kernel
theorem dX11_ruleOne_101 : decode cX11_ruleOne 101 = .ok (.aload_n 0, 1) := by decide +kernel
theorem dX11_ruleOne_102 : decode cX11_ruleOne 102 = .ok (.iload_n 3, 1) := by decide +kernel
theorem dX11_ruleOne_103 : decode cX11_ruleOne 103 = .ok (.invokevirtual 141, 3) := by decide +kernel
theorem dX11_ruleOne_106 : decode cX11_ruleOne 106 = .ok (.istore 5, 2) := by decide +kernel
theorem dX11_ruleOne_108 : decode cX11_ruleOne 108 = .ok (.aload_n 0, 1) := by decide +kernel
theorem dX11_ruleOne_109 : decode cX11_ruleOne 109 = .ok (.iload 5, 2) := by decide +kernel
theorem dX11_ruleOne_111 : decode cX11_ruleOne 111 = .ok (.invokevirtual 144, 3) := by decide +kernel
theorem dX11_ruleOne_114 : decode cX11_ruleOne 114 = .ok (.ifCond .eq 27, 3) := by decide +kernel
theorem dX11_ruleOne_117 : decode cX11_ruleOne 117 = .ok (.aload_n 0, 1) := by decide +kernel
theorem dX11_ruleOne_118 : decode cX11_ruleOne 118 = .ok (.iload_n 2, 1) := by decide +kernel
theorem dX11_ruleOne_119 : decode cX11_ruleOne 119 = .ok (.iconst 1, 1) := by decide +kernel
theorem dX11_ruleOne_120 : decode cX11_ruleOne 120 = .ok (.iload_n 1, 1) := by decide +kernel
theorem dX11_ruleOne_121 : decode cX11_ruleOne 121 = .ok (.invokevirtual 147, 3) := by decide +kernel
theorem dX11_ruleOne_124 : decode cX11_ruleOne 124 = .ok (.aload_n 0, 1) := by decide +kernel
theorem dX11_ruleOne_125 : decode cX11_ruleOne 125 = .ok (.iconst 0, 1) := by decide +kernel
theorem dX11_ruleOne_126 : decode cX11_ruleOne 126 = .ok (.putfield 138, 3) := by decide +kernel
theorem dX11_ruleOne_129 : decode cX11_ruleOne 129 = .ok (.aload_n 0, 1) := by decide +kernel
theorem dX11_ruleOne_130 : decode cX11_ruleOne 130 = .ok (.iconst 0, 1) := by decide +kernel
theorem dX11_ruleOne_131 : decode cX11_ruleOne 131 = .ok (.putfield 134, 3) := by decide +kernel
theorem dX11_ruleOne_134 : decode cX11_ruleOne 134 = .ok (.iconst 0, 1) := by decide +kernel
theorem dX11_ruleOne_135 : decode cX11_ruleOne 135 = .ok (.istore_n 1, 1) := by decide +kernel
theorem dX11_ruleOne_136 : decode cX11_ruleOne 136 = .ok (.iconst (-1), 1) := by decide +kernel
theorem dX11_ruleOne_137 : decode cX11_ruleOne 137 = .ok (.istore_n 2, 1) := by decide +kernel
theorem dX11_ruleOne_138 : decode cX11_ruleOne 138 = .ok (.goto 19, 3) := by decide +kernel
theorem dX11_ruleOne_141 : decode cX11_ruleOne 141 = .ok (.iload 5, 2) := by decide +kernel
theorem dX11_ruleOne_143 : decode cX11_ruleOne 143 = .ok (.aload_n 0, 1) := by decide +kernel
theorem dX11_ruleOne_144 : decode cX11_ruleOne 144 = .ok (.getfield 13, 3) := by decide +kernel
theorem dX11_ruleOne_147 : decode cX11_ruleOne 147 = .ok (.iconst 2, 1) := by decide +kernel
theorem dX11_ruleOne_148 : decode cX11_ruleOne 148 = .ok (.iaload, 1) := by decide +kernel
theorem dX11_ruleOne_149 : decode cX11_ruleOne 149 = .ok (.if_icmp .lt 8, 3) := by decide +kernel
theorem dX11_ruleOne_152 : decode cX11_ruleOne 152 = .ok (.aload_n 0, 1) := by decide +kernel
theorem dX11_ruleOne_153 : decode cX11_ruleOne 153 = .ok (.iconst 1, 1) := by decide +kernel
theorem dX11_ruleOne_154 : decode cX11_ruleOne 154 = .ok (.putfield 134, 3) := by decide +kernel
theorem dX11_ruleOne_157 : decode cX11_ruleOne 157 = .ok (.iload_n 3, 1) := by decide +kernel
theorem dX11_ruleOne_158 : decode cX11_ruleOne 158 = .ok (.iconst 1, 1) := by decide +kernel
theorem dX11_ruleOne_159 : decode cX11_ruleOne 159 = .ok (.iadd, 1) := by decide +kernel
theorem dX11_ruleOne_160 : decode cX11_ruleOne 160 = .ok (.istore_n 3, 1) := by decide +kernel
theorem dX11_ruleOne_161 : decode cX11_ruleOne 161 = .ok (.iinc 4 1, 3) := by decide +kernel
theorem dX11_ruleOne_164 : decode cX11_ruleOne 164 = .ok (.goto (-145), 3) := by decide +kernel
theorem dX11_ruleOne_167 : decode cX11_ruleOne 167 = .ok (.aload_n 0, 1) := by decide +kernel
theorem dX11_ruleOne_168 : decode cX11_ruleOne 168 = .ok (.iload_n 2, 1) := by decide +kernel
theorem dX11_ruleOne_169 : decode cX11_ruleOne 169 = .ok (.iconst 1, 1) := by decide +kernel
theorem dX11_ruleOne_170 : decode cX11_ruleOne 170 = .ok (.iload_n 1, 1) := by decide +kernel
theorem dX11_ruleOne_171 : decode cX11_ruleOne 171 = .ok (.invokevirtual 147, 3) := by decide +kernel
theorem dX11_ruleOne_174 : decode cX11_ruleOne 174 = .ok (.return_, 1) := by decide +kernel
theorem dX11_driveIn_0 : decode cX11_driveIn 0 = .ok (.aload_n 0, 1) := by decide +kernel
theorem dX11_driveIn_1 : decode cX11_driveIn 1 = .ok (.getfield 47, 3) := by decide +kernel
theorem dX11_driveIn_4 : decode cX11_driveIn 4 = .ok (.iload_n 2, 1) := by decide +kernel
theorem dX11_driveIn_5 : decode cX11_driveIn 5 = .ok (.iaload, 1) := by decide +kernel
theorem dX11_driveIn_6 : decode cX11_driveIn 6 = .ok (.aload_n 0, 1) := by decide +kernel
theorem dX11_driveIn_7 : decode cX11_driveIn 7 = .ok (.getfield 47, 3) := by decide +kernel
theorem dX11_driveIn_10 : decode cX11_driveIn 10 = .ok (.iload_n 1, 1) := by decide +kernel
theorem dX11_driveIn_11 : decode cX11_driveIn 11 = .ok (.iaload, 1) := by decide +kernel
theorem dX11_driveIn_12 : decode cX11_driveIn 12 = .ok (.isub, 1) := by decide +kernel
theorem dX11_driveIn_13 : decode cX11_driveIn 13 = .ok (.ireturn, 1) := by decide +kernel
theorem dX11_goesAbove_0 : decode cX11_goesAbove 0 = .ok (.iload_n 1, 1) := by decide +kernel
theorem dX11_goesAbove_1 : decode cX11_goesAbove 1 = .ok (.istore_n 3, 1) := by decide +kernel
theorem dX11_goesAbove_2 : decode cX11_goesAbove 2 = .ok (.aload_n 0, 1) := by decide +kernel
theorem dX11_goesAbove_3 : decode cX11_goesAbove 3 = .ok (.getfield 47, 3) := by decide +kernel
theorem dX11_goesAbove_6 : decode cX11_goesAbove 6 = .ok (.iload_n 3, 1) := by decide +kernel
theorem dX11_goesAbove_7 : decode cX11_goesAbove 7 = .ok (.iconst 1, 1) := by decide +kernel
theorem dX11_goesAbove_8 : decode cX11_goesAbove 8 = .ok (.iadd, 1) := by decide +kernel
theorem dX11_goesAbove_9 : decode cX11_goesAbove 9 = .ok (.iaload, 1) := by decide +kernel
theorem dX11_goesAbove_10 : decode cX11_goesAbove 10 = .ok (.aload_n 0, 1) := by decide +kernel
theorem dX11_goesAbove_11 : decode cX11_goesAbove 11 = .ok (.getfield 47, 3) := by decide +kernel
theorem dX11_goesAbove_14 : decode cX11_goesAbove 14 = .ok (.iload_n 1, 1) := by decide +kernel
theorem dX11_goesAbove_15 : decode cX11_goesAbove 15 = .ok (.iaload, 1) := by decide +kernel
theorem dX11_goesAbove_16 : decode cX11_goesAbove 16 = .ok (.isub, 1) := by decide +kernel
theorem dX11_goesAbove_17 : decode cX11_goesAbove 17 = .ok (.iload_n 2, 1) := by decide +kernel
theorem dX11_goesAbove_18 : decode cX11_goesAbove 18 = .ok (.if_icmp .gt 10, 3) := by decide +kernel
theorem dX11_goesAbove_21 : decode cX11_goesAbove 21 = .ok (.iload_n 3, 1) := by decide +kernel
theorem dX11_goesAbove_22 : decode cX11_goesAbove 22 = .ok (.iconst 1, 1) := by decide +kernel
theorem dX11_goesAbove_23 : decode cX11_goesAbove 23 = .ok (.iadd, 1) := by decide +kernel
theorem dX11_goesAbove_24 : decode cX11_goesAbove 24 = .ok (.istore_n 3, 1) := by decide +kernel
theorem dX11_goesAbove_25 : decode cX11_goesAbove 25 = .ok (.goto (-23), 3) := by decide +kernel
theorem dX11_goesAbove_28 : decode cX11_goesAbove 28 = .ok (.iload_n 3, 1) := by decide +kernel
theorem dX11_goesAbove_29 : decode cX11_goesAbove 29 = .ok (.ireturn, 1) := by decide +kernel
theorem dX11_finds_0 : decode cX11_finds 0 = .ok (.aload_n 0, 1) := by decide +kernel
theorem dX11_finds_1 : decode cX11_finds 1 = .ok (.iconst 0, 1) := by decide +kernel
theorem dX11_finds_2 : decode cX11_finds 2 = .ok (.putfield 151, 3) := by decide +kernel
theorem dX11_finds_5 : decode cX11_finds 5 = .ok (.iconst 0, 1) := by decide +kernel
theorem dX11_finds_6 : decode cX11_finds 6 = .ok (.istore_n 1, 1) := by decide +kernel
theorem dX11_finds_7 : decode cX11_finds 7 = .ok (.iload_n 1, 1) := by decide +kernel
theorem dX11_finds_8 : decode cX11_finds 8 = .ok (.aload_n 0, 1) := by decide +kernel
theorem dX11_finds_9 : decode cX11_finds 9 = .ok (.getfield 128, 3) := by decide +kernel
theorem dX11_finds_12 : decode cX11_finds 12 = .ok (.if_icmp .ge 71, 3) := by decide +kernel
theorem dX11_finds_15 : decode cX11_finds 15 = .ok (.aload_n 0, 1) := by decide +kernel
theorem dX11_finds_16 : decode cX11_finds 16 = .ok (.getfield 151, 3) := by decide +kernel
theorem dX11_finds_19 : decode cX11_finds 19 = .ok (.bipush 12, 2) := by decide +kernel
theorem dX11_finds_21 : decode cX11_finds 21 = .ok (.if_icmp .ge 62, 3) := by decide +kernel
theorem dX11_finds_24 : decode cX11_finds 24 = .ok (.aload_n 0, 1) := by decide +kernel
theorem dX11_finds_25 : decode cX11_finds 25 = .ok (.iload_n 1, 1) := by decide +kernel
theorem dX11_finds_26 : decode cX11_finds 26 = .ok (.invokevirtual 141, 3) := by decide +kernel
theorem dX11_finds_29 : decode cX11_finds 29 = .ok (.aload_n 0, 1) := by decide +kernel
theorem dX11_finds_30 : decode cX11_finds 30 = .ok (.getfield 13, 3) := by decide +kernel
theorem dX11_finds_33 : decode cX11_finds 33 = .ok (.bipush 8, 2) := by decide +kernel
theorem dX11_finds_35 : decode cX11_finds 35 = .ok (.iaload, 1) := by decide +kernel
theorem dX11_finds_36 : decode cX11_finds 36 = .ok (.if_icmp .lt 41, 3) := by decide +kernel
theorem dX11_finds_39 : decode cX11_finds 39 = .ok (.aload_n 0, 1) := by decide +kernel
theorem dX11_finds_40 : decode cX11_finds 40 = .ok (.iload_n 1, 1) := by decide +kernel
theorem dX11_finds_41 : decode cX11_finds 41 = .ok (.invokevirtual 141, 3) := by decide +kernel
theorem dX11_finds_44 : decode cX11_finds 44 = .ok (.aload_n 0, 1) := by decide +kernel
theorem dX11_finds_45 : decode cX11_finds 45 = .ok (.getfield 13, 3) := by decide +kernel
theorem dX11_finds_48 : decode cX11_finds 48 = .ok (.bipush 7, 2) := by decide +kernel
theorem dX11_finds_50 : decode cX11_finds 50 = .ok (.iaload, 1) := by decide +kernel
theorem dX11_finds_51 : decode cX11_finds 51 = .ok (.if_icmp .lt 6, 3) := by decide +kernel
theorem dX11_finds_54 : decode cX11_finds 54 = .ok (.goto 23, 3) := by decide +kernel
theorem dX11_finds_57 : decode cX11_finds 57 = .ok (.aload_n 0, 1) := by decide +kernel
theorem dX11_finds_58 : decode cX11_finds 58 = .ok (.getfield 65, 3) := by decide +kernel
theorem dX11_finds_61 : decode cX11_finds 61 = .ok (.aload_n 0, 1) := by decide +kernel
theorem dX11_finds_62 : decode cX11_finds 62 = .ok (.getfield 151, 3) := by decide +kernel
theorem dX11_finds_65 : decode cX11_finds 65 = .ok (.iload_n 1, 1) := by decide +kernel
theorem dX11_finds_66 : decode cX11_finds 66 = .ok (.iastore, 1) := by decide +kernel
theorem dX11_finds_67 : decode cX11_finds 67 = .ok (.aload_n 0, 1) := by decide +kernel
theorem dX11_finds_68 : decode cX11_finds 68 = .ok (.aload_n 0, 1) := by decide +kernel
theorem dX11_finds_69 : decode cX11_finds 69 = .ok (.getfield 151, 3) := by decide +kernel
theorem dX11_finds_72 : decode cX11_finds 72 = .ok (.iconst 1, 1) := by decide +kernel
theorem dX11_finds_73 : decode cX11_finds 73 = .ok (.iadd, 1) := by decide +kernel
theorem dX11_finds_74 : decode cX11_finds 74 = .ok (.putfield 151, 3) := by decide +kernel
theorem dX11_finds_77 : decode cX11_finds 77 = .ok (.iinc 1 1, 3) := by decide +kernel
theorem dX11_finds_80 : decode cX11_finds 80 = .ok (.goto (-73), 3) := by decide +kernel
theorem dX11_finds_83 : decode cX11_finds 83 = .ok (.return_, 1) := by decide +kernel
theorem dX11_bits_0 : decode cX11_bits 0 = .ok (.iconst 0, 1) := by decide +kernel
theorem dX11_bits_1 : decode cX11_bits 1 = .ok (.istore_n 1, 1) := by decide +kernel
theorem dX11_bits_2 : decode cX11_bits 2 = .ok (.iconst 0, 1) := by decide +kernel
theorem dX11_bits_3 : decode cX11_bits 3 = .ok (.istore_n 2, 1) := by decide +kernel
theorem dX11_bits_4 : decode cX11_bits 4 = .ok (.iload_n 2, 1) := by decide +kernel
theorem dX11_bits_5 : decode cX11_bits 5 = .ok (.bipush 12, 2) := by decide +kernel
theorem dX11_bits_7 : decode cX11_bits 7 = .ok (.if_icmp .ge 17, 3) := by decide +kernel
theorem dX11_bits_10 : decode cX11_bits 10 = .ok (.iload_n 1, 1) := by decide +kernel
theorem dX11_bits_11 : decode cX11_bits 11 = .ok (.iload_n 0, 1) := by decide +kernel
theorem dX11_bits_12 : decode cX11_bits 12 = .ok (.iload_n 2, 1) := by decide +kernel
theorem dX11_bits_13 : decode cX11_bits 13 = .ok (.ishr, 1) := by decide +kernel
