theorem dX11_bits_14 : decode cX11_bits 14 = .ok (.iconst 1, 1) := by decide +kernel
theorem dX11_bits_15 : decode cX11_bits 15 = .ok (.iand, 1) := by decide +kernel
theorem dX11_bits_16 : decode cX11_bits 16 = .ok (.iadd, 1) := by decide +kernel
theorem dX11_bits_17 : decode cX11_bits 17 = .ok (.istore_n 1, 1) := by decide +kernel
theorem dX11_bits_18 : decode cX11_bits 18 = .ok (.iinc 2 1, 3) := by decide +kernel
theorem dX11_bits_21 : decode cX11_bits 21 = .ok (.goto (-17), 3) := by decide +kernel
theorem dX11_bits_24 : decode cX11_bits 24 = .ok (.iload_n 1, 1) := by decide +kernel
theorem dX11_bits_25 : decode cX11_bits 25 = .ok (.ireturn, 1) := by decide +kernel
theorem dX11_isTaken_0 : decode cX11_isTaken 0 = .ok (.iconst 0, 1) := by decide +kernel
theorem dX11_isTaken_1 : decode cX11_isTaken 1 = .ok (.istore_n 3, 1) := by decide +kernel
theorem dX11_isTaken_2 : decode cX11_isTaken 2 = .ok (.iload_n 3, 1) := by decide +kernel
theorem dX11_isTaken_3 : decode cX11_isTaken 3 = .ok (.aload_n 0, 1) := by decide +kernel
theorem dX11_isTaken_4 : decode cX11_isTaken 4 = .ok (.getfield 151, 3) := by decide +kernel
theorem dX11_isTaken_7 : decode cX11_isTaken 7 = .ok (.if_icmp .ge 34, 3) := by decide +kernel
theorem dX11_isTaken_10 : decode cX11_isTaken 10 = .ok (.aload_n 0, 1) := by decide +kernel
theorem dX11_isTaken_11 : decode cX11_isTaken 11 = .ok (.getfield 65, 3) := by decide +kernel
theorem dX11_isTaken_14 : decode cX11_isTaken 14 = .ok (.iload_n 3, 1) := by decide +kernel
theorem dX11_isTaken_15 : decode cX11_isTaken 15 = .ok (.iaload, 1) := by decide +kernel
theorem dX11_isTaken_16 : decode cX11_isTaken 16 = .ok (.iload_n 1, 1) := by decide +kernel
theorem dX11_isTaken_17 : decode cX11_isTaken 17 = .ok (.if_icmp .ne 18, 3) := by decide +kernel
theorem dX11_isTaken_20 : decode cX11_isTaken 20 = .ok (.iload_n 2, 1) := by decide +kernel
theorem dX11_isTaken_21 : decode cX11_isTaken 21 = .ok (.iload_n 3, 1) := by decide +kernel
theorem dX11_isTaken_22 : decode cX11_isTaken 22 = .ok (.ishr, 1) := by decide +kernel
theorem dX11_isTaken_23 : decode cX11_isTaken 23 = .ok (.iconst 1, 1) := by decide +kernel
theorem dX11_isTaken_24 : decode cX11_isTaken 24 = .ok (.iand, 1) := by decide +kernel
theorem dX11_isTaken_25 : decode cX11_isTaken 25 = .ok (.iconst 1, 1) := by decide +kernel
theorem dX11_isTaken_26 : decode cX11_isTaken 26 = .ok (.if_icmp .ne 7, 3) := by decide +kernel
theorem dX11_isTaken_29 : decode cX11_isTaken 29 = .ok (.iconst 1, 1) := by decide +kernel
theorem dX11_isTaken_30 : decode cX11_isTaken 30 = .ok (.goto 4, 3) := by decide +kernel
theorem dX11_isTaken_33 : decode cX11_isTaken 33 = .ok (.iconst 0, 1) := by decide +kernel
theorem dX11_isTaken_34 : decode cX11_isTaken 34 = .ok (.ireturn, 1) := by decide +kernel
theorem dX11_isTaken_35 : decode cX11_isTaken 35 = .ok (.iinc 3 1, 3) := by decide +kernel
theorem dX11_isTaken_38 : decode cX11_isTaken 38 = .ok (.goto (-36), 3) := by decide +kernel
theorem dX11_isTaken_41 : decode cX11_isTaken 41 = .ok (.iconst 0, 1) := by decide +kernel
theorem dX11_isTaken_42 : decode cX11_isTaken 42 = .ok (.ireturn, 1) := by decide +kernel
theorem dX11_mayBe_0 : decode cX11_mayBe 0 = .ok (.iconst 0, 1) := by decide +kernel
theorem dX11_mayBe_1 : decode cX11_mayBe 1 = .ok (.istore_n 2, 1) := by decide +kernel
theorem dX11_mayBe_2 : decode cX11_mayBe 2 = .ok (.iload_n 2, 1) := by decide +kernel
theorem dX11_mayBe_3 : decode cX11_mayBe 3 = .ok (.iconst 2, 1) := by decide +kernel
theorem dX11_mayBe_4 : decode cX11_mayBe 4 = .ok (.if_icmp .ge 82, 3) := by decide +kernel
theorem dX11_mayBe_7 : decode cX11_mayBe 7 = .ok (.iconst 0, 1) := by decide +kernel
theorem dX11_mayBe_8 : decode cX11_mayBe 8 = .ok (.istore_n 3, 1) := by decide +kernel
theorem dX11_mayBe_9 : decode cX11_mayBe 9 = .ok (.iconst 0, 1) := by decide +kernel
theorem dX11_mayBe_10 : decode cX11_mayBe 10 = .ok (.istore 4, 2) := by decide +kernel
theorem dX11_mayBe_12 : decode cX11_mayBe 12 = .ok (.iload 4, 2) := by decide +kernel
theorem dX11_mayBe_14 : decode cX11_mayBe 14 = .ok (.aload_n 0, 1) := by decide +kernel
theorem dX11_mayBe_15 : decode cX11_mayBe 15 = .ok (.getfield 151, 3) := by decide +kernel
theorem dX11_mayBe_18 : decode cX11_mayBe 18 = .ok (.if_icmp .ge 49, 3) := by decide +kernel
theorem dX11_mayBe_21 : decode cX11_mayBe 21 = .ok (.iload_n 3, 1) := by decide +kernel
theorem dX11_mayBe_22 : decode cX11_mayBe 22 = .ok (.iload_n 1, 1) := by decide +kernel
theorem dX11_mayBe_23 : decode cX11_mayBe 23 = .ok (.iload 4, 2) := by decide +kernel
theorem dX11_mayBe_25 : decode cX11_mayBe 25 = .ok (.ishr, 1) := by decide +kernel
theorem dX11_mayBe_26 : decode cX11_mayBe 26 = .ok (.iconst 1, 1) := by decide +kernel
theorem dX11_mayBe_27 : decode cX11_mayBe 27 = .ok (.iand, 1) := by decide +kernel
theorem dX11_mayBe_28 : decode cX11_mayBe 28 = .ok (.iconst 1, 1) := by decide +kernel
theorem dX11_mayBe_29 : decode cX11_mayBe 29 = .ok (.if_icmp .ne 29, 3) := by decide +kernel
theorem dX11_mayBe_32 : decode cX11_mayBe 32 = .ok (.aload_n 0, 1) := by decide +kernel
theorem dX11_mayBe_33 : decode cX11_mayBe 33 = .ok (.getfield 53, 3) := by decide +kernel
theorem dX11_mayBe_36 : decode cX11_mayBe 36 = .ok (.aload_n 0, 1) := by decide +kernel
theorem dX11_mayBe_37 : decode cX11_mayBe 37 = .ok (.getfield 65, 3) := by decide +kernel
theorem dX11_mayBe_40 : decode cX11_mayBe 40 = .ok (.iload 4, 2) := by decide +kernel
theorem dX11_mayBe_42 : decode cX11_mayBe 42 = .ok (.iaload, 1) := by decide +kernel
theorem dX11_mayBe_43 : decode cX11_mayBe 43 = .ok (.iaload, 1) := by decide +kernel
theorem dX11_mayBe_44 : decode cX11_mayBe 44 = .ok (.iconst 1, 1) := by decide +kernel
theorem dX11_mayBe_45 : decode cX11_mayBe 45 = .ok (.isub, 1) := by decide +kernel
theorem dX11_mayBe_46 : decode cX11_mayBe 46 = .ok (.sipush 10080, 3) := by decide +kernel
theorem dX11_mayBe_49 : decode cX11_mayBe 49 = .ok (.idiv, 1) := by decide +kernel
theorem dX11_mayBe_50 : decode cX11_mayBe 50 = .ok (.iload_n 2, 1) := by decide +kernel
theorem dX11_mayBe_51 : decode cX11_mayBe 51 = .ok (.if_icmp .ne 7, 3) := by decide +kernel
theorem dX11_mayBe_54 : decode cX11_mayBe 54 = .ok (.iconst 1, 1) := by decide +kernel
theorem dX11_mayBe_55 : decode cX11_mayBe 55 = .ok (.goto 4, 3) := by decide +kernel
theorem dX11_mayBe_58 : decode cX11_mayBe 58 = .ok (.iconst 0, 1) := by decide +kernel
theorem dX11_mayBe_59 : decode cX11_mayBe 59 = .ok (.iadd, 1) := by decide +kernel
theorem dX11_mayBe_60 : decode cX11_mayBe 60 = .ok (.istore_n 3, 1) := by decide +kernel
theorem dX11_mayBe_61 : decode cX11_mayBe 61 = .ok (.iinc 4 1, 3) := by decide +kernel
theorem dX11_mayBe_64 : decode cX11_mayBe 64 = .ok (.goto (-52), 3) := by decide +kernel
theorem dX11_mayBe_67 : decode cX11_mayBe 67 = .ok (.iload_n 3, 1) := by decide +kernel
theorem dX11_mayBe_68 : decode cX11_mayBe 68 = .ok (.aload_n 0, 1) := by decide +kernel
theorem dX11_mayBe_69 : decode cX11_mayBe 69 = .ok (.getfield 13, 3) := by decide +kernel
theorem dX11_mayBe_72 : decode cX11_mayBe 72 = .ok (.bipush 9, 2) := by decide +kernel
theorem dX11_mayBe_74 : decode cX11_mayBe 74 = .ok (.iaload, 1) := by decide +kernel
theorem dX11_mayBe_75 : decode cX11_mayBe 75 = .ok (.if_icmp .le 5, 3) := by decide +kernel
theorem dX11_mayBe_78 : decode cX11_mayBe 78 = .ok (.iconst 0, 1) := by decide +kernel
theorem dX11_mayBe_79 : decode cX11_mayBe 79 = .ok (.ireturn, 1) := by decide +kernel
theorem dX11_mayBe_80 : decode cX11_mayBe 80 = .ok (.iinc 2 1, 3) := by decide +kernel
theorem dX11_mayBe_83 : decode cX11_mayBe 83 = .ok (.goto (-81), 3) := by decide +kernel
theorem dX11_mayBe_86 : decode cX11_mayBe 86 = .ok (.iconst 1, 1) := by decide +kernel
theorem dX11_mayBe_87 : decode cX11_mayBe 87 = .ok (.ireturn, 1) := by decide +kernel
theorem dX11_parts_0 : decode cX11_parts 0 = .ok (.aload_n 0, 1) := by decide +kernel
theorem dX11_parts_1 : decode cX11_parts 1 = .ok (.iconst 0, 1) := by decide +kernel
theorem dX11_parts_2 : decode cX11_parts 2 = .ok (.putfield 154, 3) := by decide +kernel
theorem dX11_parts_5 : decode cX11_parts 5 = .ok (.iconst 0, 1) := by decide +kernel
theorem dX11_parts_6 : decode cX11_parts 6 = .ok (.istore_n 2, 1) := by decide +kernel
theorem dX11_parts_7 : decode cX11_parts 7 = .ok (.iconst 0, 1) := by decide +kernel
theorem dX11_parts_8 : decode cX11_parts 8 = .ok (.istore_n 3, 1) := by decide +kernel
theorem dX11_parts_9 : decode cX11_parts 9 = .ok (.iload_n 3, 1) := by decide +kernel
theorem dX11_parts_10 : decode cX11_parts 10 = .ok (.aload_n 0, 1) := by decide +kernel
theorem dX11_parts_11 : decode cX11_parts 11 = .ok (.getfield 128, 3) := by decide +kernel
theorem dX11_parts_14 : decode cX11_parts 14 = .ok (.if_icmp .ge 88, 3) := by decide +kernel
theorem dX11_parts_17 : decode cX11_parts 17 = .ok (.aload_n 0, 1) := by decide +kernel
theorem dX11_parts_18 : decode cX11_parts 18 = .ok (.iload_n 3, 1) := by decide +kernel
theorem dX11_parts_19 : decode cX11_parts 19 = .ok (.invokevirtual 141, 3) := by decide +kernel
theorem dX11_parts_22 : decode cX11_parts 22 = .ok (.aload_n 0, 1) := by decide +kernel
theorem dX11_parts_23 : decode cX11_parts 23 = .ok (.getfield 13, 3) := by decide +kernel
theorem dX11_parts_26 : decode cX11_parts 26 = .ok (.bipush 7, 2) := by decide +kernel
theorem dX11_parts_28 : decode cX11_parts 28 = .ok (.iaload, 1) := by decide +kernel
theorem dX11_parts_29 : decode cX11_parts 29 = .ok (.if_icmp .ge 15, 3) := by decide +kernel
theorem dX11_parts_32 : decode cX11_parts 32 = .ok (.aload_n 0, 1) := by decide +kernel
theorem dX11_parts_33 : decode cX11_parts 33 = .ok (.iload_n 3, 1) := by decide +kernel
theorem dX11_parts_34 : decode cX11_parts 34 = .ok (.iload_n 1, 1) := by decide +kernel
theorem dX11_parts_35 : decode cX11_parts 35 = .ok (.invokevirtual 157, 3) := by decide +kernel
theorem dX11_parts_38 : decode cX11_parts 38 = .ok (.ifCond .ne 6, 3) := by decide +kernel
theorem dX11_parts_41 : decode cX11_parts 41 = .ok (.goto 55, 3) := by decide +kernel
theorem dX11_parts_44 : decode cX11_parts 44 = .ok (.aload_n 0, 1) := by decide +kernel
theorem dX11_parts_45 : decode cX11_parts 45 = .ok (.getfield 68, 3) := by decide +kernel
theorem dX11_parts_48 : decode cX11_parts 48 = .ok (.aload_n 0, 1) := by decide +kernel
theorem dX11_parts_49 : decode cX11_parts 49 = .ok (.getfield 154, 3) := by decide +kernel
theorem dX11_parts_52 : decode cX11_parts 52 = .ok (.iload_n 2, 1) := by decide +kernel
theorem dX11_parts_53 : decode cX11_parts 53 = .ok (.iastore, 1) := by decide +kernel
theorem dX11_parts_54 : decode cX11_parts 54 = .ok (.aload_n 0, 1) := by decide +kernel
theorem dX11_parts_55 : decode cX11_parts 55 = .ok (.getfield 71, 3) := by decide +kernel
theorem dX11_parts_58 : decode cX11_parts 58 = .ok (.aload_n 0, 1) := by decide +kernel
theorem dX11_parts_59 : decode cX11_parts 59 = .ok (.getfield 154, 3) := by decide +kernel
theorem dX11_parts_62 : decode cX11_parts 62 = .ok (.aload_n 0, 1) := by decide +kernel
theorem dX11_parts_63 : decode cX11_parts 63 = .ok (.getfield 53, 3) := by decide +kernel
theorem dX11_parts_66 : decode cX11_parts 66 = .ok (.iload_n 3, 1) := by decide +kernel
theorem dX11_parts_67 : decode cX11_parts 67 = .ok (.iaload, 1) := by decide +kernel
theorem dX11_parts_68 : decode cX11_parts 68 = .ok (.iastore, 1) := by decide +kernel
theorem dX11_parts_69 : decode cX11_parts 69 = .ok (.aload_n 0, 1) := by decide +kernel
theorem dX11_parts_70 : decode cX11_parts 70 = .ok (.getfield 74, 3) := by decide +kernel
theorem dX11_parts_73 : decode cX11_parts 73 = .ok (.aload_n 0, 1) := by decide +kernel
theorem dX11_parts_74 : decode cX11_parts 74 = .ok (.getfield 154, 3) := by decide +kernel
theorem dX11_parts_77 : decode cX11_parts 77 = .ok (.iload_n 3, 1) := by decide +kernel
theorem dX11_parts_78 : decode cX11_parts 78 = .ok (.iastore, 1) := by decide +kernel
theorem dX11_parts_79 : decode cX11_parts 79 = .ok (.aload_n 0, 1) := by decide +kernel
theorem dX11_parts_80 : decode cX11_parts 80 = .ok (.aload_n 0, 1) := by decide +kernel
theorem dX11_parts_81 : decode cX11_parts 81 = .ok (.getfield 154, 3) := by decide +kernel
theorem dX11_parts_84 : decode cX11_parts 84 = .ok (.iconst 1, 1) := by decide +kernel
theorem dX11_parts_85 : decode cX11_parts 85 = .ok (.iadd, 1) := by decide +kernel
theorem dX11_parts_86 : decode cX11_parts 86 = .ok (.putfield 154, 3) := by decide +kernel
theorem dX11_parts_89 : decode cX11_parts 89 = .ok (.aload_n 0, 1) := by decide +kernel
theorem dX11_parts_90 : decode cX11_parts 90 = .ok (.getfield 53, 3) := by decide +kernel
theorem dX11_parts_93 : decode cX11_parts 93 = .ok (.iload_n 3, 1) := by decide +kernel
theorem dX11_parts_94 : decode cX11_parts 94 = .ok (.iaload, 1) := by decide +kernel
theorem dX11_parts_95 : decode cX11_parts 95 = .ok (.istore_n 2, 1) := by decide +kernel
theorem dX11_parts_96 : decode cX11_parts 96 = .ok (.iinc 3 1, 3) := by decide +kernel
theorem dX11_parts_99 : decode cX11_parts 99 = .ok (.goto (-90), 3) := by decide +kernel
theorem dX11_parts_102 : decode cX11_parts 102 = .ok (.iload_n 2, 1) := by decide +kernel
theorem dX11_parts_103 : decode cX11_parts 103 = .ok (.aload_n 0, 1) := by decide +kernel
theorem dX11_parts_104 : decode cX11_parts 104 = .ok (.getfield 121, 3) := by decide +kernel
theorem dX11_parts_107 : decode cX11_parts 107 = .ok (.if_icmp .ne 4, 3) := by decide +kernel
theorem dX11_parts_110 : decode cX11_parts 110 = .ok (.return_, 1) := by decide +kernel
theorem dX11_parts_111 : decode cX11_parts 111 = .ok (.aload_n 0, 1) := by decide +kernel
theorem dX11_parts_112 : decode cX11_parts 112 = .ok (.getfield 68, 3) := by decide +kernel
theorem dX11_parts_115 : decode cX11_parts 115 = .ok (.aload_n 0, 1) := by decide +kernel
theorem dX11_parts_116 : decode cX11_parts 116 = .ok (.getfield 154, 3) := by decide +kernel
theorem dX11_parts_119 : decode cX11_parts 119 = .ok (.iload_n 2, 1) := by decide +kernel
theorem dX11_parts_120 : decode cX11_parts 120 = .ok (.iastore, 1) := by decide +kernel
theorem dX11_parts_121 : decode cX11_parts 121 = .ok (.aload_n 0, 1) := by decide +kernel
theorem dX11_parts_122 : decode cX11_parts 122 = .ok (.getfield 71, 3) := by decide +kernel
theorem dX11_parts_125 : decode cX11_parts 125 = .ok (.aload_n 0, 1) := by decide +kernel
theorem dX11_parts_126 : decode cX11_parts 126 = .ok (.getfield 154, 3) := by decide +kernel
theorem dX11_parts_129 : decode cX11_parts 129 = .ok (.aload_n 0, 1) := by decide +kernel
theorem dX11_parts_130 : decode cX11_parts 130 = .ok (.getfield 121, 3) := by decide +kernel
theorem dX11_parts_133 : decode cX11_parts 133 = .ok (.iastore, 1) := by decide +kernel
theorem dX11_parts_134 : decode cX11_parts 134 = .ok (.aload_n 0, 1) := by decide +kernel
theorem dX11_parts_135 : decode cX11_parts 135 = .ok (.getfield 74, 3) := by decide +kernel
theorem dX11_parts_138 : decode cX11_parts 138 = .ok (.aload_n 0, 1) := by decide +kernel
theorem dX11_parts_139 : decode cX11_parts 139 = .ok (.getfield 154, 3) := by decide +kernel
theorem dX11_parts_142 : decode cX11_parts 142 = .ok (.iconst (-1), 1) := by decide +kernel
theorem dX11_parts_143 : decode cX11_parts 143 = .ok (.iastore, 1) := by decide +kernel
theorem dX11_parts_144 : decode cX11_parts 144 = .ok (.aload_n 0, 1) := by decide +kernel
theorem dX11_parts_145 : decode cX11_parts 145 = .ok (.aload_n 0, 1) := by decide +kernel
theorem dX11_parts_146 : decode cX11_parts 146 = .ok (.getfield 154, 3) := by decide +kernel
theorem dX11_parts_149 : decode cX11_parts 149 = .ok (.iconst 1, 1) := by decide +kernel
theorem dX11_parts_150 : decode cX11_parts 150 = .ok (.iadd, 1) := by decide +kernel
theorem dX11_parts_151 : decode cX11_parts 151 = .ok (.putfield 154, 3) := by decide +kernel
theorem dX11_parts_154 : decode cX11_parts 154 = .ok (.return_, 1) := by decide +kernel
theorem dX11_overOf_0 : decode cX11_overOf 0 = .ok (.aload_n 0, 1) := by decide +kernel
theorem dX11_overOf_1 : decode cX11_overOf 1 = .ok (.aload_n 0, 1) := by decide +kernel
theorem dX11_overOf_2 : decode cX11_overOf 2 = .ok (.getfield 68, 3) := by decide +kernel
theorem dX11_overOf_5 : decode cX11_overOf 5 = .ok (.iload_n 1, 1) := by decide +kernel
theorem dX11_overOf_6 : decode cX11_overOf 6 = .ok (.iaload, 1) := by decide +kernel
theorem dX11_overOf_7 : decode cX11_overOf 7 = .ok (.aload_n 0, 1) := by decide +kernel
theorem dX11_overOf_8 : decode cX11_overOf 8 = .ok (.getfield 71, 3) := by decide +kernel
theorem dX11_overOf_11 : decode cX11_overOf 11 = .ok (.iload_n 1, 1) := by decide +kernel
theorem dX11_overOf_12 : decode cX11_overOf 12 = .ok (.iaload, 1) := by decide +kernel
theorem dX11_overOf_13 : decode cX11_overOf 13 = .ok (.invokevirtual 160, 3) := by decide +kernel
theorem dX11_overOf_16 : decode cX11_overOf 16 = .ok (.aload_n 0, 1) := by decide +kernel
theorem dX11_overOf_17 : decode cX11_overOf 17 = .ok (.getfield 13, 3) := by decide +kernel
theorem dX11_overOf_20 : decode cX11_overOf 20 = .ok (.iload_n 2, 1) := by decide +kernel
theorem dX11_overOf_21 : decode cX11_overOf 21 = .ok (.ifCond .eq 7, 3) := by decide +kernel
theorem dX11_overOf_24 : decode cX11_overOf 24 = .ok (.iconst 5, 1) := by decide +kernel
theorem dX11_overOf_25 : decode cX11_overOf 25 = .ok (.goto 4, 3) := by decide +kernel
theorem dX11_overOf_28 : decode cX11_overOf 28 = .ok (.iconst 4, 1) := by decide +kernel
theorem dX11_overOf_29 : decode cX11_overOf 29 = .ok (.iaload, 1) := by decide +kernel
theorem dX11_overOf_30 : decode cX11_overOf 30 = .ok (.isub, 1) := by decide +kernel
theorem dX11_overOf_31 : decode cX11_overOf 31 = .ok (.istore_n 3, 1) := by decide +kernel
theorem dX11_overOf_32 : decode cX11_overOf 32 = .ok (.iload_n 3, 1) := by decide +kernel
theorem dX11_overOf_33 : decode cX11_overOf 33 = .ok (.ifCond .le 7, 3) := by decide +kernel
theorem dX11_overOf_36 : decode cX11_overOf 36 = .ok (.iload_n 3, 1) := by decide +kernel
theorem dX11_overOf_37 : decode cX11_overOf 37 = .ok (.goto 4, 3) := by decide +kernel
theorem dX11_overOf_40 : decode cX11_overOf 40 = .ok (.iconst 0, 1) := by decide +kernel
theorem dX11_overOf_41 : decode cX11_overOf 41 = .ok (.ireturn, 1) := by decide +kernel
theorem dX11_lateOf_0 : decode cX11_lateOf 0 = .ok (.aload_n 0, 1) := by decide +kernel
theorem dX11_lateOf_1 : decode cX11_lateOf 1 = .ok (.getfield 74, 3) := by decide +kernel
theorem dX11_lateOf_4 : decode cX11_lateOf 4 = .ok (.iload_n 1, 1) := by decide +kernel
theorem dX11_lateOf_5 : decode cX11_lateOf 5 = .ok (.iaload, 1) := by decide +kernel
theorem dX11_lateOf_6 : decode cX11_lateOf 6 = .ok (.istore_n 2, 1) := by decide +kernel
theorem dX11_lateOf_7 : decode cX11_lateOf 7 = .ok (.iload_n 2, 1) := by decide +kernel
theorem dX11_lateOf_8 : decode cX11_lateOf 8 = .ok (.iconst (-1), 1) := by decide +kernel
theorem dX11_lateOf_9 : decode cX11_lateOf 9 = .ok (.if_icmp .ne 10, 3) := by decide +kernel
theorem dX11_lateOf_12 : decode cX11_lateOf 12 = .ok (.aload_n 0, 1) := by decide +kernel
theorem dX11_lateOf_13 : decode cX11_lateOf 13 = .ok (.getfield 121, 3) := by decide +kernel
theorem dX11_lateOf_16 : decode cX11_lateOf 16 = .ok (.goto 42, 3) := by decide +kernel
theorem dX11_lateOf_19 : decode cX11_lateOf 19 = .ok (.aload_n 0, 1) := by decide +kernel
theorem dX11_lateOf_20 : decode cX11_lateOf 20 = .ok (.getfield 50, 3) := by decide +kernel
theorem dX11_lateOf_23 : decode cX11_lateOf 23 = .ok (.iload_n 2, 1) := by decide +kernel
theorem dX11_lateOf_24 : decode cX11_lateOf 24 = .ok (.iaload, 1) := by decide +kernel
theorem dX11_lateOf_25 : decode cX11_lateOf 25 = .ok (.aload_n 0, 1) := by decide +kernel
theorem dX11_lateOf_26 : decode cX11_lateOf 26 = .ok (.iload_n 2, 1) := by decide +kernel
theorem dX11_lateOf_27 : decode cX11_lateOf 27 = .ok (.invokevirtual 141, 3) := by decide +kernel
theorem dX11_lateOf_30 : decode cX11_lateOf 30 = .ok (.aload_n 0, 1) := by decide +kernel
theorem dX11_lateOf_31 : decode cX11_lateOf 31 = .ok (.getfield 13, 3) := by decide +kernel
theorem dX11_lateOf_34 : decode cX11_lateOf 34 = .ok (.bipush 7, 2) := by decide +kernel
theorem dX11_lateOf_36 : decode cX11_lateOf 36 = .ok (.iaload, 1) := by decide +kernel
theorem dX11_lateOf_37 : decode cX11_lateOf 37 = .ok (.if_icmp .lt 13, 3) := by decide +kernel
theorem dX11_lateOf_40 : decode cX11_lateOf 40 = .ok (.aload_n 0, 1) := by decide +kernel
theorem dX11_lateOf_41 : decode cX11_lateOf 41 = .ok (.getfield 13, 3) := by decide +kernel
theorem dX11_lateOf_44 : decode cX11_lateOf 44 = .ok (.bipush 7, 2) := by decide +kernel
theorem dX11_lateOf_46 : decode cX11_lateOf 46 = .ok (.iaload, 1) := by decide +kernel
theorem dX11_lateOf_47 : decode cX11_lateOf 47 = .ok (.goto 10, 3) := by decide +kernel
theorem dX11_lateOf_50 : decode cX11_lateOf 50 = .ok (.aload_n 0, 1) := by decide +kernel
theorem dX11_lateOf_51 : decode cX11_lateOf 51 = .ok (.getfield 13, 3) := by decide +kernel
theorem dX11_lateOf_54 : decode cX11_lateOf 54 = .ok (.bipush 8, 2) := by decide +kernel
theorem dX11_lateOf_56 : decode cX11_lateOf 56 = .ok (.iaload, 1) := by decide +kernel
theorem dX11_lateOf_57 : decode cX11_lateOf 57 = .ok (.iadd, 1) := by decide +kernel
theorem dX11_lateOf_58 : decode cX11_lateOf 58 = .ok (.istore_n 3, 1) := by decide +kernel
theorem dX11_lateOf_59 : decode cX11_lateOf 59 = .ok (.iload_n 3, 1) := by decide +kernel
theorem dX11_lateOf_60 : decode cX11_lateOf 60 = .ok (.aload_n 0, 1) := by decide +kernel
theorem dX11_lateOf_61 : decode cX11_lateOf 61 = .ok (.getfield 68, 3) := by decide +kernel
theorem dX11_lateOf_64 : decode cX11_lateOf 64 = .ok (.iload_n 1, 1) := by decide +kernel
theorem dX11_lateOf_65 : decode cX11_lateOf 65 = .ok (.iaload, 1) := by decide +kernel
theorem dX11_lateOf_66 : decode cX11_lateOf 66 = .ok (.isub, 1) := by decide +kernel
theorem dX11_lateOf_67 : decode cX11_lateOf 67 = .ok (.sipush 1440, 3) := by decide +kernel
theorem dX11_lateOf_70 : decode cX11_lateOf 70 = .ok (.isub, 1) := by decide +kernel
theorem dX11_lateOf_71 : decode cX11_lateOf 71 = .ok (.istore 4, 2) := by decide +kernel
theorem dX11_lateOf_73 : decode cX11_lateOf 73 = .ok (.iload 4, 2) := by decide +kernel
theorem dX11_lateOf_75 : decode cX11_lateOf 75 = .ok (.ifCond .le 8, 3) := by decide +kernel
theorem dX11_lateOf_78 : decode cX11_lateOf 78 = .ok (.iload 4, 2) := by decide +kernel
theorem dX11_lateOf_80 : decode cX11_lateOf 80 = .ok (.goto 4, 3) := by decide +kernel
theorem dX11_lateOf_83 : decode cX11_lateOf 83 = .ok (.iconst 0, 1) := by decide +kernel
theorem dX11_lateOf_84 : decode cX11_lateOf 84 = .ok (.ireturn, 1) := by decide +kernel
theorem dX11_extendsDays_0 : decode cX11_extendsDays 0 = .ok (.aload_n 0, 1) := by decide +kernel
theorem dX11_extendsDays_1 : decode cX11_extendsDays 1 = .ok (.iconst 0, 1) := by decide +kernel
theorem dX11_extendsDays_2 : decode cX11_extendsDays 2 = .ok (.putfield 164, 3) := by decide +kernel
theorem dX11_extendsDays_5 : decode cX11_extendsDays 5 = .ok (.iconst 0, 1) := by decide +kernel
theorem dX11_extendsDays_6 : decode cX11_extendsDays 6 = .ok (.istore_n 1, 1) := by decide +kernel
theorem dX11_extendsDays_7 : decode cX11_extendsDays 7 = .ok (.iload_n 1, 1) := by decide +kernel
theorem dX11_extendsDays_8 : decode cX11_extendsDays 8 = .ok (.aload_n 0, 1) := by decide +kernel
theorem dX11_extendsDays_9 : decode cX11_extendsDays 9 = .ok (.getfield 154, 3) := by decide +kernel
theorem dX11_extendsDays_12 : decode cX11_extendsDays 12 = .ok (.if_icmp .ge 16, 3) := by decide +kernel
theorem dX11_extendsDays_15 : decode cX11_extendsDays 15 = .ok (.aload_n 0, 1) := by decide +kernel
theorem dX11_extendsDays_16 : decode cX11_extendsDays 16 = .ok (.getfield 77, 3) := by decide +kernel
theorem dX11_extendsDays_19 : decode cX11_extendsDays 19 = .ok (.iload_n 1, 1) := by decide +kernel
theorem dX11_extendsDays_20 : decode cX11_extendsDays 20 = .ok (.iconst 0, 1) := by decide +kernel
theorem dX11_extendsDays_21 : decode cX11_extendsDays 21 = .ok (.bastore, 1) := by decide +kernel
theorem dX11_extendsDays_22 : decode cX11_extendsDays 22 = .ok (.iinc 1 1, 3) := by decide +kernel
theorem dX11_extendsDays_25 : decode cX11_extendsDays 25 = .ok (.goto (-18), 3) := by decide +kernel
theorem dX11_extendsDays_28 : decode cX11_extendsDays 28 = .ok (.iconst 0, 1) := by decide +kernel
theorem dX11_extendsDays_29 : decode cX11_extendsDays 29 = .ok (.istore_n 1, 1) := by decide +kernel
theorem dX11_extendsDays_30 : decode cX11_extendsDays 30 = .ok (.iload_n 1, 1) := by decide +kernel
theorem dX11_extendsDays_31 : decode cX11_extendsDays 31 = .ok (.iconst 2, 1) := by decide +kernel
theorem dX11_extendsDays_32 : decode cX11_extendsDays 32 = .ok (.if_icmp .ge 155, 3) := by decide +kernel
theorem dX11_extendsDays_35 : decode cX11_extendsDays 35 = .ok (.iconst 1, 1) := by decide +kernel
theorem dX11_extendsDays_36 : decode cX11_extendsDays 36 = .ok (.istore_n 2, 1) := by decide +kernel
theorem dX11_extendsDays_37 : decode cX11_extendsDays 37 = .ok (.iconst 0, 1) := by decide +kernel
theorem dX11_extendsDays_38 : decode cX11_extendsDays 38 = .ok (.istore_n 3, 1) := by decide +kernel
theorem dX11_extendsDays_39 : decode cX11_extendsDays 39 = .ok (.iload_n 3, 1) := by decide +kernel
theorem dX11_extendsDays_40 : decode cX11_extendsDays 40 = .ok (.aload_n 0, 1) := by decide +kernel
theorem dX11_extendsDays_41 : decode cX11_extendsDays 41 = .ok (.getfield 13, 3) := by decide +kernel
theorem dX11_extendsDays_44 : decode cX11_extendsDays 44 = .ok (.bipush 6, 2) := by decide +kernel
theorem dX11_extendsDays_46 : decode cX11_extendsDays 46 = .ok (.iaload, 1) := by decide +kernel
theorem dX11_extendsDays_47 : decode cX11_extendsDays 47 = .ok (.if_icmp .ge 134, 3) := by decide +kernel
theorem dX11_extendsDays_50 : decode cX11_extendsDays 50 = .ok (.iload_n 2, 1) := by decide +kernel
theorem dX11_extendsDays_51 : decode cX11_extendsDays 51 = .ok (.ifCond .eq 130, 3) := by decide +kernel
theorem dX11_extendsDays_54 : decode cX11_extendsDays 54 = .ok (.iconst (-1), 1) := by decide +kernel
theorem dX11_extendsDays_55 : decode cX11_extendsDays 55 = .ok (.istore 4, 2) := by decide +kernel
theorem dX11_extendsDays_57 : decode cX11_extendsDays 57 = .ok (.iconst 0, 1) := by decide +kernel
theorem dX11_extendsDays_58 : decode cX11_extendsDays 58 = .ok (.istore 5, 2) := by decide +kernel
theorem dX11_extendsDays_60 : decode cX11_extendsDays 60 = .ok (.iconst 0, 1) := by decide +kernel
theorem dX11_extendsDays_61 : decode cX11_extendsDays 61 = .ok (.istore 6, 2) := by decide +kernel
theorem dX11_extendsDays_63 : decode cX11_extendsDays 63 = .ok (.iload 6, 2) := by decide +kernel
theorem dX11_extendsDays_65 : decode cX11_extendsDays 65 = .ok (.aload_n 0, 1) := by decide +kernel
theorem dX11_extendsDays_66 : decode cX11_extendsDays 66 = .ok (.getfield 154, 3) := by decide +kernel
theorem dX11_extendsDays_69 : decode cX11_extendsDays 69 = .ok (.if_icmp .ge 69, 3) := by decide +kernel
theorem dX11_extendsDays_72 : decode cX11_extendsDays 72 = .ok (.aload_n 0, 1) := by decide +kernel
theorem dX11_extendsDays_73 : decode cX11_extendsDays 73 = .ok (.iload 6, 2) := by decide +kernel
theorem dX11_extendsDays_75 : decode cX11_extendsDays 75 = .ok (.iconst 0, 1) := by decide +kernel
theorem dX11_extendsDays_76 : decode cX11_extendsDays 76 = .ok (.invokevirtual 167, 3) := by decide +kernel
theorem dX11_extendsDays_79 : decode cX11_extendsDays 79 = .ok (.aload_n 0, 1) := by decide +kernel
theorem dX11_extendsDays_80 : decode cX11_extendsDays 80 = .ok (.iload 6, 2) := by decide +kernel
theorem dX11_extendsDays_82 : decode cX11_extendsDays 82 = .ok (.iconst 1, 1) := by decide +kernel
theorem dX11_extendsDays_83 : decode cX11_extendsDays 83 = .ok (.invokevirtual 167, 3) := by decide +kernel
theorem dX11_extendsDays_86 : decode cX11_extendsDays 86 = .ok (.isub, 1) := by decide +kernel
theorem dX11_extendsDays_87 : decode cX11_extendsDays 87 = .ok (.istore 7, 2) := by decide +kernel
theorem dX11_extendsDays_89 : decode cX11_extendsDays 89 = .ok (.aload_n 0, 1) := by decide +kernel
theorem dX11_extendsDays_90 : decode cX11_extendsDays 90 = .ok (.getfield 77, 3) := by decide +kernel
theorem dX11_extendsDays_93 : decode cX11_extendsDays 93 = .ok (.iload 6, 2) := by decide +kernel
theorem dX11_extendsDays_95 : decode cX11_extendsDays 95 = .ok (.baload, 1) := by decide +kernel
theorem dX11_extendsDays_96 : decode cX11_extendsDays 96 = .ok (.ifCond .ne 36, 3) := by decide +kernel
theorem dX11_extendsDays_99 : decode cX11_extendsDays 99 = .ok (.aload_n 0, 1) := by decide +kernel
theorem dX11_extendsDays_100 : decode cX11_extendsDays 100 = .ok (.getfield 68, 3) := by decide +kernel
theorem dX11_extendsDays_103 : decode cX11_extendsDays 103 = .ok (.iload 6, 2) := by decide +kernel
theorem dX11_extendsDays_105 : decode cX11_extendsDays 105 = .ok (.iaload, 1) := by decide +kernel
theorem dX11_extendsDays_106 : decode cX11_extendsDays 106 = .ok (.sipush 10080, 3) := by decide +kernel
theorem dX11_extendsDays_109 : decode cX11_extendsDays 109 = .ok (.idiv, 1) := by decide +kernel
theorem dX11_extendsDays_110 : decode cX11_extendsDays 110 = .ok (.iload_n 1, 1) := by decide +kernel
theorem dX11_extendsDays_111 : decode cX11_extendsDays 111 = .ok (.if_icmp .ne 21, 3) := by decide +kernel
theorem dX11_extendsDays_114 : decode cX11_extendsDays 114 = .ok (.iload 7, 2) := by decide +kernel
theorem dX11_extendsDays_116 : decode cX11_extendsDays 116 = .ok (.iload 5, 2) := by decide +kernel
theorem dX11_extendsDays_118 : decode cX11_extendsDays 118 = .ok (.if_icmp .gt 6, 3) := by decide +kernel
theorem dX11_extendsDays_121 : decode cX11_extendsDays 121 = .ok (.goto 11, 3) := by decide +kernel
theorem dX11_extendsDays_124 : decode cX11_extendsDays 124 = .ok (.iload 6, 2) := by decide +kernel
theorem dX11_extendsDays_126 : decode cX11_extendsDays 126 = .ok (.istore 4, 2) := by decide +kernel
theorem dX11_extendsDays_128 : decode cX11_extendsDays 128 = .ok (.iload 7, 2) := by decide +kernel
theorem dX11_extendsDays_130 : decode cX11_extendsDays 130 = .ok (.istore 5, 2) := by decide +kernel
theorem dX11_extendsDays_132 : decode cX11_extendsDays 132 = .ok (.iinc 6 1, 3) := by decide +kernel
theorem dX11_extendsDays_135 : decode cX11_extendsDays 135 = .ok (.goto (-72), 3) := by decide +kernel
theorem dX11_extendsDays_138 : decode cX11_extendsDays 138 = .ok (.iload 4, 2) := by decide +kernel
theorem dX11_extendsDays_140 : decode cX11_extendsDays 140 = .ok (.iconst (-1), 1) := by decide +kernel
theorem dX11_extendsDays_141 : decode cX11_extendsDays 141 = .ok (.if_icmp .eq 7, 3) := by decide +kernel
theorem dX11_extendsDays_144 : decode cX11_extendsDays 144 = .ok (.iconst 1, 1) := by decide +kernel
theorem dX11_extendsDays_145 : decode cX11_extendsDays 145 = .ok (.goto 4, 3) := by decide +kernel
theorem dX11_extendsDays_148 : decode cX11_extendsDays 148 = .ok (.iconst 0, 1) := by decide +kernel
theorem dX11_extendsDays_149 : decode cX11_extendsDays 149 = .ok (.istore_n 2, 1) := by decide +kernel
theorem dX11_extendsDays_150 : decode cX11_extendsDays 150 = .ok (.iload_n 2, 1) := by decide +kernel
theorem dX11_extendsDays_151 : decode cX11_extendsDays 151 = .ok (.ifCond .ne 6, 3) := by decide +kernel
theorem dX11_extendsDays_154 : decode cX11_extendsDays 154 = .ok (.goto 21, 3) := by decide +kernel
theorem dX11_extendsDays_157 : decode cX11_extendsDays 157 = .ok (.aload_n 0, 1) := by decide +kernel
theorem dX11_extendsDays_158 : decode cX11_extendsDays 158 = .ok (.getfield 77, 3) := by decide +kernel
theorem dX11_extendsDays_161 : decode cX11_extendsDays 161 = .ok (.iload 4, 2) := by decide +kernel
theorem dX11_extendsDays_163 : decode cX11_extendsDays 163 = .ok (.iconst 1, 1) := by decide +kernel
theorem dX11_extendsDays_164 : decode cX11_extendsDays 164 = .ok (.bastore, 1) := by decide +kernel
theorem dX11_extendsDays_165 : decode cX11_extendsDays 165 = .ok (.aload_n 0, 1) := by decide +kernel
theorem dX11_extendsDays_166 : decode cX11_extendsDays 166 = .ok (.aload_n 0, 1) := by decide +kernel
theorem dX11_extendsDays_167 : decode cX11_extendsDays 167 = .ok (.getfield 164, 3) := by decide +kernel
theorem dX11_extendsDays_170 : decode cX11_extendsDays 170 = .ok (.iconst 1, 1) := by decide +kernel
theorem dX11_extendsDays_171 : decode cX11_extendsDays 171 = .ok (.iadd, 1) := by decide +kernel
theorem dX11_extendsDays_172 : decode cX11_extendsDays 172 = .ok (.putfield 164, 3) := by decide +kernel
theorem dX11_extendsDays_175 : decode cX11_extendsDays 175 = .ok (.iinc 3 1, 3) := by decide +kernel
theorem dX11_extendsDays_178 : decode cX11_extendsDays 178 = .ok (.goto (-139), 3) := by decide +kernel
theorem dX11_extendsDays_181 : decode cX11_extendsDays 181 = .ok (.iinc 1 1, 3) := by decide +kernel
theorem dX11_extendsDays_184 : decode cX11_extendsDays 184 = .ok (.goto (-154), 3) := by decide +kernel
theorem dX11_extendsDays_187 : decode cX11_extendsDays 187 = .ok (.return_, 1) := by decide +kernel
theorem dX11_reckons_0 : decode cX11_reckons 0 = .ok (.aload_n 0, 1) := by decide +kernel
theorem dX11_reckons_1 : decode cX11_reckons 1 = .ok (.iload_n 1, 1) := by decide +kernel
theorem dX11_reckons_2 : decode cX11_reckons 2 = .ok (.invokevirtual 171, 3) := by decide +kernel
theorem dX11_reckons_5 : decode cX11_reckons 5 = .ok (.aload_n 0, 1) := by decide +kernel
theorem dX11_reckons_6 : decode cX11_reckons 6 = .ok (.invokevirtual 174, 3) := by decide +kernel
theorem dX11_reckons_9 : decode cX11_reckons 9 = .ok (.aload_n 0, 1) := by decide +kernel
theorem dX11_reckons_10 : decode cX11_reckons 10 = .ok (.iconst 0, 1) := by decide +kernel
theorem dX11_reckons_11 : decode cX11_reckons 11 = .ok (.putfield 177, 3) := by decide +kernel
theorem dX11_reckons_14 : decode cX11_reckons 14 = .ok (.iconst 0, 1) := by decide +kernel
theorem dX11_reckons_15 : decode cX11_reckons 15 = .ok (.istore_n 2, 1) := by decide +kernel
theorem dX11_reckons_16 : decode cX11_reckons 16 = .ok (.iload_n 2, 1) := by decide +kernel
theorem dX11_reckons_17 : decode cX11_reckons 17 = .ok (.aload_n 0, 1) := by decide +kernel
theorem dX11_reckons_18 : decode cX11_reckons 18 = .ok (.getfield 154, 3) := by decide +kernel
theorem dX11_reckons_21 : decode cX11_reckons 21 = .ok (.if_icmp .ge 35, 3) := by decide +kernel
theorem dX11_reckons_24 : decode cX11_reckons 24 = .ok (.aload_n 0, 1) := by decide +kernel
theorem dX11_reckons_25 : decode cX11_reckons 25 = .ok (.aload_n 0, 1) := by decide +kernel
theorem dX11_reckons_26 : decode cX11_reckons 26 = .ok (.getfield 177, 3) := by decide +kernel
theorem dX11_reckons_29 : decode cX11_reckons 29 = .ok (.aload_n 0, 1) := by decide +kernel
theorem dX11_reckons_30 : decode cX11_reckons 30 = .ok (.iload_n 2, 1) := by decide +kernel
theorem dX11_reckons_31 : decode cX11_reckons 31 = .ok (.aload_n 0, 1) := by decide +kernel
theorem dX11_reckons_32 : decode cX11_reckons 32 = .ok (.getfield 77, 3) := by decide +kernel
theorem dX11_reckons_35 : decode cX11_reckons 35 = .ok (.iload_n 2, 1) := by decide +kernel
theorem dX11_reckons_36 : decode cX11_reckons 36 = .ok (.baload, 1) := by decide +kernel
theorem dX11_reckons_37 : decode cX11_reckons 37 = .ok (.invokevirtual 167, 3) := by decide +kernel
theorem dX11_reckons_40 : decode cX11_reckons 40 = .ok (.iadd, 1) := by decide +kernel
theorem dX11_reckons_41 : decode cX11_reckons 41 = .ok (.aload_n 0, 1) := by decide +kernel
theorem dX11_reckons_42 : decode cX11_reckons 42 = .ok (.iload_n 2, 1) := by decide +kernel
theorem dX11_reckons_43 : decode cX11_reckons 43 = .ok (.invokevirtual 180, 3) := by decide +kernel
theorem dX11_reckons_46 : decode cX11_reckons 46 = .ok (.iadd, 1) := by decide +kernel
theorem dX11_reckons_47 : decode cX11_reckons 47 = .ok (.putfield 177, 3) := by decide +kernel
theorem dX11_reckons_50 : decode cX11_reckons 50 = .ok (.iinc 2 1, 3) := by decide +kernel
theorem dX11_reckons_53 : decode cX11_reckons 53 = .ok (.goto (-37), 3) := by decide +kernel
theorem dX11_reckons_56 : decode cX11_reckons 56 = .ok (.return_, 1) := by decide +kernel
theorem dX11_chooses_0 : decode cX11_chooses 0 = .ok (.aload_n 0, 1) := by decide +kernel
theorem dX11_chooses_1 : decode cX11_chooses 1 = .ok (.invokevirtual 183, 3) := by decide +kernel
theorem dX11_chooses_4 : decode cX11_chooses 4 = .ok (.iconst 0, 1) := by decide +kernel
theorem dX11_chooses_5 : decode cX11_chooses 5 = .ok (.istore_n 1, 1) := by decide +kernel
theorem dX11_chooses_6 : decode cX11_chooses 6 = .ok (.aload_n 0, 1) := by decide +kernel
theorem dX11_chooses_7 : decode cX11_chooses 7 = .ok (.iconst 0, 1) := by decide +kernel
theorem dX11_chooses_8 : decode cX11_chooses 8 = .ok (.invokevirtual 186, 3) := by decide +kernel
theorem dX11_chooses_11 : decode cX11_chooses 11 = .ok (.aload_n 0, 1) := by decide +kernel
theorem dX11_chooses_12 : decode cX11_chooses 12 = .ok (.getfield 177, 3) := by decide +kernel
theorem dX11_chooses_15 : decode cX11_chooses 15 = .ok (.istore_n 2, 1) := by decide +kernel
theorem dX11_chooses_16 : decode cX11_chooses 16 = .ok (.aload_n 0, 1) := by decide +kernel
theorem dX11_chooses_17 : decode cX11_chooses 17 = .ok (.getfield 164, 3) := by decide +kernel
theorem dX11_chooses_20 : decode cX11_chooses 20 = .ok (.istore_n 3, 1) := by decide +kernel
theorem dX11_chooses_21 : decode cX11_chooses 21 = .ok (.iconst 1, 1) := by decide +kernel
theorem dX11_chooses_22 : decode cX11_chooses 22 = .ok (.istore 4, 2) := by decide +kernel
theorem dX11_chooses_24 : decode cX11_chooses 24 = .ok (.iload 4, 2) := by decide +kernel
theorem dX11_chooses_26 : decode cX11_chooses 26 = .ok (.iconst 1, 1) := by decide +kernel
theorem dX11_chooses_27 : decode cX11_chooses 27 = .ok (.aload_n 0, 1) := by decide +kernel
theorem dX11_chooses_28 : decode cX11_chooses 28 = .ok (.getfield 151, 3) := by decide +kernel
theorem dX11_chooses_31 : decode cX11_chooses 31 = .ok (.ishl, 1) := by decide +kernel
theorem dX11_chooses_32 : decode cX11_chooses 32 = .ok (.if_icmp .ge 145, 3) := by decide +kernel
theorem dX11_chooses_35 : decode cX11_chooses 35 = .ok (.aload_n 0, 1) := by decide +kernel
theorem dX11_chooses_36 : decode cX11_chooses 36 = .ok (.iload 4, 2) := by decide +kernel
theorem dX11_chooses_38 : decode cX11_chooses 38 = .ok (.invokevirtual 189, 3) := by decide +kernel
theorem dX11_chooses_41 : decode cX11_chooses 41 = .ok (.ifCond .ne 6, 3) := by decide +kernel
theorem dX11_chooses_44 : decode cX11_chooses 44 = .ok (.goto 127, 3) := by decide +kernel
theorem dX11_chooses_47 : decode cX11_chooses 47 = .ok (.aload_n 0, 1) := by decide +kernel
theorem dX11_chooses_48 : decode cX11_chooses 48 = .ok (.iload 4, 2) := by decide +kernel
theorem dX11_chooses_50 : decode cX11_chooses 50 = .ok (.invokevirtual 186, 3) := by decide +kernel
theorem dX11_chooses_53 : decode cX11_chooses 53 = .ok (.aload_n 0, 1) := by decide +kernel
theorem dX11_chooses_54 : decode cX11_chooses 54 = .ok (.getfield 177, 3) := by decide +kernel
theorem dX11_chooses_57 : decode cX11_chooses 57 = .ok (.iload_n 2, 1) := by decide +kernel
theorem dX11_chooses_58 : decode cX11_chooses 58 = .ok (.if_icmp .ge 7, 3) := by decide +kernel
theorem dX11_chooses_61 : decode cX11_chooses 61 = .ok (.iconst 1, 1) := by decide +kernel
theorem dX11_chooses_62 : decode cX11_chooses 62 = .ok (.goto 4, 3) := by decide +kernel
theorem dX11_chooses_65 : decode cX11_chooses 65 = .ok (.iconst 0, 1) := by decide +kernel
theorem dX11_chooses_66 : decode cX11_chooses 66 = .ok (.istore 5, 2) := by decide +kernel
theorem dX11_chooses_68 : decode cX11_chooses 68 = .ok (.aload_n 0, 1) := by decide +kernel
theorem dX11_chooses_69 : decode cX11_chooses 69 = .ok (.getfield 177, 3) := by decide +kernel
theorem dX11_chooses_72 : decode cX11_chooses 72 = .ok (.iload_n 2, 1) := by decide +kernel
theorem dX11_chooses_73 : decode cX11_chooses 73 = .ok (.if_icmp .ne 37, 3) := by decide +kernel
theorem dX11_chooses_76 : decode cX11_chooses 76 = .ok (.iload 4, 2) := by decide +kernel
theorem dX11_chooses_78 : decode cX11_chooses 78 = .ok (.invokestatic 192, 3) := by decide +kernel
theorem dX11_chooses_81 : decode cX11_chooses 81 = .ok (.iload_n 1, 1) := by decide +kernel
theorem dX11_chooses_82 : decode cX11_chooses 82 = .ok (.invokestatic 192, 3) := by decide +kernel
theorem dX11_chooses_85 : decode cX11_chooses 85 = .ok (.if_icmp .eq 25, 3) := by decide +kernel
theorem dX11_chooses_88 : decode cX11_chooses 88 = .ok (.iload 4, 2) := by decide +kernel
theorem dX11_chooses_90 : decode cX11_chooses 90 = .ok (.invokestatic 192, 3) := by decide +kernel
theorem dX11_chooses_93 : decode cX11_chooses 93 = .ok (.iload_n 1, 1) := by decide +kernel
theorem dX11_chooses_94 : decode cX11_chooses 94 = .ok (.invokestatic 192, 3) := by decide +kernel
theorem dX11_chooses_97 : decode cX11_chooses 97 = .ok (.if_icmp .ge 7, 3) := by decide +kernel
theorem dX11_chooses_100 : decode cX11_chooses 100 = .ok (.iconst 1, 1) := by decide +kernel
theorem dX11_chooses_101 : decode cX11_chooses 101 = .ok (.goto 4, 3) := by decide +kernel
theorem dX11_chooses_104 : decode cX11_chooses 104 = .ok (.iconst 0, 1) := by decide +kernel
theorem dX11_chooses_105 : decode cX11_chooses 105 = .ok (.istore 5, 2) := by decide +kernel
theorem dX11_chooses_107 : decode cX11_chooses 107 = .ok (.goto 43, 3) := by decide +kernel
theorem dX11_chooses_110 : decode cX11_chooses 110 = .ok (.aload_n 0, 1) := by decide +kernel
theorem dX11_chooses_111 : decode cX11_chooses 111 = .ok (.getfield 177, 3) := by decide +kernel
theorem dX11_chooses_114 : decode cX11_chooses 114 = .ok (.iload_n 2, 1) := by decide +kernel
theorem dX11_chooses_115 : decode cX11_chooses 115 = .ok (.if_icmp .ne 35, 3) := by decide +kernel
theorem dX11_chooses_118 : decode cX11_chooses 118 = .ok (.aload_n 0, 1) := by decide +kernel
theorem dX11_chooses_119 : decode cX11_chooses 119 = .ok (.getfield 164, 3) := by decide +kernel
theorem dX11_chooses_122 : decode cX11_chooses 122 = .ok (.iload_n 3, 1) := by decide +kernel
theorem dX11_chooses_123 : decode cX11_chooses 123 = .ok (.if_icmp .eq 19, 3) := by decide +kernel
theorem dX11_chooses_126 : decode cX11_chooses 126 = .ok (.aload_n 0, 1) := by decide +kernel
theorem dX11_chooses_127 : decode cX11_chooses 127 = .ok (.getfield 164, 3) := by decide +kernel
theorem dX11_chooses_130 : decode cX11_chooses 130 = .ok (.iload_n 3, 1) := by decide +kernel
theorem dX11_chooses_131 : decode cX11_chooses 131 = .ok (.if_icmp .ge 7, 3) := by decide +kernel
theorem dX11_chooses_134 : decode cX11_chooses 134 = .ok (.iconst 1, 1) := by decide +kernel
theorem dX11_chooses_135 : decode cX11_chooses 135 = .ok (.goto 13, 3) := by decide +kernel
theorem dX11_chooses_138 : decode cX11_chooses 138 = .ok (.iconst 0, 1) := by decide +kernel
theorem dX11_chooses_139 : decode cX11_chooses 139 = .ok (.goto 9, 3) := by decide +kernel
theorem dX11_chooses_142 : decode cX11_chooses 142 = .ok (.iload 4, 2) := by decide +kernel
theorem dX11_chooses_144 : decode cX11_chooses 144 = .ok (.iload_n 1, 1) := by decide +kernel
theorem dX11_chooses_145 : decode cX11_chooses 145 = .ok (.invokestatic 195, 3) := by decide +kernel
theorem dX11_chooses_148 : decode cX11_chooses 148 = .ok (.istore 5, 2) := by decide +kernel
theorem dX11_chooses_150 : decode cX11_chooses 150 = .ok (.iload 5, 2) := by decide +kernel
theorem dX11_chooses_152 : decode cX11_chooses 152 = .ok (.ifCond .ne 6, 3) := by decide +kernel
theorem dX11_chooses_155 : decode cX11_chooses 155 = .ok (.goto 16, 3) := by decide +kernel
theorem dX11_chooses_158 : decode cX11_chooses 158 = .ok (.iload 4, 2) := by decide +kernel
theorem dX11_chooses_160 : decode cX11_chooses 160 = .ok (.istore_n 1, 1) := by decide +kernel
theorem dX11_chooses_161 : decode cX11_chooses 161 = .ok (.aload_n 0, 1) := by decide +kernel
theorem dX11_chooses_162 : decode cX11_chooses 162 = .ok (.getfield 177, 3) := by decide +kernel
theorem dX11_chooses_165 : decode cX11_chooses 165 = .ok (.istore_n 2, 1) := by decide +kernel
theorem dX11_chooses_166 : decode cX11_chooses 166 = .ok (.aload_n 0, 1) := by decide +kernel
theorem dX11_chooses_167 : decode cX11_chooses 167 = .ok (.getfield 164, 3) := by decide +kernel
theorem dX11_chooses_170 : decode cX11_chooses 170 = .ok (.istore_n 3, 1) := by decide +kernel
theorem dX11_chooses_171 : decode cX11_chooses 171 = .ok (.iinc 4 1, 3) := by decide +kernel
theorem dX11_chooses_174 : decode cX11_chooses 174 = .ok (.goto (-150), 3) := by decide +kernel
theorem dX11_chooses_177 : decode cX11_chooses 177 = .ok (.aload_n 0, 1) := by decide +kernel
theorem dX11_chooses_178 : decode cX11_chooses 178 = .ok (.iload_n 1, 1) := by decide +kernel
theorem dX11_chooses_179 : decode cX11_chooses 179 = .ok (.invokevirtual 186, 3) := by decide +kernel
theorem dX11_chooses_182 : decode cX11_chooses 182 = .ok (.return_, 1) := by decide +kernel
theorem dX11_isEarlier_0 : decode cX11_isEarlier 0 = .ok (.iconst 0, 1) := by decide +kernel
theorem dX11_isEarlier_1 : decode cX11_isEarlier 1 = .ok (.istore_n 2, 1) := by decide +kernel
theorem dX11_isEarlier_2 : decode cX11_isEarlier 2 = .ok (.iload_n 2, 1) := by decide +kernel
theorem dX11_isEarlier_3 : decode cX11_isEarlier 3 = .ok (.bipush 12, 2) := by decide +kernel
theorem dX11_isEarlier_5 : decode cX11_isEarlier 5 = .ok (.if_icmp .ge 23, 3) := by decide +kernel
theorem dX11_isEarlier_8 : decode cX11_isEarlier 8 = .ok (.iload_n 0, 1) := by decide +kernel
theorem dX11_isEarlier_9 : decode cX11_isEarlier 9 = .ok (.iload_n 2, 1) := by decide +kernel
theorem dX11_isEarlier_10 : decode cX11_isEarlier 10 = .ok (.ishr, 1) := by decide +kernel
theorem dX11_isEarlier_11 : decode cX11_isEarlier 11 = .ok (.iconst 1, 1) := by decide +kernel
theorem dX11_isEarlier_12 : decode cX11_isEarlier 12 = .ok (.iand, 1) := by decide +kernel
theorem dX11_isEarlier_13 : decode cX11_isEarlier 13 = .ok (.iload_n 1, 1) := by decide +kernel
theorem dX11_isEarlier_14 : decode cX11_isEarlier 14 = .ok (.iload_n 2, 1) := by decide +kernel
theorem dX11_isEarlier_15 : decode cX11_isEarlier 15 = .ok (.ishr, 1) := by decide +kernel
theorem dX11_isEarlier_16 : decode cX11_isEarlier 16 = .ok (.iconst 1, 1) := by decide +kernel
theorem dX11_isEarlier_17 : decode cX11_isEarlier 17 = .ok (.iand, 1) := by decide +kernel
theorem dX11_isEarlier_18 : decode cX11_isEarlier 18 = .ok (.if_icmp .ne 10, 3) := by decide +kernel
theorem dX11_isEarlier_21 : decode cX11_isEarlier 21 = .ok (.iload_n 2, 1) := by decide +kernel
theorem dX11_isEarlier_22 : decode cX11_isEarlier 22 = .ok (.iconst 1, 1) := by decide +kernel
theorem dX11_isEarlier_23 : decode cX11_isEarlier 23 = .ok (.iadd, 1) := by decide +kernel
theorem dX11_isEarlier_24 : decode cX11_isEarlier 24 = .ok (.istore_n 2, 1) := by decide +kernel
theorem dX11_isEarlier_25 : decode cX11_isEarlier 25 = .ok (.goto (-23), 3) := by decide +kernel
theorem dX11_isEarlier_28 : decode cX11_isEarlier 28 = .ok (.iload_n 2, 1) := by decide +kernel
theorem dX11_isEarlier_29 : decode cX11_isEarlier 29 = .ok (.bipush 12, 2) := by decide +kernel
theorem dX11_isEarlier_31 : decode cX11_isEarlier 31 = .ok (.if_icmp .ge 16, 3) := by decide +kernel
theorem dX11_isEarlier_34 : decode cX11_isEarlier 34 = .ok (.iload_n 0, 1) := by decide +kernel
theorem dX11_isEarlier_35 : decode cX11_isEarlier 35 = .ok (.iload_n 2, 1) := by decide +kernel
theorem dX11_isEarlier_36 : decode cX11_isEarlier 36 = .ok (.ishr, 1) := by decide +kernel
theorem dX11_isEarlier_37 : decode cX11_isEarlier 37 = .ok (.iconst 1, 1) := by decide +kernel
theorem dX11_isEarlier_38 : decode cX11_isEarlier 38 = .ok (.iand, 1) := by decide +kernel
theorem dX11_isEarlier_39 : decode cX11_isEarlier 39 = .ok (.iconst 1, 1) := by decide +kernel
theorem dX11_isEarlier_40 : decode cX11_isEarlier 40 = .ok (.if_icmp .ne 7, 3) := by decide +kernel
theorem dX11_isEarlier_43 : decode cX11_isEarlier 43 = .ok (.iconst 1, 1) := by decide +kernel
theorem dX11_isEarlier_44 : decode cX11_isEarlier 44 = .ok (.goto 4, 3) := by decide +kernel
theorem dX11_isEarlier_47 : decode cX11_isEarlier 47 = .ok (.iconst 0, 1) := by decide +kernel
theorem dX11_isEarlier_48 : decode cX11_isEarlier 48 = .ok (.ireturn, 1) := by decide +kernel
theorem dX11_breaksLaw_0 : decode cX11_breaksLaw 0 = .ok (.aload_n 0, 1) := by decide +kernel
theorem dX11_breaksLaw_1 : decode cX11_breaksLaw 1 = .ok (.iload_n 1, 1) := by decide +kernel
theorem dX11_breaksLaw_2 : decode cX11_breaksLaw 2 = .ok (.iload_n 2, 1) := by decide +kernel
theorem dX11_breaksLaw_3 : decode cX11_breaksLaw 3 = .ok (.invokevirtual 198, 3) := by decide +kernel
theorem dX11_breaksLaw_6 : decode cX11_breaksLaw 6 = .ok (.aload_n 0, 1) := by decide +kernel
theorem dX11_breaksLaw_7 : decode cX11_breaksLaw 7 = .ok (.iconst 0, 1) := by decide +kernel
theorem dX11_breaksLaw_8 : decode cX11_breaksLaw 8 = .ok (.putfield 131, 3) := by decide +kernel
theorem dX11_breaksLaw_11 : decode cX11_breaksLaw 11 = .ok (.aload_n 0, 1) := by decide +kernel
theorem dX11_breaksLaw_12 : decode cX11_breaksLaw 12 = .ok (.invokevirtual 202, 3) := by decide +kernel
theorem dX11_breaksLaw_15 : decode cX11_breaksLaw 15 = .ok (.aload_n 0, 1) := by decide +kernel
theorem dX11_breaksLaw_16 : decode cX11_breaksLaw 16 = .ok (.invokevirtual 205, 3) := by decide +kernel
theorem dX11_breaksLaw_19 : decode cX11_breaksLaw 19 = .ok (.iconst 0, 1) := by decide +kernel
theorem dX11_breaksLaw_20 : decode cX11_breaksLaw 20 = .ok (.istore_n 3, 1) := by decide +kernel
theorem dX11_breaksLaw_21 : decode cX11_breaksLaw 21 = .ok (.iload_n 3, 1) := by decide +kernel
theorem dX11_breaksLaw_22 : decode cX11_breaksLaw 22 = .ok (.aload_n 0, 1) := by decide +kernel
theorem dX11_breaksLaw_23 : decode cX11_breaksLaw 23 = .ok (.getfield 154, 3) := by decide +kernel
theorem dX11_breaksLaw_26 : decode cX11_breaksLaw 26 = .ok (.if_icmp .ge 83, 3) := by decide +kernel
theorem dX11_breaksLaw_29 : decode cX11_breaksLaw 29 = .ok (.aload_n 0, 1) := by decide +kernel
theorem dX11_breaksLaw_30 : decode cX11_breaksLaw 30 = .ok (.iload_n 3, 1) := by decide +kernel
theorem dX11_breaksLaw_31 : decode cX11_breaksLaw 31 = .ok (.aload_n 0, 1) := by decide +kernel
theorem dX11_breaksLaw_32 : decode cX11_breaksLaw 32 = .ok (.getfield 77, 3) := by decide +kernel
theorem dX11_breaksLaw_35 : decode cX11_breaksLaw 35 = .ok (.iload_n 3, 1) := by decide +kernel
theorem dX11_breaksLaw_36 : decode cX11_breaksLaw 36 = .ok (.baload, 1) := by decide +kernel
theorem dX11_breaksLaw_37 : decode cX11_breaksLaw 37 = .ok (.invokevirtual 167, 3) := by decide +kernel
theorem dX11_breaksLaw_40 : decode cX11_breaksLaw 40 = .ok (.istore 4, 2) := by decide +kernel
theorem dX11_breaksLaw_42 : decode cX11_breaksLaw 42 = .ok (.iload 4, 2) := by decide +kernel
theorem dX11_breaksLaw_44 : decode cX11_breaksLaw 44 = .ok (.ifCond .le 39, 3) := by decide +kernel
theorem dX11_breaksLaw_47 : decode cX11_breaksLaw 47 = .ok (.aload_n 0, 1) := by decide +kernel
theorem dX11_breaksLaw_48 : decode cX11_breaksLaw 48 = .ok (.aload_n 0, 1) := by decide +kernel
theorem dX11_breaksLaw_49 : decode cX11_breaksLaw 49 = .ok (.aload_n 0, 1) := by decide +kernel
theorem dX11_breaksLaw_50 : decode cX11_breaksLaw 50 = .ok (.getfield 68, 3) := by decide +kernel
theorem dX11_breaksLaw_53 : decode cX11_breaksLaw 53 = .ok (.iload_n 3, 1) := by decide +kernel
theorem dX11_breaksLaw_54 : decode cX11_breaksLaw 54 = .ok (.iaload, 1) := by decide +kernel
theorem dX11_breaksLaw_55 : decode cX11_breaksLaw 55 = .ok (.aload_n 0, 1) := by decide +kernel
theorem dX11_breaksLaw_56 : decode cX11_breaksLaw 56 = .ok (.getfield 13, 3) := by decide +kernel
theorem dX11_breaksLaw_59 : decode cX11_breaksLaw 59 = .ok (.aload_n 0, 1) := by decide +kernel
theorem dX11_breaksLaw_60 : decode cX11_breaksLaw 60 = .ok (.getfield 77, 3) := by decide +kernel
theorem dX11_breaksLaw_63 : decode cX11_breaksLaw 63 = .ok (.iload_n 3, 1) := by decide +kernel
theorem dX11_breaksLaw_64 : decode cX11_breaksLaw 64 = .ok (.baload, 1) := by decide +kernel
theorem dX11_breaksLaw_65 : decode cX11_breaksLaw 65 = .ok (.ifCond .eq 7, 3) := by decide +kernel
theorem dX11_breaksLaw_68 : decode cX11_breaksLaw 68 = .ok (.iconst 5, 1) := by decide +kernel
theorem dX11_breaksLaw_69 : decode cX11_breaksLaw 69 = .ok (.goto 4, 3) := by decide +kernel
theorem dX11_breaksLaw_72 : decode cX11_breaksLaw 72 = .ok (.iconst 4, 1) := by decide +kernel
theorem dX11_breaksLaw_73 : decode cX11_breaksLaw 73 = .ok (.iaload, 1) := by decide +kernel
theorem dX11_breaksLaw_74 : decode cX11_breaksLaw 74 = .ok (.invokevirtual 208, 3) := by decide +kernel
theorem dX11_breaksLaw_77 : decode cX11_breaksLaw 77 = .ok (.iconst 2, 1) := by decide +kernel
theorem dX11_breaksLaw_78 : decode cX11_breaksLaw 78 = .ok (.iload 4, 2) := by decide +kernel
theorem dX11_breaksLaw_80 : decode cX11_breaksLaw 80 = .ok (.invokevirtual 147, 3) := by decide +kernel
theorem dX11_breaksLaw_83 : decode cX11_breaksLaw 83 = .ok (.aload_n 0, 1) := by decide +kernel
theorem dX11_breaksLaw_84 : decode cX11_breaksLaw 84 = .ok (.aload_n 0, 1) := by decide +kernel
theorem dX11_breaksLaw_85 : decode cX11_breaksLaw 85 = .ok (.getfield 68, 3) := by decide +kernel
theorem dX11_breaksLaw_88 : decode cX11_breaksLaw 88 = .ok (.iload_n 3, 1) := by decide +kernel
theorem dX11_breaksLaw_89 : decode cX11_breaksLaw 89 = .ok (.iaload, 1) := by decide +kernel
theorem dX11_breaksLaw_90 : decode cX11_breaksLaw 90 = .ok (.sipush 1440, 3) := by decide +kernel
theorem dX11_breaksLaw_93 : decode cX11_breaksLaw 93 = .ok (.iadd, 1) := by decide +kernel
theorem dX11_breaksLaw_94 : decode cX11_breaksLaw 94 = .ok (.iconst 3, 1) := by decide +kernel
theorem dX11_breaksLaw_95 : decode cX11_breaksLaw 95 = .ok (.aload_n 0, 1) := by decide +kernel
theorem dX11_breaksLaw_96 : decode cX11_breaksLaw 96 = .ok (.iload_n 3, 1) := by decide +kernel
theorem dX11_breaksLaw_97 : decode cX11_breaksLaw 97 = .ok (.invokevirtual 180, 3) := by decide +kernel
theorem dX11_breaksLaw_100 : decode cX11_breaksLaw 100 = .ok (.invokevirtual 147, 3) := by decide +kernel
theorem dX11_breaksLaw_103 : decode cX11_breaksLaw 103 = .ok (.iinc 3 1, 3) := by decide +kernel
theorem dX11_breaksLaw_106 : decode cX11_breaksLaw 106 = .ok (.goto (-85), 3) := by decide +kernel
theorem dX11_breaksLaw_109 : decode cX11_breaksLaw 109 = .ok (.iconst 0, 1) := by decide +kernel
theorem dX11_breaksLaw_110 : decode cX11_breaksLaw 110 = .ok (.istore_n 3, 1) := by decide +kernel
theorem dX11_breaksLaw_111 : decode cX11_breaksLaw 111 = .ok (.iload_n 3, 1) := by decide +kernel
theorem dX11_breaksLaw_112 : decode cX11_breaksLaw 112 = .ok (.iconst 2, 1) := by decide +kernel
theorem dX11_breaksLaw_113 : decode cX11_breaksLaw 113 = .ok (.if_icmp .ge 100, 3) := by decide +kernel
theorem dX11_breaksLaw_116 : decode cX11_breaksLaw 116 = .ok (.iload_n 3, 1) := by decide +kernel
theorem dX11_breaksLaw_117 : decode cX11_breaksLaw 117 = .ok (.sipush 10080, 3) := by decide +kernel
theorem dX11_breaksLaw_120 : decode cX11_breaksLaw 120 = .ok (.imul, 1) := by decide +kernel
theorem dX11_breaksLaw_121 : decode cX11_breaksLaw 121 = .ok (.aload_n 0, 1) := by decide +kernel
theorem dX11_breaksLaw_122 : decode cX11_breaksLaw 122 = .ok (.getfield 121, 3) := by decide +kernel
theorem dX11_breaksLaw_125 : decode cX11_breaksLaw 125 = .ok (.if_icmp .ge 88, 3) := by decide +kernel
theorem dX11_breaksLaw_128 : decode cX11_breaksLaw 128 = .ok (.iload_n 3, 1) := by decide +kernel
theorem dX11_breaksLaw_129 : decode cX11_breaksLaw 129 = .ok (.iconst 1, 1) := by decide +kernel
theorem dX11_breaksLaw_130 : decode cX11_breaksLaw 130 = .ok (.iadd, 1) := by decide +kernel
theorem dX11_breaksLaw_131 : decode cX11_breaksLaw 131 = .ok (.sipush 10080, 3) := by decide +kernel
theorem dX11_breaksLaw_134 : decode cX11_breaksLaw 134 = .ok (.imul, 1) := by decide +kernel
theorem dX11_breaksLaw_135 : decode cX11_breaksLaw 135 = .ok (.aload_n 0, 1) := by decide +kernel
theorem dX11_breaksLaw_136 : decode cX11_breaksLaw 136 = .ok (.getfield 121, 3) := by decide +kernel
theorem dX11_breaksLaw_139 : decode cX11_breaksLaw 139 = .ok (.if_icmp .ge 13, 3) := by decide +kernel
theorem dX11_breaksLaw_142 : decode cX11_breaksLaw 142 = .ok (.iload_n 3, 1) := by decide +kernel
theorem dX11_breaksLaw_143 : decode cX11_breaksLaw 143 = .ok (.iconst 1, 1) := by decide +kernel
theorem dX11_breaksLaw_144 : decode cX11_breaksLaw 144 = .ok (.iadd, 1) := by decide +kernel
theorem dX11_breaksLaw_145 : decode cX11_breaksLaw 145 = .ok (.sipush 10080, 3) := by decide +kernel
theorem dX11_breaksLaw_148 : decode cX11_breaksLaw 148 = .ok (.imul, 1) := by decide +kernel
theorem dX11_breaksLaw_149 : decode cX11_breaksLaw 149 = .ok (.goto 7, 3) := by decide +kernel
theorem dX11_breaksLaw_152 : decode cX11_breaksLaw 152 = .ok (.aload_n 0, 1) := by decide +kernel
theorem dX11_breaksLaw_153 : decode cX11_breaksLaw 153 = .ok (.getfield 121, 3) := by decide +kernel
theorem dX11_breaksLaw_156 : decode cX11_breaksLaw 156 = .ok (.istore 4, 2) := by decide +kernel
theorem dX11_breaksLaw_158 : decode cX11_breaksLaw 158 = .ok (.aload_n 0, 1) := by decide +kernel
theorem dX11_breaksLaw_159 : decode cX11_breaksLaw 159 = .ok (.iload_n 3, 1) := by decide +kernel
theorem dX11_breaksLaw_160 : decode cX11_breaksLaw 160 = .ok (.sipush 10080, 3) := by decide +kernel
theorem dX11_breaksLaw_163 : decode cX11_breaksLaw 163 = .ok (.imul, 1) := by decide +kernel
theorem dX11_breaksLaw_164 : decode cX11_breaksLaw 164 = .ok (.iload 4, 2) := by decide +kernel
theorem dX11_breaksLaw_166 : decode cX11_breaksLaw 166 = .ok (.invokevirtual 160, 3) := by decide +kernel
theorem dX11_breaksLaw_169 : decode cX11_breaksLaw 169 = .ok (.aload_n 0, 1) := by decide +kernel
theorem dX11_breaksLaw_170 : decode cX11_breaksLaw 170 = .ok (.getfield 13, 3) := by decide +kernel
theorem dX11_breaksLaw_173 : decode cX11_breaksLaw 173 = .ok (.bipush 10, 2) := by decide +kernel
theorem dX11_breaksLaw_175 : decode cX11_breaksLaw 175 = .ok (.iaload, 1) := by decide +kernel
theorem dX11_breaksLaw_176 : decode cX11_breaksLaw 176 = .ok (.isub, 1) := by decide +kernel
theorem dX11_breaksLaw_177 : decode cX11_breaksLaw 177 = .ok (.istore 5, 2) := by decide +kernel
theorem dX11_breaksLaw_179 : decode cX11_breaksLaw 179 = .ok (.iload 5, 2) := by decide +kernel
theorem dX11_breaksLaw_181 : decode cX11_breaksLaw 181 = .ok (.ifCond .le 26, 3) := by decide +kernel
theorem dX11_breaksLaw_184 : decode cX11_breaksLaw 184 = .ok (.aload_n 0, 1) := by decide +kernel
theorem dX11_breaksLaw_185 : decode cX11_breaksLaw 185 = .ok (.aload_n 0, 1) := by decide +kernel
theorem dX11_breaksLaw_186 : decode cX11_breaksLaw 186 = .ok (.iload_n 3, 1) := by decide +kernel
theorem dX11_breaksLaw_187 : decode cX11_breaksLaw 187 = .ok (.sipush 10080, 3) := by decide +kernel
theorem dX11_breaksLaw_190 : decode cX11_breaksLaw 190 = .ok (.imul, 1) := by decide +kernel
theorem dX11_breaksLaw_191 : decode cX11_breaksLaw 191 = .ok (.aload_n 0, 1) := by decide +kernel
theorem dX11_breaksLaw_192 : decode cX11_breaksLaw 192 = .ok (.getfield 13, 3) := by decide +kernel
theorem dX11_breaksLaw_195 : decode cX11_breaksLaw 195 = .ok (.bipush 10, 2) := by decide +kernel
theorem dX11_breaksLaw_197 : decode cX11_breaksLaw 197 = .ok (.iaload, 1) := by decide +kernel
theorem dX11_breaksLaw_198 : decode cX11_breaksLaw 198 = .ok (.invokevirtual 208, 3) := by decide +kernel
theorem dX11_breaksLaw_201 : decode cX11_breaksLaw 201 = .ok (.iconst 4, 1) := by decide +kernel
theorem dX11_breaksLaw_202 : decode cX11_breaksLaw 202 = .ok (.iload 5, 2) := by decide +kernel
theorem dX11_breaksLaw_204 : decode cX11_breaksLaw 204 = .ok (.invokevirtual 147, 3) := by decide +kernel
theorem dX11_breaksLaw_207 : decode cX11_breaksLaw 207 = .ok (.iinc 3 1, 3) := by decide +kernel
theorem dX11_breaksLaw_210 : decode cX11_breaksLaw 210 = .ok (.goto (-99), 3) := by decide +kernel
theorem dX11_breaksLaw_213 : decode cX11_breaksLaw 213 = .ok (.return_, 1) := by decide +kernel
theorem dX11_breaches_0 : decode cX11_breaches 0 = .ok (.iload_n 1, 1) := by decide +kernel
theorem dX11_breaches_1 : decode cX11_breaches 1 = .ok (.invokestatic 110, 3) := by decide +kernel
theorem dX11_breaches_4 : decode cX11_breaches 4 = .ok (.ifCond .ne 5, 3) := by decide +kernel
theorem dX11_breaches_7 : decode cX11_breaches 7 = .ok (.iconst (-1), 1) := by decide +kernel
theorem dX11_breaches_8 : decode cX11_breaches 8 = .ok (.ireturn, 1) := by decide +kernel
theorem dX11_breaches_9 : decode cX11_breaches 9 = .ok (.aload_n 0, 1) := by decide +kernel
theorem dX11_breaches_10 : decode cX11_breaches 10 = .ok (.iload_n 1, 1) := by decide +kernel
theorem dX11_breaches_11 : decode cX11_breaches 11 = .ok (.iload_n 2, 1) := by decide +kernel
theorem dX11_breaches_12 : decode cX11_breaches 12 = .ok (.invokevirtual 211, 3) := by decide +kernel
theorem dX11_breaches_15 : decode cX11_breaches 15 = .ok (.aload_n 0, 1) := by decide +kernel
theorem dX11_breaches_16 : decode cX11_breaches 16 = .ok (.getfield 131, 3) := by decide +kernel
theorem dX11_breaches_19 : decode cX11_breaches 19 = .ok (.ireturn, 1) := by decide +kernel
theorem dX11_breach_0 : decode cX11_breach 0 = .ok (.iload_n 1, 1) := by decide +kernel
theorem dX11_breach_1 : decode cX11_breach 1 = .ok (.invokestatic 110, 3) := by decide +kernel
theorem dX11_breach_4 : decode cX11_breach 4 = .ok (.ifCond .eq 7, 3) := by decide +kernel
theorem dX11_breach_7 : decode cX11_breach 7 = .ok (.iload_n 3, 1) := by decide +kernel
theorem dX11_breach_8 : decode cX11_breach 8 = .ok (.ifCond .ge 5, 3) := by decide +kernel
theorem dX11_breach_11 : decode cX11_breach 11 = .ok (.iconst (-1), 1) := by decide +kernel
theorem dX11_breach_12 : decode cX11_breach 12 = .ok (.ireturn, 1) := by decide +kernel
theorem dX11_breach_13 : decode cX11_breach 13 = .ok (.aload_n 0, 1) := by decide +kernel
theorem dX11_breach_14 : decode cX11_breach 14 = .ok (.iload_n 1, 1) := by decide +kernel
theorem dX11_breach_15 : decode cX11_breach 15 = .ok (.iload_n 2, 1) := by decide +kernel
theorem dX11_breach_16 : decode cX11_breach 16 = .ok (.invokevirtual 211, 3) := by decide +kernel
theorem dX11_breach_19 : decode cX11_breach 19 = .ok (.iload_n 3, 1) := by decide +kernel
theorem dX11_breach_20 : decode cX11_breach 20 = .ok (.aload_n 0, 1) := by decide +kernel
theorem dX11_breach_21 : decode cX11_breach 21 = .ok (.getfield 131, 3) := by decide +kernel
theorem dX11_breach_24 : decode cX11_breach 24 = .ok (.if_icmp .lt 5, 3) := by decide +kernel
theorem dX11_breach_27 : decode cX11_breach 27 = .ok (.iconst (-1), 1) := by decide +kernel
theorem dX11_breach_28 : decode cX11_breach 28 = .ok (.ireturn, 1) := by decide +kernel
theorem dX11_breach_29 : decode cX11_breach 29 = .ok (.iload 4, 2) := by decide +kernel
theorem dX11_breach_31 : decode cX11_breach 31 = .ok (.ifCond .ne 12, 3) := by decide +kernel
theorem dX11_breach_34 : decode cX11_breach 34 = .ok (.aload_n 0, 1) := by decide +kernel
theorem dX11_breach_35 : decode cX11_breach 35 = .ok (.getfield 56, 3) := by decide +kernel
theorem dX11_breach_38 : decode cX11_breach 38 = .ok (.iload_n 3, 1) := by decide +kernel
theorem dX11_breach_39 : decode cX11_breach 39 = .ok (.iaload, 1) := by decide +kernel
theorem dX11_breach_40 : decode cX11_breach 40 = .ok (.goto 34, 3) := by decide +kernel
theorem dX11_breach_43 : decode cX11_breach 43 = .ok (.iload 4, 2) := by decide +kernel
theorem dX11_breach_45 : decode cX11_breach 45 = .ok (.iconst 1, 1) := by decide +kernel
theorem dX11_breach_46 : decode cX11_breach 46 = .ok (.if_icmp .ne 12, 3) := by decide +kernel
theorem dX11_breach_49 : decode cX11_breach 49 = .ok (.aload_n 0, 1) := by decide +kernel
theorem dX11_breach_50 : decode cX11_breach 50 = .ok (.getfield 59, 3) := by decide +kernel
theorem dX11_breach_53 : decode cX11_breach 53 = .ok (.iload_n 3, 1) := by decide +kernel
theorem dX11_breach_54 : decode cX11_breach 54 = .ok (.iaload, 1) := by decide +kernel
theorem dX11_breach_55 : decode cX11_breach 55 = .ok (.goto 19, 3) := by decide +kernel
theorem dX11_breach_58 : decode cX11_breach 58 = .ok (.iload 4, 2) := by decide +kernel
theorem dX11_breach_60 : decode cX11_breach 60 = .ok (.iconst 2, 1) := by decide +kernel
theorem dX11_breach_61 : decode cX11_breach 61 = .ok (.if_icmp .ne 12, 3) := by decide +kernel
theorem dX11_breach_64 : decode cX11_breach 64 = .ok (.aload_n 0, 1) := by decide +kernel
theorem dX11_breach_65 : decode cX11_breach 65 = .ok (.getfield 62, 3) := by decide +kernel
theorem dX11_breach_68 : decode cX11_breach 68 = .ok (.iload_n 3, 1) := by decide +kernel
theorem dX11_breach_69 : decode cX11_breach 69 = .ok (.iaload, 1) := by decide +kernel
theorem dX11_breach_70 : decode cX11_breach 70 = .ok (.goto 4, 3) := by decide +kernel
theorem dX11_breach_73 : decode cX11_breach 73 = .ok (.iconst (-1), 1) := by decide +kernel
theorem dX11_breach_74 : decode cX11_breach 74 = .ok (.ireturn, 1) := by decide +kernel
theorem dX11_weight_0 : decode cX11_weight 0 = .ok (.iload_n 1, 1) := by decide +kernel
theorem dX11_weight_1 : decode cX11_weight 1 = .ok (.invokestatic 110, 3) := by decide +kernel
theorem dX11_weight_4 : decode cX11_weight 4 = .ok (.ifCond .ne 5, 3) := by decide +kernel
theorem dX11_weight_7 : decode cX11_weight 7 = .ok (.iconst (-1), 1) := by decide +kernel
theorem dX11_weight_8 : decode cX11_weight 8 = .ok (.ireturn, 1) := by decide +kernel
theorem dX11_weight_9 : decode cX11_weight 9 = .ok (.aload_n 0, 1) := by decide +kernel
theorem dX11_weight_10 : decode cX11_weight 10 = .ok (.iload_n 1, 1) := by decide +kernel
theorem dX11_weight_11 : decode cX11_weight 11 = .ok (.iload_n 2, 1) := by decide +kernel
theorem dX11_weight_12 : decode cX11_weight 12 = .ok (.invokevirtual 198, 3) := by decide +kernel
theorem dX11_weight_15 : decode cX11_weight 15 = .ok (.aload_n 0, 1) := by decide +kernel
theorem dX11_weight_16 : decode cX11_weight 16 = .ok (.invokevirtual 205, 3) := by decide +kernel
theorem dX11_weight_19 : decode cX11_weight 19 = .ok (.aload_n 0, 1) := by decide +kernel
theorem dX11_weight_20 : decode cX11_weight 20 = .ok (.getfield 177, 3) := by decide +kernel
theorem dX11_weight_23 : decode cX11_weight 23 = .ok (.ireturn, 1) := by decide +kernel
theorem dX11_day_0 : decode cX11_day 0 = .ok (.iload_n 1, 1) := by decide +kernel
theorem dX11_day_1 : decode cX11_day 1 = .ok (.invokestatic 110, 3) := by decide +kernel
theorem dX11_day_4 : decode cX11_day 4 = .ok (.ifCond .eq 7, 3) := by decide +kernel
theorem dX11_day_7 : decode cX11_day 7 = .ok (.iload_n 3, 1) := by decide +kernel
theorem dX11_day_8 : decode cX11_day 8 = .ok (.ifCond .ge 5, 3) := by decide +kernel
theorem dX11_day_11 : decode cX11_day 11 = .ok (.iconst (-1), 1) := by decide +kernel
theorem dX11_day_12 : decode cX11_day 12 = .ok (.ireturn, 1) := by decide +kernel
theorem dX11_day_13 : decode cX11_day 13 = .ok (.aload_n 0, 1) := by decide +kernel
theorem dX11_day_14 : decode cX11_day 14 = .ok (.iload_n 1, 1) := by decide +kernel
theorem dX11_day_15 : decode cX11_day 15 = .ok (.iload_n 2, 1) := by decide +kernel
theorem dX11_day_16 : decode cX11_day 16 = .ok (.invokevirtual 198, 3) := by decide +kernel
theorem dX11_day_19 : decode cX11_day 19 = .ok (.aload_n 0, 1) := by decide +kernel
theorem dX11_day_20 : decode cX11_day 20 = .ok (.invokevirtual 205, 3) := by decide +kernel
theorem dX11_day_23 : decode cX11_day 23 = .ok (.iload_n 3, 1) := by decide +kernel
theorem dX11_day_24 : decode cX11_day 24 = .ok (.aload_n 0, 1) := by decide +kernel
theorem dX11_day_25 : decode cX11_day 25 = .ok (.getfield 154, 3) := by decide +kernel
theorem dX11_day_28 : decode cX11_day 28 = .ok (.if_icmp .lt 5, 3) := by decide +kernel
theorem dX11_day_31 : decode cX11_day 31 = .ok (.iconst (-1), 1) := by decide +kernel
theorem dX11_day_32 : decode cX11_day 32 = .ok (.ireturn, 1) := by decide +kernel
theorem dX11_day_33 : decode cX11_day 33 = .ok (.iload 4, 2) := by decide +kernel
theorem dX11_day_35 : decode cX11_day 35 = .ok (.tableswitch 119 0 4 #[33, 40, 47, 64, 79], 33) := by decide +kernel
theorem dX11_day_68 : decode cX11_day 68 = .ok (.aload_n 0, 1) := by decide +kernel
theorem dX11_day_69 : decode cX11_day 69 = .ok (.getfield 68, 3) := by decide +kernel
theorem dX11_day_72 : decode cX11_day 72 = .ok (.iload_n 3, 1) := by decide +kernel
theorem dX11_day_73 : decode cX11_day 73 = .ok (.iaload, 1) := by decide +kernel
theorem dX11_day_74 : decode cX11_day 74 = .ok (.ireturn, 1) := by decide +kernel
theorem dX11_day_75 : decode cX11_day 75 = .ok (.aload_n 0, 1) := by decide +kernel
theorem dX11_day_76 : decode cX11_day 76 = .ok (.getfield 71, 3) := by decide +kernel
theorem dX11_day_79 : decode cX11_day 79 = .ok (.iload_n 3, 1) := by decide +kernel
theorem dX11_day_80 : decode cX11_day 80 = .ok (.iaload, 1) := by decide +kernel
theorem dX11_day_81 : decode cX11_day 81 = .ok (.ireturn, 1) := by decide +kernel
theorem dX11_day_82 : decode cX11_day 82 = .ok (.aload_n 0, 1) := by decide +kernel
theorem dX11_day_83 : decode cX11_day 83 = .ok (.aload_n 0, 1) := by decide +kernel
theorem dX11_day_84 : decode cX11_day 84 = .ok (.getfield 68, 3) := by decide +kernel
theorem dX11_day_87 : decode cX11_day 87 = .ok (.iload_n 3, 1) := by decide +kernel
theorem dX11_day_88 : decode cX11_day 88 = .ok (.iaload, 1) := by decide +kernel
theorem dX11_day_89 : decode cX11_day 89 = .ok (.aload_n 0, 1) := by decide +kernel
theorem dX11_day_90 : decode cX11_day 90 = .ok (.getfield 71, 3) := by decide +kernel
theorem dX11_day_93 : decode cX11_day 93 = .ok (.iload_n 3, 1) := by decide +kernel
theorem dX11_day_94 : decode cX11_day 94 = .ok (.iaload, 1) := by decide +kernel
theorem dX11_day_95 : decode cX11_day 95 = .ok (.invokevirtual 160, 3) := by decide +kernel
theorem dX11_day_98 : decode cX11_day 98 = .ok (.ireturn, 1) := by decide +kernel
theorem dX11_day_99 : decode cX11_day 99 = .ok (.aload_n 0, 1) := by decide +kernel
theorem dX11_day_100 : decode cX11_day 100 = .ok (.getfield 77, 3) := by decide +kernel
theorem dX11_day_103 : decode cX11_day 103 = .ok (.iload_n 3, 1) := by decide +kernel
theorem dX11_day_104 : decode cX11_day 104 = .ok (.baload, 1) := by decide +kernel
theorem dX11_day_105 : decode cX11_day 105 = .ok (.ifCond .eq 7, 3) := by decide +kernel
theorem dX11_day_108 : decode cX11_day 108 = .ok (.iconst 1, 1) := by decide +kernel
theorem dX11_day_109 : decode cX11_day 109 = .ok (.goto 4, 3) := by decide +kernel
theorem dX11_day_112 : decode cX11_day 112 = .ok (.iconst 0, 1) := by decide +kernel
theorem dX11_day_113 : decode cX11_day 113 = .ok (.ireturn, 1) := by decide +kernel
theorem dX11_day_114 : decode cX11_day 114 = .ok (.aload_n 0, 1) := by decide +kernel
theorem dX11_day_115 : decode cX11_day 115 = .ok (.getfield 74, 3) := by decide +kernel
theorem dX11_day_118 : decode cX11_day 118 = .ok (.iload_n 3, 1) := by decide +kernel
theorem dX11_day_119 : decode cX11_day 119 = .ok (.iaload, 1) := by decide +kernel
theorem dX11_day_120 : decode cX11_day 120 = .ok (.iconst (-1), 1) := by decide +kernel
theorem dX11_day_121 : decode cX11_day 121 = .ok (.if_icmp .ne 7, 3) := by decide +kernel
theorem dX11_day_124 : decode cX11_day 124 = .ok (.iconst 0, 1) := by decide +kernel
theorem dX11_day_125 : decode cX11_day 125 = .ok (.goto 28, 3) := by decide +kernel
theorem dX11_day_128 : decode cX11_day 128 = .ok (.aload_n 0, 1) := by decide +kernel
theorem dX11_day_129 : decode cX11_day 129 = .ok (.aload_n 0, 1) := by decide +kernel
theorem dX11_day_130 : decode cX11_day 130 = .ok (.getfield 74, 3) := by decide +kernel
theorem dX11_day_133 : decode cX11_day 133 = .ok (.iload_n 3, 1) := by decide +kernel
theorem dX11_day_134 : decode cX11_day 134 = .ok (.iaload, 1) := by decide +kernel
theorem dX11_day_135 : decode cX11_day 135 = .ok (.invokevirtual 141, 3) := by decide +kernel
theorem dX11_day_138 : decode cX11_day 138 = .ok (.aload_n 0, 1) := by decide +kernel
theorem dX11_day_139 : decode cX11_day 139 = .ok (.getfield 13, 3) := by decide +kernel
theorem dX11_day_142 : decode cX11_day 142 = .ok (.bipush 7, 2) := by decide +kernel
theorem dX11_day_144 : decode cX11_day 144 = .ok (.iaload, 1) := by decide +kernel
theorem dX11_day_145 : decode cX11_day 145 = .ok (.if_icmp .lt 7, 3) := by decide +kernel
theorem dX11_day_148 : decode cX11_day 148 = .ok (.iconst 1, 1) := by decide +kernel
theorem dX11_day_149 : decode cX11_day 149 = .ok (.goto 4, 3) := by decide +kernel
theorem dX11_day_152 : decode cX11_day 152 = .ok (.iconst 2, 1) := by decide +kernel
theorem dX11_day_153 : decode cX11_day 153 = .ok (.ireturn, 1) := by decide +kernel
theorem dX11_day_154 : decode cX11_day 154 = .ok (.iconst (-1), 1) := by decide +kernel
theorem dX11_day_155 : decode cX11_day 155 = .ok (.ireturn, 1) := by decide +kernel
theorem dX11_open_0 : decode cX11_open 0 = .ok (.aload_n 0, 1) := by decide +kernel
theorem dX11_open_1 : decode cX11_open 1 = .ok (.getfield 128, 3) := by decide +kernel
theorem dX11_open_4 : decode cX11_open 4 = .ok (.ifCond .le 30, 3) := by decide +kernel
theorem dX11_open_7 : decode cX11_open 7 = .ok (.aload_n 0, 1) := by decide +kernel
theorem dX11_open_8 : decode cX11_open 8 = .ok (.getfield 53, 3) := by decide +kernel
theorem dX11_open_11 : decode cX11_open 11 = .ok (.aload_n 0, 1) := by decide +kernel
theorem dX11_open_12 : decode cX11_open 12 = .ok (.getfield 128, 3) := by decide +kernel
theorem dX11_open_15 : decode cX11_open 15 = .ok (.iconst 1, 1) := by decide +kernel
theorem dX11_open_16 : decode cX11_open 16 = .ok (.isub, 1) := by decide +kernel
theorem dX11_open_17 : decode cX11_open 17 = .ok (.iaload, 1) := by decide +kernel
theorem dX11_open_18 : decode cX11_open 18 = .ok (.aload_n 0, 1) := by decide +kernel
theorem dX11_open_19 : decode cX11_open 19 = .ok (.getfield 121, 3) := by decide +kernel
theorem dX11_open_22 : decode cX11_open 22 = .ok (.if_icmp .ne 12, 3) := by decide +kernel
theorem dX11_open_25 : decode cX11_open 25 = .ok (.aload_n 0, 1) := by decide +kernel
theorem dX11_open_26 : decode cX11_open 26 = .ok (.getfield 128, 3) := by decide +kernel
theorem dX11_open_29 : decode cX11_open 29 = .ok (.iconst 1, 1) := by decide +kernel
theorem dX11_open_30 : decode cX11_open 30 = .ok (.isub, 1) := by decide +kernel
theorem dX11_open_31 : decode cX11_open 31 = .ok (.goto 7, 3) := by decide +kernel
theorem dX11_open_34 : decode cX11_open 34 = .ok (.aload_n 0, 1) := by decide +kernel
theorem dX11_open_35 : decode cX11_open 35 = .ok (.getfield 128, 3) := by decide +kernel
theorem dX11_open_38 : decode cX11_open 38 = .ok (.istore_n 1, 1) := by decide +kernel
theorem dX11_open_39 : decode cX11_open 39 = .ok (.iconst 0, 1) := by decide +kernel
theorem dX11_open_40 : decode cX11_open 40 = .ok (.istore_n 2, 1) := by decide +kernel
theorem dX11_open_41 : decode cX11_open 41 = .ok (.aload_n 0, 1) := by decide +kernel
theorem dX11_open_42 : decode cX11_open 42 = .ok (.iconst 0, 1) := by decide +kernel
theorem dX11_open_43 : decode cX11_open 43 = .ok (.putfield 138, 3) := by decide +kernel
theorem dX11_open_46 : decode cX11_open 46 = .ok (.aload_n 0, 1) := by decide +kernel
theorem dX11_open_47 : decode cX11_open 47 = .ok (.iconst 0, 1) := by decide +kernel
theorem dX11_open_48 : decode cX11_open 48 = .ok (.putfield 134, 3) := by decide +kernel
theorem dX11_open_51 : decode cX11_open 51 = .ok (.iconst 0, 1) := by decide +kernel
theorem dX11_open_52 : decode cX11_open 52 = .ok (.istore_n 3, 1) := by decide +kernel
theorem dX11_open_53 : decode cX11_open 53 = .ok (.iload_n 3, 1) := by decide +kernel
theorem dX11_open_54 : decode cX11_open 54 = .ok (.iload_n 1, 1) := by decide +kernel
theorem dX11_open_55 : decode cX11_open 55 = .ok (.if_icmp .ge 80, 3) := by decide +kernel
theorem dX11_open_58 : decode cX11_open 58 = .ok (.aload_n 0, 1) := by decide +kernel
theorem dX11_open_59 : decode cX11_open 59 = .ok (.aload_n 0, 1) := by decide +kernel
theorem dX11_open_60 : decode cX11_open 60 = .ok (.getfield 138, 3) := by decide +kernel
theorem dX11_open_63 : decode cX11_open 63 = .ok (.aload_n 0, 1) := by decide +kernel
theorem dX11_open_64 : decode cX11_open 64 = .ok (.iload_n 2, 1) := by decide +kernel
theorem dX11_open_65 : decode cX11_open 65 = .ok (.aload_n 0, 1) := by decide +kernel
theorem dX11_open_66 : decode cX11_open 66 = .ok (.getfield 53, 3) := by decide +kernel
theorem dX11_open_69 : decode cX11_open 69 = .ok (.iload_n 3, 1) := by decide +kernel
theorem dX11_open_70 : decode cX11_open 70 = .ok (.iaload, 1) := by decide +kernel
theorem dX11_open_71 : decode cX11_open 71 = .ok (.invokevirtual 160, 3) := by decide +kernel
theorem dX11_open_74 : decode cX11_open 74 = .ok (.iadd, 1) := by decide +kernel
theorem dX11_open_75 : decode cX11_open 75 = .ok (.putfield 138, 3) := by decide +kernel
theorem dX11_open_78 : decode cX11_open 78 = .ok (.aload_n 0, 1) := by decide +kernel
theorem dX11_open_79 : decode cX11_open 79 = .ok (.getfield 53, 3) := by decide +kernel
theorem dX11_open_82 : decode cX11_open 82 = .ok (.iload_n 3, 1) := by decide +kernel
theorem dX11_open_83 : decode cX11_open 83 = .ok (.iaload, 1) := by decide +kernel
theorem dX11_open_84 : decode cX11_open 84 = .ok (.istore_n 2, 1) := by decide +kernel
theorem dX11_open_85 : decode cX11_open 85 = .ok (.aload_n 0, 1) := by decide +kernel
theorem dX11_open_86 : decode cX11_open 86 = .ok (.aload_n 0, 1) := by decide +kernel
theorem dX11_open_87 : decode cX11_open 87 = .ok (.iload_n 3, 1) := by decide +kernel
theorem dX11_open_88 : decode cX11_open 88 = .ok (.invokevirtual 141, 3) := by decide +kernel
theorem dX11_open_91 : decode cX11_open 91 = .ok (.invokevirtual 144, 3) := by decide +kernel
theorem dX11_open_94 : decode cX11_open 94 = .ok (.ifCond .eq 16, 3) := by decide +kernel
theorem dX11_open_97 : decode cX11_open 97 = .ok (.aload_n 0, 1) := by decide +kernel
theorem dX11_open_98 : decode cX11_open 98 = .ok (.iconst 0, 1) := by decide +kernel
theorem dX11_open_99 : decode cX11_open 99 = .ok (.putfield 138, 3) := by decide +kernel
theorem dX11_open_102 : decode cX11_open 102 = .ok (.aload_n 0, 1) := by decide +kernel
theorem dX11_open_103 : decode cX11_open 103 = .ok (.iconst 0, 1) := by decide +kernel
theorem dX11_open_104 : decode cX11_open 104 = .ok (.putfield 134, 3) := by decide +kernel
theorem dX11_open_107 : decode cX11_open 107 = .ok (.goto 22, 3) := by decide +kernel
theorem dX11_open_110 : decode cX11_open 110 = .ok (.aload_n 0, 1) := by decide +kernel
theorem dX11_open_111 : decode cX11_open 111 = .ok (.iload_n 3, 1) := by decide +kernel
theorem dX11_open_112 : decode cX11_open 112 = .ok (.invokevirtual 141, 3) := by decide +kernel
theorem dX11_open_115 : decode cX11_open 115 = .ok (.aload_n 0, 1) := by decide +kernel
theorem dX11_open_116 : decode cX11_open 116 = .ok (.getfield 13, 3) := by decide +kernel
theorem dX11_open_119 : decode cX11_open 119 = .ok (.iconst 2, 1) := by decide +kernel
theorem dX11_open_120 : decode cX11_open 120 = .ok (.iaload, 1) := by decide +kernel
theorem dX11_open_121 : decode cX11_open 121 = .ok (.if_icmp .lt 8, 3) := by decide +kernel
theorem dX11_open_124 : decode cX11_open 124 = .ok (.aload_n 0, 1) := by decide +kernel
theorem dX11_open_125 : decode cX11_open 125 = .ok (.iconst 1, 1) := by decide +kernel
theorem dX11_open_126 : decode cX11_open 126 = .ok (.putfield 134, 3) := by decide +kernel
theorem dX11_open_129 : decode cX11_open 129 = .ok (.iinc 3 1, 3) := by decide +kernel
theorem dX11_open_132 : decode cX11_open 132 = .ok (.goto (-79), 3) := by decide +kernel
theorem dX11_open_135 : decode cX11_open 135 = .ok (.aload_n 0, 1) := by decide +kernel
theorem dX11_open_136 : decode cX11_open 136 = .ok (.aload_n 0, 1) := by decide +kernel
theorem dX11_open_137 : decode cX11_open 137 = .ok (.getfield 138, 3) := by decide +kernel
theorem dX11_open_140 : decode cX11_open 140 = .ok (.aload_n 0, 1) := by decide +kernel
theorem dX11_open_141 : decode cX11_open 141 = .ok (.iload_n 2, 1) := by decide +kernel
theorem dX11_open_142 : decode cX11_open 142 = .ok (.aload_n 0, 1) := by decide +kernel
theorem dX11_open_143 : decode cX11_open 143 = .ok (.getfield 121, 3) := by decide +kernel
theorem dX11_open_146 : decode cX11_open 146 = .ok (.invokevirtual 160, 3) := by decide +kernel
theorem dX11_open_149 : decode cX11_open 149 = .ok (.iadd, 1) := by decide +kernel
theorem dX11_open_150 : decode cX11_open 150 = .ok (.putfield 138, 3) := by decide +kernel
theorem dX11_open_153 : decode cX11_open 153 = .ok (.iload_n 1, 1) := by decide +kernel
theorem dX11_open_154 : decode cX11_open 154 = .ok (.aload_n 0, 1) := by decide +kernel
theorem dX11_open_155 : decode cX11_open 155 = .ok (.getfield 128, 3) := by decide +kernel
theorem dX11_open_158 : decode cX11_open 158 = .ok (.if_icmp .ge 11, 3) := by decide +kernel
theorem dX11_open_161 : decode cX11_open 161 = .ok (.aload_n 0, 1) := by decide +kernel
theorem dX11_open_162 : decode cX11_open 162 = .ok (.iload_n 1, 1) := by decide +kernel
theorem dX11_open_163 : decode cX11_open 163 = .ok (.invokevirtual 141, 3) := by decide +kernel
theorem dX11_open_166 : decode cX11_open 166 = .ok (.goto 4, 3) := by decide +kernel
theorem dX11_open_169 : decode cX11_open 169 = .ok (.iconst 0, 1) := by decide +kernel
theorem dX11_open_170 : decode cX11_open 170 = .ok (.ireturn, 1) := by decide +kernel
theorem dX11_may_0 : decode cX11_may 0 = .ok (.iload_n 1, 1) := by decide +kernel
theorem dX11_may_1 : decode cX11_may 1 = .ok (.invokestatic 110, 3) := by decide +kernel
theorem dX11_may_4 : decode cX11_may 4 = .ok (.ifCond .ne 5, 3) := by decide +kernel
theorem dX11_may_7 : decode cX11_may 7 = .ok (.iconst (-1), 1) := by decide +kernel
theorem dX11_may_8 : decode cX11_may 8 = .ok (.ireturn, 1) := by decide +kernel
theorem dX11_may_9 : decode cX11_may 9 = .ok (.aload_n 0, 1) := by decide +kernel
theorem dX11_may_10 : decode cX11_may 10 = .ok (.iload_n 1, 1) := by decide +kernel
theorem dX11_may_11 : decode cX11_may 11 = .ok (.iload_n 2, 1) := by decide +kernel
theorem dX11_may_12 : decode cX11_may 12 = .ok (.invokevirtual 198, 3) := by decide +kernel
theorem dX11_may_15 : decode cX11_may 15 = .ok (.aload_n 0, 1) := by decide +kernel
theorem dX11_may_16 : decode cX11_may 16 = .ok (.invokevirtual 214, 3) := by decide +kernel
theorem dX11_may_19 : decode cX11_may 19 = .ok (.istore_n 3, 1) := by decide +kernel
theorem dX11_may_20 : decode cX11_may 20 = .ok (.iload_n 3, 1) := by decide +kernel
theorem dX11_may_21 : decode cX11_may 21 = .ok (.ifCond .le 15, 3) := by decide +kernel
theorem dX11_may_24 : decode cX11_may 24 = .ok (.aload_n 0, 1) := by decide +kernel
theorem dX11_may_25 : decode cX11_may 25 = .ok (.iload_n 3, 1) := by decide +kernel
theorem dX11_may_26 : decode cX11_may 26 = .ok (.invokevirtual 144, 3) := by decide +kernel
theorem dX11_may_29 : decode cX11_may 29 = .ok (.ifCond .eq 7, 3) := by decide +kernel
theorem dX11_may_32 : decode cX11_may 32 = .ok (.iconst 0, 1) := by decide +kernel
theorem dX11_may_33 : decode cX11_may 33 = .ok (.goto 7, 3) := by decide +kernel
theorem dX11_may_36 : decode cX11_may 36 = .ok (.aload_n 0, 1) := by decide +kernel
theorem dX11_may_37 : decode cX11_may 37 = .ok (.getfield 138, 3) := by decide +kernel
theorem dX11_may_40 : decode cX11_may 40 = .ok (.istore 4, 2) := by decide +kernel
theorem dX11_may_42 : decode cX11_may 42 = .ok (.iload 4, 2) := by decide +kernel
theorem dX11_may_44 : decode cX11_may 44 = .ok (.aload_n 0, 1) := by decide +kernel
theorem dX11_may_45 : decode cX11_may 45 = .ok (.getfield 13, 3) := by decide +kernel
theorem dX11_may_48 : decode cX11_may 48 = .ok (.iconst 0, 1) := by decide +kernel
theorem dX11_may_49 : decode cX11_may 49 = .ok (.iaload, 1) := by decide +kernel
theorem dX11_may_50 : decode cX11_may 50 = .ok (.if_icmp .ge 15, 3) := by decide +kernel
theorem dX11_may_53 : decode cX11_may 53 = .ok (.aload_n 0, 1) := by decide +kernel
theorem dX11_may_54 : decode cX11_may 54 = .ok (.getfield 13, 3) := by decide +kernel
theorem dX11_may_57 : decode cX11_may 57 = .ok (.iconst 0, 1) := by decide +kernel
theorem dX11_may_58 : decode cX11_may 58 = .ok (.iaload, 1) := by decide +kernel
theorem dX11_may_59 : decode cX11_may 59 = .ok (.iload 4, 2) := by decide +kernel
theorem dX11_may_61 : decode cX11_may 61 = .ok (.isub, 1) := by decide +kernel
theorem dX11_may_62 : decode cX11_may 62 = .ok (.goto 4, 3) := by decide +kernel
theorem dX11_may_65 : decode cX11_may 65 = .ok (.iconst 0, 1) := by decide +kernel
theorem dX11_may_66 : decode cX11_may 66 = .ok (.ireturn, 1) := by decide +kernel
theorem dX11_lesser_0 : decode cX11_lesser 0 = .ok (.iload_n 0, 1) := by decide +kernel
theorem dX11_lesser_1 : decode cX11_lesser 1 = .ok (.iload_n 1, 1) := by decide +kernel
theorem dX11_lesser_2 : decode cX11_lesser 2 = .ok (.if_icmp .ge 7, 3) := by decide +kernel
theorem dX11_lesser_5 : decode cX11_lesser 5 = .ok (.iload_n 0, 1) := by decide +kernel
theorem dX11_lesser_6 : decode cX11_lesser 6 = .ok (.goto 4, 3) := by decide +kernel
theorem dX11_lesser_9 : decode cX11_lesser 9 = .ok (.iload_n 1, 1) := by decide +kernel
theorem dX11_lesser_10 : decode cX11_lesser 10 = .ok (.ireturn, 1) := by decide +kernel
theorem dX11_wholeOr_0 : decode cX11_wholeOr 0 = .ok (.iload_n 1, 1) := by decide +kernel
theorem dX11_wholeOr_1 : decode cX11_wholeOr 1 = .ok (.ifCond .eq 28, 3) := by decide +kernel
theorem dX11_wholeOr_4 : decode cX11_wholeOr 4 = .ok (.aload_n 0, 1) := by decide +kernel
theorem dX11_wholeOr_5 : decode cX11_wholeOr 5 = .ok (.getfield 13, 3) := by decide +kernel
theorem dX11_wholeOr_8 : decode cX11_wholeOr 8 = .ok (.iconst 1, 1) := by decide +kernel
theorem dX11_wholeOr_9 : decode cX11_wholeOr 9 = .ok (.iaload, 1) := by decide +kernel
theorem dX11_wholeOr_10 : decode cX11_wholeOr 10 = .ok (.aload_n 0, 1) := by decide +kernel
theorem dX11_wholeOr_11 : decode cX11_wholeOr 11 = .ok (.getfield 13, 3) := by decide +kernel
theorem dX11_wholeOr_14 : decode cX11_wholeOr 14 = .ok (.iconst 2, 1) := by decide +kernel
theorem dX11_wholeOr_15 : decode cX11_wholeOr 15 = .ok (.iaload, 1) := by decide +kernel
theorem dX11_wholeOr_16 : decode cX11_wholeOr 16 = .ok (.aload_n 0, 1) := by decide +kernel
theorem dX11_wholeOr_17 : decode cX11_wholeOr 17 = .ok (.getfield 13, 3) := by decide +kernel
theorem dX11_wholeOr_20 : decode cX11_wholeOr 20 = .ok (.iconst 3, 1) := by decide +kernel
theorem dX11_wholeOr_21 : decode cX11_wholeOr 21 = .ok (.iaload, 1) := by decide +kernel
theorem dX11_wholeOr_22 : decode cX11_wholeOr 22 = .ok (.iadd, 1) := by decide +kernel
theorem dX11_wholeOr_23 : decode cX11_wholeOr 23 = .ok (.invokestatic 218, 3) := by decide +kernel
theorem dX11_wholeOr_26 : decode cX11_wholeOr 26 = .ok (.goto 9, 3) := by decide +kernel
theorem dX11_wholeOr_29 : decode cX11_wholeOr 29 = .ok (.aload_n 0, 1) := by decide +kernel
theorem dX11_wholeOr_30 : decode cX11_wholeOr 30 = .ok (.getfield 13, 3) := by decide +kernel
theorem dX11_wholeOr_33 : decode cX11_wholeOr 33 = .ok (.iconst 1, 1) := by decide +kernel
theorem dX11_wholeOr_34 : decode cX11_wholeOr 34 = .ok (.iaload, 1) := by decide +kernel
theorem dX11_wholeOr_35 : decode cX11_wholeOr 35 = .ok (.ireturn, 1) := by decide +kernel
theorem dX11_mostOf_0 : decode cX11_mostOf 0 = .ok (.iload_n 3, 1) := by decide +kernel
theorem dX11_mostOf_1 : decode cX11_mostOf 1 = .ok (.ifCond .ge 5, 3) := by decide +kernel
theorem dX11_mostOf_4 : decode cX11_mostOf 4 = .ok (.iconst 0, 1) := by decide +kernel
theorem dX11_mostOf_5 : decode cX11_mostOf 5 = .ok (.ireturn, 1) := by decide +kernel
theorem dX11_mostOf_6 : decode cX11_mostOf 6 = .ok (.iload_n 1, 1) := by decide +kernel
theorem dX11_mostOf_7 : decode cX11_mostOf 7 = .ok (.iload_n 3, 1) := by decide +kernel
theorem dX11_mostOf_8 : decode cX11_mostOf 8 = .ok (.invokestatic 218, 3) := by decide +kernel
theorem dX11_mostOf_11 : decode cX11_mostOf 11 = .ok (.istore 4, 2) := by decide +kernel
theorem dX11_mostOf_13 : decode cX11_mostOf 13 = .ok (.iload_n 1, 1) := by decide +kernel
theorem dX11_mostOf_14 : decode cX11_mostOf 14 = .ok (.istore 5, 2) := by decide +kernel
theorem dX11_mostOf_16 : decode cX11_mostOf 16 = .ok (.iload_n 3, 1) := by decide +kernel
theorem dX11_mostOf_17 : decode cX11_mostOf 17 = .ok (.iload_n 2, 1) := by decide +kernel
theorem dX11_mostOf_18 : decode cX11_mostOf 18 = .ok (.isub, 1) := by decide +kernel
theorem dX11_mostOf_19 : decode cX11_mostOf 19 = .ok (.istore 6, 2) := by decide +kernel
theorem dX11_mostOf_21 : decode cX11_mostOf 21 = .ok (.iload 6, 2) := by decide +kernel
theorem dX11_mostOf_23 : decode cX11_mostOf 23 = .ok (.ifCond .le 67, 3) := by decide +kernel
theorem dX11_mostOf_26 : decode cX11_mostOf 26 = .ok (.iload 5, 2) := by decide +kernel
theorem dX11_mostOf_28 : decode cX11_mostOf 28 = .ok (.aload_n 0, 1) := by decide +kernel
theorem dX11_mostOf_29 : decode cX11_mostOf 29 = .ok (.getfield 13, 3) := by decide +kernel
theorem dX11_mostOf_32 : decode cX11_mostOf 32 = .ok (.iconst 0, 1) := by decide +kernel
theorem dX11_mostOf_33 : decode cX11_mostOf 33 = .ok (.iaload, 1) := by decide +kernel
theorem dX11_mostOf_34 : decode cX11_mostOf 34 = .ok (.iadd, 1) := by decide +kernel
theorem dX11_mostOf_35 : decode cX11_mostOf 35 = .ok (.istore 5, 2) := by decide +kernel
theorem dX11_mostOf_37 : decode cX11_mostOf 37 = .ok (.iload 5, 2) := by decide +kernel
theorem dX11_mostOf_39 : decode cX11_mostOf 39 = .ok (.iload 6, 2) := by decide +kernel
theorem dX11_mostOf_41 : decode cX11_mostOf 41 = .ok (.invokestatic 218, 3) := by decide +kernel
theorem dX11_mostOf_44 : decode cX11_mostOf 44 = .ok (.iload 4, 2) := by decide +kernel
theorem dX11_mostOf_46 : decode cX11_mostOf 46 = .ok (.if_icmp .le 13, 3) := by decide +kernel
theorem dX11_mostOf_49 : decode cX11_mostOf 49 = .ok (.iload 5, 2) := by decide +kernel
theorem dX11_mostOf_51 : decode cX11_mostOf 51 = .ok (.iload 6, 2) := by decide +kernel
theorem dX11_mostOf_53 : decode cX11_mostOf 53 = .ok (.invokestatic 218, 3) := by decide +kernel
theorem dX11_mostOf_56 : decode cX11_mostOf 56 = .ok (.goto 5, 3) := by decide +kernel
theorem dX11_mostOf_59 : decode cX11_mostOf 59 = .ok (.iload 4, 2) := by decide +kernel
theorem dX11_mostOf_61 : decode cX11_mostOf 61 = .ok (.istore 4, 2) := by decide +kernel
theorem dX11_mostOf_63 : decode cX11_mostOf 63 = .ok (.iload 6, 2) := by decide +kernel
theorem dX11_mostOf_65 : decode cX11_mostOf 65 = .ok (.aload_n 0, 1) := by decide +kernel
theorem dX11_mostOf_66 : decode cX11_mostOf 66 = .ok (.aload_n 0, 1) := by decide +kernel
theorem dX11_mostOf_67 : decode cX11_mostOf 67 = .ok (.getfield 13, 3) := by decide +kernel
theorem dX11_mostOf_70 : decode cX11_mostOf 70 = .ok (.iconst 0, 1) := by decide +kernel
theorem dX11_mostOf_71 : decode cX11_mostOf 71 = .ok (.iaload, 1) := by decide +kernel
theorem dX11_mostOf_72 : decode cX11_mostOf 72 = .ok (.iconst 1, 1) := by decide +kernel
theorem dX11_mostOf_73 : decode cX11_mostOf 73 = .ok (.if_icmp .le 7, 3) := by decide +kernel
theorem dX11_mostOf_76 : decode cX11_mostOf 76 = .ok (.iconst 1, 1) := by decide +kernel
theorem dX11_mostOf_77 : decode cX11_mostOf 77 = .ok (.goto 4, 3) := by decide +kernel
theorem dX11_mostOf_80 : decode cX11_mostOf 80 = .ok (.iconst 0, 1) := by decide +kernel
theorem dX11_mostOf_81 : decode cX11_mostOf 81 = .ok (.invokevirtual 221, 3) := by decide +kernel
theorem dX11_mostOf_84 : decode cX11_mostOf 84 = .ok (.isub, 1) := by decide +kernel
theorem dX11_mostOf_85 : decode cX11_mostOf 85 = .ok (.istore 6, 2) := by decide +kernel
theorem dX11_mostOf_87 : decode cX11_mostOf 87 = .ok (.goto (-66), 3) := by decide +kernel
theorem dX11_mostOf_90 : decode cX11_mostOf 90 = .ok (.iload 4, 2) := by decide +kernel
theorem dX11_mostOf_92 : decode cX11_mostOf 92 = .ok (.ireturn, 1) := by decide +kernel
theorem dX11_greater_0 : decode cX11_greater 0 = .ok (.iload_n 0, 1) := by decide +kernel
theorem dX11_greater_1 : decode cX11_greater 1 = .ok (.iload_n 1, 1) := by decide +kernel
theorem dX11_greater_2 : decode cX11_greater 2 = .ok (.if_icmp .le 7, 3) := by decide +kernel
theorem dX11_greater_5 : decode cX11_greater 5 = .ok (.iload_n 0, 1) := by decide +kernel
theorem dX11_greater_6 : decode cX11_greater 6 = .ok (.goto 4, 3) := by decide +kernel
theorem dX11_greater_9 : decode cX11_greater 9 = .ok (.iload_n 1, 1) := by decide +kernel
theorem dX11_greater_10 : decode cX11_greater 10 = .ok (.ireturn, 1) := by decide +kernel
theorem dX11_most_0 : decode cX11_most 0 = .ok (.iload_n 1, 1) := by decide +kernel
theorem dX11_most_1 : decode cX11_most 1 = .ok (.invokestatic 110, 3) := by decide +kernel
theorem dX11_most_4 : decode cX11_most 4 = .ok (.ifCond .eq 14, 3) := by decide +kernel
theorem dX11_most_7 : decode cX11_most 7 = .ok (.iload_n 3, 1) := by decide +kernel
theorem dX11_most_8 : decode cX11_most 8 = .ok (.ifCond .lt 10, 3) := by decide +kernel
theorem dX11_most_11 : decode cX11_most 11 = .ok (.iload_n 3, 1) := by decide +kernel
theorem dX11_most_12 : decode cX11_most 12 = .ok (.sipush 2000, 3) := by decide +kernel
theorem dX11_most_15 : decode cX11_most 15 = .ok (.if_icmp .le 5, 3) := by decide +kernel
theorem dX11_most_18 : decode cX11_most 18 = .ok (.iconst (-1), 1) := by decide +kernel
theorem dX11_most_19 : decode cX11_most 19 = .ok (.ireturn, 1) := by decide +kernel
theorem dX11_most_20 : decode cX11_most 20 = .ok (.aload_n 0, 1) := by decide +kernel
theorem dX11_most_21 : decode cX11_most 21 = .ok (.iload_n 1, 1) := by decide +kernel
theorem dX11_most_22 : decode cX11_most 22 = .ok (.iload_n 2, 1) := by decide +kernel
theorem dX11_most_23 : decode cX11_most 23 = .ok (.invokevirtual 198, 3) := by decide +kernel
theorem dX11_most_26 : decode cX11_most 26 = .ok (.aload_n 0, 1) := by decide +kernel
theorem dX11_most_27 : decode cX11_most 27 = .ok (.invokevirtual 214, 3) := by decide +kernel
theorem dX11_most_30 : decode cX11_most 30 = .ok (.istore 4, 2) := by decide +kernel
theorem dX11_most_32 : decode cX11_most 32 = .ok (.aload_n 0, 1) := by decide +kernel
theorem dX11_most_33 : decode cX11_most 33 = .ok (.getfield 138, 3) := by decide +kernel
theorem dX11_most_36 : decode cX11_most 36 = .ok (.aload_n 0, 1) := by decide +kernel
theorem dX11_most_37 : decode cX11_most 37 = .ok (.getfield 13, 3) := by decide +kernel
theorem dX11_most_40 : decode cX11_most 40 = .ok (.iconst 0, 1) := by decide +kernel
theorem dX11_most_41 : decode cX11_most 41 = .ok (.iaload, 1) := by decide +kernel
theorem dX11_most_42 : decode cX11_most 42 = .ok (.if_icmp .ge 17, 3) := by decide +kernel
theorem dX11_most_45 : decode cX11_most 45 = .ok (.aload_n 0, 1) := by decide +kernel
theorem dX11_most_46 : decode cX11_most 46 = .ok (.getfield 13, 3) := by decide +kernel
theorem dX11_most_49 : decode cX11_most 49 = .ok (.iconst 0, 1) := by decide +kernel
theorem dX11_most_50 : decode cX11_most 50 = .ok (.iaload, 1) := by decide +kernel
theorem dX11_most_51 : decode cX11_most 51 = .ok (.aload_n 0, 1) := by decide +kernel
theorem dX11_most_52 : decode cX11_most 52 = .ok (.getfield 138, 3) := by decide +kernel
theorem dX11_most_55 : decode cX11_most 55 = .ok (.isub, 1) := by decide +kernel
theorem dX11_most_56 : decode cX11_most 56 = .ok (.goto 4, 3) := by decide +kernel
theorem dX11_most_59 : decode cX11_most 59 = .ok (.iconst 0, 1) := by decide +kernel
theorem dX11_most_60 : decode cX11_most 60 = .ok (.istore 5, 2) := by decide +kernel
theorem dX11_most_62 : decode cX11_most 62 = .ok (.aload_n 0, 1) := by decide +kernel
theorem dX11_most_63 : decode cX11_most 63 = .ok (.getfield 13, 3) := by decide +kernel
theorem dX11_most_66 : decode cX11_most 66 = .ok (.iconst 1, 1) := by decide +kernel
theorem dX11_most_67 : decode cX11_most 67 = .ok (.iaload, 1) := by decide +kernel
theorem dX11_most_68 : decode cX11_most 68 = .ok (.aload_n 0, 1) := by decide +kernel
theorem dX11_most_69 : decode cX11_most 69 = .ok (.getfield 13, 3) := by decide +kernel
theorem dX11_most_72 : decode cX11_most 72 = .ok (.iconst 3, 1) := by decide +kernel
theorem dX11_most_73 : decode cX11_most 73 = .ok (.iaload, 1) := by decide +kernel
theorem dX11_most_74 : decode cX11_most 74 = .ok (.invokestatic 218, 3) := by decide +kernel
theorem dX11_most_77 : decode cX11_most 77 = .ok (.istore 6, 2) := by decide +kernel
theorem dX11_most_79 : decode cX11_most 79 = .ok (.iload 4, 2) := by decide +kernel
theorem dX11_most_81 : decode cX11_most 81 = .ok (.ifCond .ne 37, 3) := by decide +kernel
theorem dX11_most_84 : decode cX11_most 84 = .ok (.aload_n 0, 1) := by decide +kernel
theorem dX11_most_85 : decode cX11_most 85 = .ok (.iload 5, 2) := by decide +kernel
theorem dX11_most_87 : decode cX11_most 87 = .ok (.aload_n 0, 1) := by decide +kernel
theorem dX11_most_88 : decode cX11_most 88 = .ok (.getfield 134, 3) := by decide +kernel
theorem dX11_most_91 : decode cX11_most 91 = .ok (.ifCond .eq 8, 3) := by decide +kernel
theorem dX11_most_94 : decode cX11_most 94 = .ok (.iload 6, 2) := by decide +kernel
theorem dX11_most_96 : decode cX11_most 96 = .ok (.goto 17, 3) := by decide +kernel
theorem dX11_most_99 : decode cX11_most 99 = .ok (.aload_n 0, 1) := by decide +kernel
theorem dX11_most_100 : decode cX11_most 100 = .ok (.iload 5, 2) := by decide +kernel
theorem dX11_most_102 : decode cX11_most 102 = .ok (.ifCond .le 7, 3) := by decide +kernel
theorem dX11_most_105 : decode cX11_most 105 = .ok (.iconst 1, 1) := by decide +kernel
theorem dX11_most_106 : decode cX11_most 106 = .ok (.goto 4, 3) := by decide +kernel
theorem dX11_most_109 : decode cX11_most 109 = .ok (.iconst 0, 1) := by decide +kernel
theorem dX11_most_110 : decode cX11_most 110 = .ok (.invokevirtual 221, 3) := by decide +kernel
theorem dX11_most_113 : decode cX11_most 113 = .ok (.iload_n 3, 1) := by decide +kernel
theorem dX11_most_114 : decode cX11_most 114 = .ok (.invokevirtual 225, 3) := by decide +kernel
theorem dX11_most_117 : decode cX11_most 117 = .ok (.ireturn, 1) := by decide +kernel
theorem dX11_most_118 : decode cX11_most 118 = .ok (.aload_n 0, 1) := by decide +kernel
theorem dX11_most_119 : decode cX11_most 119 = .ok (.iload 4, 2) := by decide +kernel
theorem dX11_most_121 : decode cX11_most 121 = .ok (.invokevirtual 144, 3) := by decide +kernel
theorem dX11_most_124 : decode cX11_most 124 = .ok (.ifCond .eq 34, 3) := by decide +kernel
theorem dX11_most_127 : decode cX11_most 127 = .ok (.aload_n 0, 1) := by decide +kernel
theorem dX11_most_128 : decode cX11_most 128 = .ok (.aload_n 0, 1) := by decide +kernel
theorem dX11_most_129 : decode cX11_most 129 = .ok (.getfield 13, 3) := by decide +kernel
theorem dX11_most_132 : decode cX11_most 132 = .ok (.iconst 0, 1) := by decide +kernel
theorem dX11_most_133 : decode cX11_most 133 = .ok (.iaload, 1) := by decide +kernel
theorem dX11_most_134 : decode cX11_most 134 = .ok (.aload_n 0, 1) := by decide +kernel
theorem dX11_most_135 : decode cX11_most 135 = .ok (.aload_n 0, 1) := by decide +kernel
theorem dX11_most_136 : decode cX11_most 136 = .ok (.getfield 13, 3) := by decide +kernel
theorem dX11_most_139 : decode cX11_most 139 = .ok (.iconst 0, 1) := by decide +kernel
theorem dX11_most_140 : decode cX11_most 140 = .ok (.iaload, 1) := by decide +kernel
theorem dX11_most_141 : decode cX11_most 141 = .ok (.iconst 1, 1) := by decide +kernel
theorem dX11_most_142 : decode cX11_most 142 = .ok (.if_icmp .le 7, 3) := by decide +kernel
theorem dX11_most_145 : decode cX11_most 145 = .ok (.iconst 1, 1) := by decide +kernel
theorem dX11_most_146 : decode cX11_most 146 = .ok (.goto 4, 3) := by decide +kernel
theorem dX11_most_149 : decode cX11_most 149 = .ok (.iconst 0, 1) := by decide +kernel
theorem dX11_most_150 : decode cX11_most 150 = .ok (.invokevirtual 221, 3) := by decide +kernel
theorem dX11_most_153 : decode cX11_most 153 = .ok (.iload_n 3, 1) := by decide +kernel
theorem dX11_most_154 : decode cX11_most 154 = .ok (.invokevirtual 225, 3) := by decide +kernel
theorem dX11_most_157 : decode cX11_most 157 = .ok (.ireturn, 1) := by decide +kernel
theorem dX11_most_158 : decode cX11_most 158 = .ok (.iload 5, 2) := by decide +kernel
theorem dX11_most_160 : decode cX11_most 160 = .ok (.ifCond .le 51, 3) := by decide +kernel
theorem dX11_most_163 : decode cX11_most 163 = .ok (.aload_n 0, 1) := by decide +kernel
theorem dX11_most_164 : decode cX11_most 164 = .ok (.iload 5, 2) := by decide +kernel
theorem dX11_most_166 : decode cX11_most 166 = .ok (.aload_n 0, 1) := by decide +kernel
theorem dX11_most_167 : decode cX11_most 167 = .ok (.getfield 134, 3) := by decide +kernel
theorem dX11_most_170 : decode cX11_most 170 = .ok (.ifCond .ne 14, 3) := by decide +kernel
theorem dX11_most_173 : decode cX11_most 173 = .ok (.iload 4, 2) := by decide +kernel
theorem dX11_most_175 : decode cX11_most 175 = .ok (.aload_n 0, 1) := by decide +kernel
theorem dX11_most_176 : decode cX11_most 176 = .ok (.getfield 13, 3) := by decide +kernel
theorem dX11_most_179 : decode cX11_most 179 = .ok (.iconst 2, 1) := by decide +kernel
theorem dX11_most_180 : decode cX11_most 180 = .ok (.iaload, 1) := by decide +kernel
theorem dX11_most_181 : decode cX11_most 181 = .ok (.if_icmp .lt 8, 3) := by decide +kernel
theorem dX11_most_184 : decode cX11_most 184 = .ok (.iload 6, 2) := by decide +kernel
theorem dX11_most_186 : decode cX11_most 186 = .ok (.goto 18, 3) := by decide +kernel
theorem dX11_most_189 : decode cX11_most 189 = .ok (.aload_n 0, 1) := by decide +kernel
theorem dX11_most_190 : decode cX11_most 190 = .ok (.iload 5, 2) := by decide +kernel
theorem dX11_most_192 : decode cX11_most 192 = .ok (.iconst 1, 1) := by decide +kernel
theorem dX11_most_193 : decode cX11_most 193 = .ok (.if_icmp .le 7, 3) := by decide +kernel
theorem dX11_most_196 : decode cX11_most 196 = .ok (.iconst 1, 1) := by decide +kernel
theorem dX11_most_197 : decode cX11_most 197 = .ok (.goto 4, 3) := by decide +kernel
theorem dX11_most_200 : decode cX11_most 200 = .ok (.iconst 0, 1) := by decide +kernel
theorem dX11_most_201 : decode cX11_most 201 = .ok (.invokevirtual 221, 3) := by decide +kernel
theorem dX11_most_204 : decode cX11_most 204 = .ok (.iload_n 3, 1) := by decide +kernel
theorem dX11_most_205 : decode cX11_most 205 = .ok (.invokevirtual 225, 3) := by decide +kernel
theorem dX11_most_208 : decode cX11_most 208 = .ok (.goto 4, 3) := by decide +kernel
theorem dX11_most_211 : decode cX11_most 211 = .ok (.iconst 0, 1) := by decide +kernel
theorem dX11_most_212 : decode cX11_most 212 = .ok (.istore 7, 2) := by decide +kernel
theorem dX11_most_214 : decode cX11_most 214 = .ok (.aload_n 0, 1) := by decide +kernel
theorem dX11_most_215 : decode cX11_most 215 = .ok (.getfield 134, 3) := by decide +kernel
theorem dX11_most_218 : decode cX11_most 218 = .ok (.ifCond .eq 8, 3) := by decide +kernel
theorem dX11_most_221 : decode cX11_most 221 = .ok (.iload 6, 2) := by decide +kernel
theorem dX11_most_223 : decode cX11_most 223 = .ok (.goto 9, 3) := by decide +kernel
theorem dX11_most_226 : decode cX11_most 226 = .ok (.aload_n 0, 1) := by decide +kernel
theorem dX11_most_227 : decode cX11_most 227 = .ok (.getfield 13, 3) := by decide +kernel
theorem dX11_most_230 : decode cX11_most 230 = .ok (.iconst 1, 1) := by decide +kernel
theorem dX11_most_231 : decode cX11_most 231 = .ok (.iaload, 1) := by decide +kernel
theorem dX11_most_232 : decode cX11_most 232 = .ok (.iload 4, 2) := by decide +kernel
theorem dX11_most_234 : decode cX11_most 234 = .ok (.isub, 1) := by decide +kernel
theorem dX11_most_235 : decode cX11_most 235 = .ok (.istore 8, 2) := by decide +kernel
theorem dX11_most_237 : decode cX11_most 237 = .ok (.iload 7, 2) := by decide +kernel
theorem dX11_most_239 : decode cX11_most 239 = .ok (.aload_n 0, 1) := by decide +kernel
theorem dX11_most_240 : decode cX11_most 240 = .ok (.aload_n 0, 1) := by decide +kernel
theorem dX11_most_241 : decode cX11_most 241 = .ok (.getfield 13, 3) := by decide +kernel
theorem dX11_most_244 : decode cX11_most 244 = .ok (.iconst 0, 1) := by decide +kernel
theorem dX11_most_245 : decode cX11_most 245 = .ok (.iaload, 1) := by decide +kernel
theorem dX11_most_246 : decode cX11_most 246 = .ok (.aload_n 0, 1) := by decide +kernel
theorem dX11_most_247 : decode cX11_most 247 = .ok (.aload_n 0, 1) := by decide +kernel
theorem dX11_most_248 : decode cX11_most 248 = .ok (.getfield 13, 3) := by decide +kernel
theorem dX11_most_251 : decode cX11_most 251 = .ok (.iconst 0, 1) := by decide +kernel
theorem dX11_most_252 : decode cX11_most 252 = .ok (.iaload, 1) := by decide +kernel
theorem dX11_most_253 : decode cX11_most 253 = .ok (.iconst 1, 1) := by decide +kernel
theorem dX11_most_254 : decode cX11_most 254 = .ok (.if_icmp .le 7, 3) := by decide +kernel
theorem dX11_most_257 : decode cX11_most 257 = .ok (.iconst 1, 1) := by decide +kernel
theorem dX11_most_258 : decode cX11_most 258 = .ok (.goto 4, 3) := by decide +kernel
theorem dX11_most_261 : decode cX11_most 261 = .ok (.iconst 0, 1) := by decide +kernel
theorem dX11_most_262 : decode cX11_most 262 = .ok (.invokevirtual 221, 3) := by decide +kernel
theorem dX11_most_265 : decode cX11_most 265 = .ok (.iload_n 3, 1) := by decide +kernel
theorem dX11_most_266 : decode cX11_most 266 = .ok (.iload 8, 2) := by decide +kernel
theorem dX11_most_268 : decode cX11_most 268 = .ok (.isub, 1) := by decide +kernel
theorem dX11_most_269 : decode cX11_most 269 = .ok (.invokevirtual 225, 3) := by decide +kernel
theorem dX11_most_272 : decode cX11_most 272 = .ok (.invokestatic 229, 3) := by decide +kernel
theorem dX11_most_275 : decode cX11_most 275 = .ok (.istore 7, 2) := by decide +kernel
theorem dX11_most_277 : decode cX11_most 277 = .ok (.aload_n 0, 1) := by decide +kernel
theorem dX11_most_278 : decode cX11_most 278 = .ok (.getfield 134, 3) := by decide +kernel
theorem dX11_most_281 : decode cX11_most 281 = .ok (.ifCond .ne 38, 3) := by decide +kernel
theorem dX11_most_284 : decode cX11_most 284 = .ok (.iload 4, 2) := by decide +kernel
theorem dX11_most_286 : decode cX11_most 286 = .ok (.aload_n 0, 1) := by decide +kernel
theorem dX11_most_287 : decode cX11_most 287 = .ok (.getfield 13, 3) := by decide +kernel
theorem dX11_most_290 : decode cX11_most 290 = .ok (.iconst 2, 1) := by decide +kernel
theorem dX11_most_291 : decode cX11_most 291 = .ok (.iaload, 1) := by decide +kernel
theorem dX11_most_292 : decode cX11_most 292 = .ok (.if_icmp .ge 27, 3) := by decide +kernel
theorem dX11_most_295 : decode cX11_most 295 = .ok (.aload_n 0, 1) := by decide +kernel
theorem dX11_most_296 : decode cX11_most 296 = .ok (.getfield 13, 3) := by decide +kernel
theorem dX11_most_299 : decode cX11_most 299 = .ok (.iconst 2, 1) := by decide +kernel
theorem dX11_most_300 : decode cX11_most 300 = .ok (.iaload, 1) := by decide +kernel
theorem dX11_most_301 : decode cX11_most 301 = .ok (.aload_n 0, 1) := by decide +kernel
theorem dX11_most_302 : decode cX11_most 302 = .ok (.getfield 13, 3) := by decide +kernel
theorem dX11_most_305 : decode cX11_most 305 = .ok (.iconst 1, 1) := by decide +kernel
theorem dX11_most_306 : decode cX11_most 306 = .ok (.iaload, 1) := by decide +kernel
theorem dX11_most_307 : decode cX11_most 307 = .ok (.if_icmp .ge 12, 3) := by decide +kernel
theorem dX11_most_310 : decode cX11_most 310 = .ok (.iload 5, 2) := by decide +kernel
theorem dX11_most_312 : decode cX11_most 312 = .ok (.ifCond .le 7, 3) := by decide +kernel
theorem dX11_most_315 : decode cX11_most 315 = .ok (.iconst 1, 1) := by decide +kernel
theorem dX11_most_316 : decode cX11_most 316 = .ok (.goto 4, 3) := by decide +kernel
theorem dX11_most_319 : decode cX11_most 319 = .ok (.iconst 0, 1) := by decide +kernel
theorem dX11_most_320 : decode cX11_most 320 = .ok (.istore 9, 2) := by decide +kernel
theorem dX11_most_322 : decode cX11_most 322 = .ok (.iload 9, 2) := by decide +kernel
theorem dX11_most_324 : decode cX11_most 324 = .ok (.ifCond .eq 30, 3) := by decide +kernel
theorem dX11_most_327 : decode cX11_most 327 = .ok (.iload 7, 2) := by decide +kernel
theorem dX11_most_329 : decode cX11_most 329 = .ok (.aload_n 0, 1) := by decide +kernel
theorem dX11_most_330 : decode cX11_most 330 = .ok (.iload 5, 2) := by decide +kernel
theorem dX11_most_332 : decode cX11_most 332 = .ok (.iload 6, 2) := by decide +kernel
theorem dX11_most_334 : decode cX11_most 334 = .ok (.iload_n 3, 1) := by decide +kernel
theorem dX11_most_335 : decode cX11_most 335 = .ok (.aload_n 0, 1) := by decide +kernel
theorem dX11_most_336 : decode cX11_most 336 = .ok (.getfield 13, 3) := by decide +kernel
theorem dX11_most_339 : decode cX11_most 339 = .ok (.iconst 2, 1) := by decide +kernel
theorem dX11_most_340 : decode cX11_most 340 = .ok (.iaload, 1) := by decide +kernel
theorem dX11_most_341 : decode cX11_most 341 = .ok (.isub, 1) := by decide +kernel
theorem dX11_most_342 : decode cX11_most 342 = .ok (.iload 4, 2) := by decide +kernel
theorem dX11_most_344 : decode cX11_most 344 = .ok (.iadd, 1) := by decide +kernel
theorem dX11_most_345 : decode cX11_most 345 = .ok (.invokevirtual 225, 3) := by decide +kernel
theorem dX11_most_348 : decode cX11_most 348 = .ok (.invokestatic 229, 3) := by decide +kernel
theorem dX11_most_351 : decode cX11_most 351 = .ok (.goto 5, 3) := by decide +kernel
theorem dX11_most_354 : decode cX11_most 354 = .ok (.iload 7, 2) := by decide +kernel
theorem dX11_most_356 : decode cX11_most 356 = .ok (.ireturn, 1) := by decide +kernel
theorem dX11_isOnTrip_0 : decode cX11_isOnTrip 0 = .ok (.bipush 20, 2) := by decide +kernel
theorem dX11_isOnTrip_2 : decode cX11_isOnTrip 2 = .ok (.iload_n 1, 1) := by decide +kernel
theorem dX11_isOnTrip_3 : decode cX11_isOnTrip 3 = .ok (.imul, 1) := by decide +kernel
theorem dX11_isOnTrip_4 : decode cX11_isOnTrip 4 = .ok (.istore_n 3, 1) := by decide +kernel
theorem dX11_isOnTrip_5 : decode cX11_isOnTrip 5 = .ok (.iload_n 3, 1) := by decide +kernel
theorem dX11_isOnTrip_6 : decode cX11_isOnTrip 6 = .ok (.bipush 20, 2) := by decide +kernel
theorem dX11_isOnTrip_8 : decode cX11_isOnTrip 8 = .ok (.iload_n 1, 1) := by decide +kernel
theorem dX11_isOnTrip_9 : decode cX11_isOnTrip 9 = .ok (.imul, 1) := by decide +kernel
theorem dX11_isOnTrip_10 : decode cX11_isOnTrip 10 = .ok (.aload_n 0, 1) := by decide +kernel
theorem dX11_isOnTrip_11 : decode cX11_isOnTrip 11 = .ok (.getfield 35, 3) := by decide +kernel
theorem dX11_isOnTrip_14 : decode cX11_isOnTrip 14 = .ok (.iload_n 1, 1) := by decide +kernel
theorem dX11_isOnTrip_15 : decode cX11_isOnTrip 15 = .ok (.iaload, 1) := by decide +kernel
theorem dX11_isOnTrip_16 : decode cX11_isOnTrip 16 = .ok (.iadd, 1) := by decide +kernel
theorem dX11_isOnTrip_17 : decode cX11_isOnTrip 17 = .ok (.if_icmp .ge 31, 3) := by decide +kernel
theorem dX11_isOnTrip_20 : decode cX11_isOnTrip 20 = .ok (.iload_n 2, 1) := by decide +kernel
theorem dX11_isOnTrip_21 : decode cX11_isOnTrip 21 = .ok (.aload_n 0, 1) := by decide +kernel
theorem dX11_isOnTrip_22 : decode cX11_isOnTrip 22 = .ok (.getfield 38, 3) := by decide +kernel
theorem dX11_isOnTrip_25 : decode cX11_isOnTrip 25 = .ok (.iload_n 3, 1) := by decide +kernel
theorem dX11_isOnTrip_26 : decode cX11_isOnTrip 26 = .ok (.iaload, 1) := by decide +kernel
theorem dX11_isOnTrip_27 : decode cX11_isOnTrip 27 = .ok (.if_icmp .lt 15, 3) := by decide +kernel
theorem dX11_isOnTrip_30 : decode cX11_isOnTrip 30 = .ok (.iload_n 2, 1) := by decide +kernel
theorem dX11_isOnTrip_31 : decode cX11_isOnTrip 31 = .ok (.aload_n 0, 1) := by decide +kernel
theorem dX11_isOnTrip_32 : decode cX11_isOnTrip 32 = .ok (.getfield 41, 3) := by decide +kernel
theorem dX11_isOnTrip_35 : decode cX11_isOnTrip 35 = .ok (.iload_n 3, 1) := by decide +kernel
theorem dX11_isOnTrip_36 : decode cX11_isOnTrip 36 = .ok (.iaload, 1) := by decide +kernel
theorem dX11_isOnTrip_37 : decode cX11_isOnTrip 37 = .ok (.if_icmp .ge 5, 3) := by decide +kernel
theorem dX11_isOnTrip_40 : decode cX11_isOnTrip 40 = .ok (.iconst 1, 1) := by decide +kernel
theorem dX11_isOnTrip_41 : decode cX11_isOnTrip 41 = .ok (.ireturn, 1) := by decide +kernel
theorem dX11_isOnTrip_42 : decode cX11_isOnTrip 42 = .ok (.iinc 3 1, 3) := by decide +kernel
theorem dX11_isOnTrip_45 : decode cX11_isOnTrip 45 = .ok (.goto (-40), 3) := by decide +kernel
theorem dX11_isOnTrip_48 : decode cX11_isOnTrip 48 = .ok (.iconst 0, 1) := by decide +kernel
theorem dX11_isOnTrip_49 : decode cX11_isOnTrip 49 = .ok (.ireturn, 1) := by decide +kernel
theorem dX11_against_0 : decode cX11_against 0 = .ok (.iload_n 1, 1) := by decide +kernel
theorem dX11_against_1 : decode cX11_against 1 = .ok (.ifCond .lt 17, 3) := by decide +kernel
theorem dX11_against_4 : decode cX11_against 4 = .ok (.iload_n 1, 1) := by decide +kernel
theorem dX11_against_5 : decode cX11_against 5 = .ok (.iconst 1, 1) := by decide +kernel
theorem dX11_against_6 : decode cX11_against 6 = .ok (.if_icmp .gt 12, 3) := by decide +kernel
theorem dX11_against_9 : decode cX11_against 9 = .ok (.iload_n 2, 1) := by decide +kernel
theorem dX11_against_10 : decode cX11_against 10 = .ok (.ifCond .lt 8, 3) := by decide +kernel
theorem dX11_against_13 : decode cX11_against 13 = .ok (.iload_n 2, 1) := by decide +kernel
theorem dX11_against_14 : decode cX11_against 14 = .ok (.iconst 2, 1) := by decide +kernel
theorem dX11_against_15 : decode cX11_against 15 = .ok (.if_icmp .le 5, 3) := by decide +kernel
theorem dX11_against_18 : decode cX11_against 18 = .ok (.iconst (-1), 1) := by decide +kernel
theorem dX11_against_19 : decode cX11_against 19 = .ok (.ireturn, 1) := by decide +kernel
theorem dX11_against_20 : decode cX11_against 20 = .ok (.iconst 0, 1) := by decide +kernel
theorem dX11_against_21 : decode cX11_against 21 = .ok (.istore_n 3, 1) := by decide +kernel
theorem dX11_against_22 : decode cX11_against 22 = .ok (.iload_n 3, 1) := by decide +kernel
theorem dX11_against_23 : decode cX11_against 23 = .ok (.sipush 20160, 3) := by decide +kernel
theorem dX11_against_26 : decode cX11_against 26 = .ok (.if_icmp .ge 16, 3) := by decide +kernel
theorem dX11_against_29 : decode cX11_against 29 = .ok (.aload_n 0, 1) := by decide +kernel
theorem dX11_against_30 : decode cX11_against 30 = .ok (.getfield 81, 3) := by decide +kernel
theorem dX11_against_33 : decode cX11_against 33 = .ok (.iload_n 3, 1) := by decide +kernel
theorem dX11_against_34 : decode cX11_against 34 = .ok (.iconst 0, 1) := by decide +kernel
theorem dX11_against_35 : decode cX11_against 35 = .ok (.iastore, 1) := by decide +kernel
theorem dX11_against_36 : decode cX11_against 36 = .ok (.iinc 3 1, 3) := by decide +kernel
theorem dX11_against_39 : decode cX11_against 39 = .ok (.goto (-17), 3) := by decide +kernel
theorem dX11_against_42 : decode cX11_against 42 = .ok (.iconst 0, 1) := by decide +kernel
theorem dX11_against_43 : decode cX11_against 43 = .ok (.istore_n 3, 1) := by decide +kernel
theorem dX11_against_44 : decode cX11_against 44 = .ok (.iload_n 3, 1) := by decide +kernel
theorem dX11_against_45 : decode cX11_against 45 = .ok (.iconst 4, 1) := by decide +kernel
theorem dX11_against_46 : decode cX11_against 46 = .ok (.if_icmp .ge 115, 3) := by decide +kernel
theorem dX11_against_49 : decode cX11_against 49 = .ok (.iconst 0, 1) := by decide +kernel
theorem dX11_against_50 : decode cX11_against 50 = .ok (.istore 4, 2) := by decide +kernel
theorem dX11_against_52 : decode cX11_against 52 = .ok (.iconst 0, 1) := by decide +kernel
theorem dX11_against_53 : decode cX11_against 53 = .ok (.istore 5, 2) := by decide +kernel
theorem dX11_against_55 : decode cX11_against 55 = .ok (.iload 5, 2) := by decide +kernel
theorem dX11_against_57 : decode cX11_against 57 = .ok (.aload_n 0, 1) := by decide +kernel
theorem dX11_against_58 : decode cX11_against 58 = .ok (.getfield 20, 3) := by decide +kernel
theorem dX11_against_61 : decode cX11_against 61 = .ok (.iload_n 3, 1) := by decide +kernel
theorem dX11_against_62 : decode cX11_against 62 = .ok (.iaload, 1) := by decide +kernel
theorem dX11_against_63 : decode cX11_against 63 = .ok (.if_icmp .ge 92, 3) := by decide +kernel
theorem dX11_against_66 : decode cX11_against 66 = .ok (.bipush 60, 2) := by decide +kernel
theorem dX11_against_68 : decode cX11_against 68 = .ok (.iload_n 3, 1) := by decide +kernel
theorem dX11_against_69 : decode cX11_against 69 = .ok (.imul, 1) := by decide +kernel
theorem dX11_against_70 : decode cX11_against 70 = .ok (.iload 5, 2) := by decide +kernel
theorem dX11_against_72 : decode cX11_against 72 = .ok (.iadd, 1) := by decide +kernel
theorem dX11_against_73 : decode cX11_against 73 = .ok (.istore 6, 2) := by decide +kernel
theorem dX11_against_75 : decode cX11_against 75 = .ok (.iload 4, 2) := by decide +kernel
theorem dX11_against_77 : decode cX11_against 77 = .ok (.istore 7, 2) := by decide +kernel
theorem dX11_against_79 : decode cX11_against 79 = .ok (.iload 7, 2) := by decide +kernel
theorem dX11_against_81 : decode cX11_against 81 = .ok (.iload 4, 2) := by decide +kernel
theorem dX11_against_83 : decode cX11_against 83 = .ok (.aload_n 0, 1) := by decide +kernel
theorem dX11_against_84 : decode cX11_against 84 = .ok (.getfield 29, 3) := by decide +kernel
theorem dX11_against_87 : decode cX11_against 87 = .ok (.iload 6, 2) := by decide +kernel
theorem dX11_against_89 : decode cX11_against 89 = .ok (.iaload, 1) := by decide +kernel
theorem dX11_against_90 : decode cX11_against 90 = .ok (.iadd, 1) := by decide +kernel
theorem dX11_against_91 : decode cX11_against 91 = .ok (.if_icmp .ge 46, 3) := by decide +kernel
theorem dX11_against_94 : decode cX11_against 94 = .ok (.aload_n 0, 1) := by decide +kernel
theorem dX11_against_95 : decode cX11_against 95 = .ok (.getfield 26, 3) := by decide +kernel
theorem dX11_against_98 : decode cX11_against 98 = .ok (.iload 6, 2) := by decide +kernel
theorem dX11_against_100 : decode cX11_against 100 = .ok (.iaload, 1) := by decide +kernel
theorem dX11_against_101 : decode cX11_against 101 = .ok (.ifCond .ne 36, 3) := by decide +kernel
theorem dX11_against_104 : decode cX11_against 104 = .ok (.aload_n 0, 1) := by decide +kernel
theorem dX11_against_105 : decode cX11_against 105 = .ok (.getfield 32, 3) := by decide +kernel
theorem dX11_against_108 : decode cX11_against 108 = .ok (.iload 6, 2) := by decide +kernel
theorem dX11_against_110 : decode cX11_against 110 = .ok (.iaload, 1) := by decide +kernel
theorem dX11_against_111 : decode cX11_against 111 = .ok (.iload_n 1, 1) := by decide +kernel
theorem dX11_against_112 : decode cX11_against 112 = .ok (.if_icmp .ne 25, 3) := by decide +kernel
theorem dX11_against_115 : decode cX11_against 115 = .ok (.aload_n 0, 1) := by decide +kernel
theorem dX11_against_116 : decode cX11_against 116 = .ok (.getfield 81, 3) := by decide +kernel
theorem dX11_against_119 : decode cX11_against 119 = .ok (.iload 7, 2) := by decide +kernel
theorem dX11_against_121 : decode cX11_against 121 = .ok (.aload_n 0, 1) := by decide +kernel
theorem dX11_against_122 : decode cX11_against 122 = .ok (.getfield 81, 3) := by decide +kernel
theorem dX11_against_125 : decode cX11_against 125 = .ok (.iload 7, 2) := by decide +kernel
theorem dX11_against_127 : decode cX11_against 127 = .ok (.iaload, 1) := by decide +kernel
theorem dX11_against_128 : decode cX11_against 128 = .ok (.iconst 1, 1) := by decide +kernel
theorem dX11_against_129 : decode cX11_against 129 = .ok (.iadd, 1) := by decide +kernel
theorem dX11_against_130 : decode cX11_against 130 = .ok (.iastore, 1) := by decide +kernel
theorem dX11_against_131 : decode cX11_against 131 = .ok (.iinc 7 1, 3) := by decide +kernel
theorem dX11_against_134 : decode cX11_against 134 = .ok (.goto (-55), 3) := by decide +kernel
theorem dX11_against_137 : decode cX11_against 137 = .ok (.iload 4, 2) := by decide +kernel
theorem dX11_against_139 : decode cX11_against 139 = .ok (.aload_n 0, 1) := by decide +kernel
theorem dX11_against_140 : decode cX11_against 140 = .ok (.getfield 29, 3) := by decide +kernel
theorem dX11_against_143 : decode cX11_against 143 = .ok (.iload 6, 2) := by decide +kernel
theorem dX11_against_145 : decode cX11_against 145 = .ok (.iaload, 1) := by decide +kernel
theorem dX11_against_146 : decode cX11_against 146 = .ok (.iadd, 1) := by decide +kernel
theorem dX11_against_147 : decode cX11_against 147 = .ok (.istore 4, 2) := by decide +kernel
theorem dX11_against_149 : decode cX11_against 149 = .ok (.iinc 5 1, 3) := by decide +kernel
theorem dX11_against_152 : decode cX11_against 152 = .ok (.goto (-97), 3) := by decide +kernel
theorem dX11_against_155 : decode cX11_against 155 = .ok (.iinc 3 1, 3) := by decide +kernel
theorem dX11_against_158 : decode cX11_against 158 = .ok (.goto (-114), 3) := by decide +kernel
theorem dX11_against_161 : decode cX11_against 161 = .ok (.iconst 0, 1) := by decide +kernel
theorem dX11_against_162 : decode cX11_against 162 = .ok (.istore_n 3, 1) := by decide +kernel
theorem dX11_against_163 : decode cX11_against 163 = .ok (.iconst 0, 1) := by decide +kernel
theorem dX11_against_164 : decode cX11_against 164 = .ok (.istore 4, 2) := by decide +kernel
theorem dX11_against_166 : decode cX11_against 166 = .ok (.iload 4, 2) := by decide +kernel
theorem dX11_against_168 : decode cX11_against 168 = .ok (.sipush 20160, 3) := by decide +kernel
theorem dX11_against_171 : decode cX11_against 171 = .ok (.if_icmp .ge 105, 3) := by decide +kernel
theorem dX11_against_174 : decode cX11_against 174 = .ok (.iload_n 2, 1) := by decide +kernel
theorem dX11_against_175 : decode cX11_against 175 = .ok (.iconst 1, 1) := by decide +kernel
theorem dX11_against_176 : decode cX11_against 176 = .ok (.if_icmp .ne 22, 3) := by decide +kernel
theorem dX11_against_179 : decode cX11_against 179 = .ok (.aload_n 0, 1) := by decide +kernel
theorem dX11_against_180 : decode cX11_against 180 = .ok (.getfield 81, 3) := by decide +kernel
theorem dX11_against_183 : decode cX11_against 183 = .ok (.iload 4, 2) := by decide +kernel
theorem dX11_against_185 : decode cX11_against 185 = .ok (.iaload, 1) := by decide +kernel
theorem dX11_against_186 : decode cX11_against 186 = .ok (.iconst 2, 1) := by decide +kernel
theorem dX11_against_187 : decode cX11_against 187 = .ok (.if_icmp .lt 7, 3) := by decide +kernel
theorem dX11_against_190 : decode cX11_against 190 = .ok (.iconst 1, 1) := by decide +kernel
theorem dX11_against_191 : decode cX11_against 191 = .ok (.goto 64, 3) := by decide +kernel
theorem dX11_against_194 : decode cX11_against 194 = .ok (.iconst 0, 1) := by decide +kernel
theorem dX11_against_195 : decode cX11_against 195 = .ok (.goto 60, 3) := by decide +kernel
theorem dX11_against_198 : decode cX11_against 198 = .ok (.iload_n 2, 1) := by decide +kernel
theorem dX11_against_199 : decode cX11_against 199 = .ok (.ifCond .ne 31, 3) := by decide +kernel
theorem dX11_against_202 : decode cX11_against 202 = .ok (.aload_n 0, 1) := by decide +kernel
theorem dX11_against_203 : decode cX11_against 203 = .ok (.getfield 81, 3) := by decide +kernel
theorem dX11_against_206 : decode cX11_against 206 = .ok (.iload 4, 2) := by decide +kernel
theorem dX11_against_208 : decode cX11_against 208 = .ok (.iaload, 1) := by decide +kernel
theorem dX11_against_209 : decode cX11_against 209 = .ok (.ifCond .ne 17, 3) := by decide +kernel
theorem dX11_against_212 : decode cX11_against 212 = .ok (.aload_n 0, 1) := by decide +kernel
theorem dX11_against_213 : decode cX11_against 213 = .ok (.iload_n 1, 1) := by decide +kernel
theorem dX11_against_214 : decode cX11_against 214 = .ok (.iload 4, 2) := by decide +kernel
theorem dX11_against_216 : decode cX11_against 216 = .ok (.invokevirtual 232, 3) := by decide +kernel
theorem dX11_against_219 : decode cX11_against 219 = .ok (.ifCond .eq 7, 3) := by decide +kernel
theorem dX11_against_222 : decode cX11_against 222 = .ok (.iconst 1, 1) := by decide +kernel
theorem dX11_against_223 : decode cX11_against 223 = .ok (.goto 32, 3) := by decide +kernel
theorem dX11_against_226 : decode cX11_against 226 = .ok (.iconst 0, 1) := by decide +kernel
theorem dX11_against_227 : decode cX11_against 227 = .ok (.goto 28, 3) := by decide +kernel
theorem dX11_against_230 : decode cX11_against 230 = .ok (.aload_n 0, 1) := by decide +kernel
theorem dX11_against_231 : decode cX11_against 231 = .ok (.getfield 81, 3) := by decide +kernel
theorem dX11_against_234 : decode cX11_against 234 = .ok (.iload 4, 2) := by decide +kernel
theorem dX11_against_236 : decode cX11_against 236 = .ok (.iaload, 1) := by decide +kernel
theorem dX11_against_237 : decode cX11_against 237 = .ok (.ifCond .le 17, 3) := by decide +kernel
theorem dX11_against_240 : decode cX11_against 240 = .ok (.aload_n 0, 1) := by decide +kernel
theorem dX11_against_241 : decode cX11_against 241 = .ok (.iload_n 1, 1) := by decide +kernel
theorem dX11_against_242 : decode cX11_against 242 = .ok (.iload 4, 2) := by decide +kernel
theorem dX11_against_244 : decode cX11_against 244 = .ok (.invokevirtual 232, 3) := by decide +kernel
theorem dX11_against_247 : decode cX11_against 247 = .ok (.ifCond .ne 7, 3) := by decide +kernel
theorem dX11_against_250 : decode cX11_against 250 = .ok (.iconst 1, 1) := by decide +kernel
theorem dX11_against_251 : decode cX11_against 251 = .ok (.goto 4, 3) := by decide +kernel
theorem dX11_against_254 : decode cX11_against 254 = .ok (.iconst 0, 1) := by decide +kernel
theorem dX11_against_255 : decode cX11_against 255 = .ok (.istore 5, 2) := by decide +kernel
theorem dX11_against_257 : decode cX11_against 257 = .ok (.iload_n 3, 1) := by decide +kernel
theorem dX11_against_258 : decode cX11_against 258 = .ok (.iload 5, 2) := by decide +kernel
theorem dX11_against_260 : decode cX11_against 260 = .ok (.ifCond .eq 7, 3) := by decide +kernel
theorem dX11_against_263 : decode cX11_against 263 = .ok (.iconst 1, 1) := by decide +kernel
theorem dX11_against_264 : decode cX11_against 264 = .ok (.goto 4, 3) := by decide +kernel
theorem dX11_against_267 : decode cX11_against 267 = .ok (.iconst 0, 1) := by decide +kernel
theorem dX11_against_268 : decode cX11_against 268 = .ok (.iadd, 1) := by decide +kernel
theorem dX11_against_269 : decode cX11_against 269 = .ok (.istore_n 3, 1) := by decide +kernel
theorem dX11_against_270 : decode cX11_against 270 = .ok (.iinc 4 1, 3) := by decide +kernel
theorem dX11_against_273 : decode cX11_against 273 = .ok (.goto (-107), 3) := by decide +kernel
theorem dX11_against_276 : decode cX11_against 276 = .ok (.iload_n 3, 1) := by decide +kernel
theorem dX11_against_277 : decode cX11_against 277 = .ok (.ireturn, 1) := by decide +kernel
theorem dX11_look_0 : decode cX11_look 0 = .ok (.iload_n 1, 1) := by decide +kernel
theorem dX11_look_1 : decode cX11_look 1 = .ok (.invokestatic 110, 3) := by decide +kernel
theorem dX11_look_4 : decode cX11_look 4 = .ok (.ifCond .eq 17, 3) := by decide +kernel
theorem dX11_look_7 : decode cX11_look 7 = .ok (.iload_n 2, 1) := by decide +kernel
theorem dX11_look_8 : decode cX11_look 8 = .ok (.ifCond .lt 13, 3) := by decide +kernel
theorem dX11_look_11 : decode cX11_look 11 = .ok (.iload_n 2, 1) := by decide +kernel
theorem dX11_look_12 : decode cX11_look 12 = .ok (.aload_n 0, 1) := by decide +kernel
theorem dX11_look_13 : decode cX11_look 13 = .ok (.getfield 20, 3) := by decide +kernel
theorem dX11_look_16 : decode cX11_look 16 = .ok (.iload_n 1, 1) := by decide +kernel
theorem dX11_look_17 : decode cX11_look 17 = .ok (.iaload, 1) := by decide +kernel
theorem dX11_look_18 : decode cX11_look 18 = .ok (.if_icmp .lt 5, 3) := by decide +kernel
theorem dX11_look_21 : decode cX11_look 21 = .ok (.iconst (-1), 1) := by decide +kernel
theorem dX11_look_22 : decode cX11_look 22 = .ok (.ireturn, 1) := by decide +kernel
theorem dX11_look_23 : decode cX11_look 23 = .ok (.bipush 60, 2) := by decide +kernel
theorem dX11_look_25 : decode cX11_look 25 = .ok (.iload_n 1, 1) := by decide +kernel
theorem dX11_look_26 : decode cX11_look 26 = .ok (.imul, 1) := by decide +kernel
theorem dX11_look_27 : decode cX11_look 27 = .ok (.iload_n 2, 1) := by decide +kernel
theorem dX11_look_28 : decode cX11_look 28 = .ok (.iadd, 1) := by decide +kernel
theorem dX11_look_29 : decode cX11_look 29 = .ok (.istore 4, 2) := by decide +kernel
theorem dX11_look_31 : decode cX11_look 31 = .ok (.iconst 0, 1) := by decide +kernel
theorem dX11_look_32 : decode cX11_look 32 = .ok (.istore 5, 2) := by decide +kernel
theorem dX11_look_34 : decode cX11_look 34 = .ok (.bipush 60, 2) := by decide +kernel
theorem dX11_look_36 : decode cX11_look 36 = .ok (.iload_n 1, 1) := by decide +kernel
theorem dX11_look_37 : decode cX11_look 37 = .ok (.imul, 1) := by decide +kernel
theorem dX11_look_38 : decode cX11_look 38 = .ok (.istore 6, 2) := by decide +kernel
theorem dX11_look_40 : decode cX11_look 40 = .ok (.iload 6, 2) := by decide +kernel
theorem dX11_look_42 : decode cX11_look 42 = .ok (.iload 4, 2) := by decide +kernel
theorem dX11_look_44 : decode cX11_look 44 = .ok (.if_icmp .ge 21, 3) := by decide +kernel
theorem dX11_look_47 : decode cX11_look 47 = .ok (.iload 5, 2) := by decide +kernel
theorem dX11_look_49 : decode cX11_look 49 = .ok (.aload_n 0, 1) := by decide +kernel
theorem dX11_look_50 : decode cX11_look 50 = .ok (.getfield 29, 3) := by decide +kernel
theorem dX11_look_53 : decode cX11_look 53 = .ok (.iload 6, 2) := by decide +kernel
theorem dX11_look_55 : decode cX11_look 55 = .ok (.iaload, 1) := by decide +kernel
theorem dX11_look_56 : decode cX11_look 56 = .ok (.iadd, 1) := by decide +kernel
theorem dX11_look_57 : decode cX11_look 57 = .ok (.istore 5, 2) := by decide +kernel
theorem dX11_look_59 : decode cX11_look 59 = .ok (.iinc 6 1, 3) := by decide +kernel
theorem dX11_look_62 : decode cX11_look 62 = .ok (.goto (-22), 3) := by decide +kernel
theorem dX11_look_65 : decode cX11_look 65 = .ok (.iload_n 3, 1) := by decide +kernel
theorem dX11_look_66 : decode cX11_look 66 = .ok (.ifCond .ne 13, 3) := by decide +kernel
theorem dX11_look_69 : decode cX11_look 69 = .ok (.aload_n 0, 1) := by decide +kernel
theorem dX11_look_70 : decode cX11_look 70 = .ok (.getfield 26, 3) := by decide +kernel
theorem dX11_look_73 : decode cX11_look 73 = .ok (.iload 4, 2) := by decide +kernel
theorem dX11_look_75 : decode cX11_look 75 = .ok (.iaload, 1) := by decide +kernel
theorem dX11_look_76 : decode cX11_look 76 = .ok (.goto 44, 3) := by decide +kernel
theorem dX11_look_79 : decode cX11_look 79 = .ok (.iload_n 3, 1) := by decide +kernel
theorem dX11_look_80 : decode cX11_look 80 = .ok (.iconst 1, 1) := by decide +kernel
theorem dX11_look_81 : decode cX11_look 81 = .ok (.if_icmp .ne 13, 3) := by decide +kernel
theorem dX11_look_84 : decode cX11_look 84 = .ok (.aload_n 0, 1) := by decide +kernel
theorem dX11_look_85 : decode cX11_look 85 = .ok (.getfield 29, 3) := by decide +kernel
theorem dX11_look_88 : decode cX11_look 88 = .ok (.iload 4, 2) := by decide +kernel
theorem dX11_look_90 : decode cX11_look 90 = .ok (.iaload, 1) := by decide +kernel
theorem dX11_look_91 : decode cX11_look 91 = .ok (.goto 29, 3) := by decide +kernel
theorem dX11_look_94 : decode cX11_look 94 = .ok (.iload_n 3, 1) := by decide +kernel
theorem dX11_look_95 : decode cX11_look 95 = .ok (.iconst 2, 1) := by decide +kernel
theorem dX11_look_96 : decode cX11_look 96 = .ok (.if_icmp .ne 8, 3) := by decide +kernel
theorem dX11_look_99 : decode cX11_look 99 = .ok (.iload 5, 2) := by decide +kernel
theorem dX11_look_101 : decode cX11_look 101 = .ok (.goto 19, 3) := by decide +kernel
theorem dX11_look_104 : decode cX11_look 104 = .ok (.iload_n 3, 1) := by decide +kernel
theorem dX11_look_105 : decode cX11_look 105 = .ok (.iconst 3, 1) := by decide +kernel
theorem dX11_look_106 : decode cX11_look 106 = .ok (.if_icmp .ne 13, 3) := by decide +kernel
theorem dX11_look_109 : decode cX11_look 109 = .ok (.aload_n 0, 1) := by decide +kernel
theorem dX11_look_110 : decode cX11_look 110 = .ok (.getfield 32, 3) := by decide +kernel
theorem dX11_look_113 : decode cX11_look 113 = .ok (.iload 4, 2) := by decide +kernel
theorem dX11_look_115 : decode cX11_look 115 = .ok (.iaload, 1) := by decide +kernel
theorem dX11_look_116 : decode cX11_look 116 = .ok (.goto 4, 3) := by decide +kernel
theorem dX11_look_119 : decode cX11_look 119 = .ok (.iconst (-1), 1) := by decide +kernel
theorem dX11_look_120 : decode cX11_look 120 = .ok (.ireturn, 1) := by decide +kernel
theorem dX11_count_0 : decode cX11_count 0 = .ok (.iload_n 1, 1) := by decide +kernel
theorem dX11_count_1 : decode cX11_count 1 = .ok (.iconst (-1), 1) := by decide +kernel
theorem dX11_count_2 : decode cX11_count 2 = .ok (.if_icmp .ne 44, 3) := by decide +kernel
theorem dX11_count_5 : decode cX11_count 5 = .ok (.iload_n 2, 1) := by decide +kernel
theorem dX11_count_6 : decode cX11_count 6 = .ok (.ifCond .ne 10, 3) := by decide +kernel
theorem dX11_count_9 : decode cX11_count 9 = .ok (.aload_n 0, 1) := by decide +kernel
theorem dX11_count_10 : decode cX11_count 10 = .ok (.getfield 88, 3) := by decide +kernel
theorem dX11_count_13 : decode cX11_count 13 = .ok (.goto 32, 3) := by decide +kernel
theorem dX11_count_16 : decode cX11_count 16 = .ok (.iload_n 2, 1) := by decide +kernel
theorem dX11_count_17 : decode cX11_count 17 = .ok (.iconst 1, 1) := by decide +kernel
theorem dX11_count_18 : decode cX11_count 18 = .ok (.if_icmp .ne 12, 3) := by decide +kernel
theorem dX11_count_21 : decode cX11_count 21 = .ok (.aload_n 0, 1) := by decide +kernel
theorem dX11_count_22 : decode cX11_count 22 = .ok (.getfield 35, 3) := by decide +kernel
theorem dX11_count_25 : decode cX11_count 25 = .ok (.iconst 0, 1) := by decide +kernel
theorem dX11_count_26 : decode cX11_count 26 = .ok (.iaload, 1) := by decide +kernel
theorem dX11_count_27 : decode cX11_count 27 = .ok (.goto 18, 3) := by decide +kernel
theorem dX11_count_30 : decode cX11_count 30 = .ok (.iload_n 2, 1) := by decide +kernel
theorem dX11_count_31 : decode cX11_count 31 = .ok (.iconst 2, 1) := by decide +kernel
theorem dX11_count_32 : decode cX11_count 32 = .ok (.if_icmp .ne 12, 3) := by decide +kernel
theorem dX11_count_35 : decode cX11_count 35 = .ok (.aload_n 0, 1) := by decide +kernel
theorem dX11_count_36 : decode cX11_count 36 = .ok (.getfield 35, 3) := by decide +kernel
theorem dX11_count_39 : decode cX11_count 39 = .ok (.iconst 1, 1) := by decide +kernel
theorem dX11_count_40 : decode cX11_count 40 = .ok (.iaload, 1) := by decide +kernel
theorem dX11_count_41 : decode cX11_count 41 = .ok (.goto 4, 3) := by decide +kernel
theorem dX11_count_44 : decode cX11_count 44 = .ok (.iconst (-1), 1) := by decide +kernel
theorem dX11_count_45 : decode cX11_count 45 = .ok (.ireturn, 1) := by decide +kernel
theorem dX11_count_46 : decode cX11_count 46 = .ok (.iload_n 1, 1) := by decide +kernel
theorem dX11_count_47 : decode cX11_count 47 = .ok (.invokestatic 110, 3) := by decide +kernel
theorem dX11_count_50 : decode cX11_count 50 = .ok (.ifCond .ne 5, 3) := by decide +kernel
theorem dX11_count_53 : decode cX11_count 53 = .ok (.iconst (-1), 1) := by decide +kernel
theorem dX11_count_54 : decode cX11_count 54 = .ok (.ireturn, 1) := by decide +kernel
theorem dX11_count_55 : decode cX11_count 55 = .ok (.aload_n 0, 1) := by decide +kernel
theorem dX11_count_56 : decode cX11_count 56 = .ok (.iload_n 1, 1) := by decide +kernel
theorem dX11_count_57 : decode cX11_count 57 = .ok (.iconst 0, 1) := by decide +kernel
theorem dX11_count_58 : decode cX11_count 58 = .ok (.invokevirtual 198, 3) := by decide +kernel
theorem dX11_count_61 : decode cX11_count 61 = .ok (.iconst 0, 1) := by decide +kernel
theorem dX11_count_62 : decode cX11_count 62 = .ok (.istore_n 3, 1) := by decide +kernel
theorem dX11_count_63 : decode cX11_count 63 = .ok (.iconst 0, 1) := by decide +kernel
theorem dX11_count_64 : decode cX11_count 64 = .ok (.istore 4, 2) := by decide +kernel
theorem dX11_count_66 : decode cX11_count 66 = .ok (.iload 4, 2) := by decide +kernel
theorem dX11_count_68 : decode cX11_count 68 = .ok (.aload_n 0, 1) := by decide +kernel
theorem dX11_count_69 : decode cX11_count 69 = .ok (.getfield 128, 3) := by decide +kernel
theorem dX11_count_72 : decode cX11_count 72 = .ok (.if_icmp .ge 30, 3) := by decide +kernel
theorem dX11_count_75 : decode cX11_count 75 = .ok (.aload_n 0, 1) := by decide +kernel
theorem dX11_count_76 : decode cX11_count 76 = .ok (.iload 4, 2) := by decide +kernel
theorem dX11_count_78 : decode cX11_count 78 = .ok (.invokevirtual 141, 3) := by decide +kernel
theorem dX11_count_81 : decode cX11_count 81 = .ok (.iload_n 3, 1) := by decide +kernel
theorem dX11_count_82 : decode cX11_count 82 = .ok (.if_icmp .le 12, 3) := by decide +kernel
theorem dX11_count_85 : decode cX11_count 85 = .ok (.aload_n 0, 1) := by decide +kernel
theorem dX11_count_86 : decode cX11_count 86 = .ok (.iload 4, 2) := by decide +kernel
theorem dX11_count_88 : decode cX11_count 88 = .ok (.invokevirtual 141, 3) := by decide +kernel
theorem dX11_count_91 : decode cX11_count 91 = .ok (.goto 4, 3) := by decide +kernel
theorem dX11_count_94 : decode cX11_count 94 = .ok (.iload_n 3, 1) := by decide +kernel
theorem dX11_count_95 : decode cX11_count 95 = .ok (.istore_n 3, 1) := by decide +kernel
theorem dX11_count_96 : decode cX11_count 96 = .ok (.iinc 4 1, 3) := by decide +kernel
theorem dX11_count_99 : decode cX11_count 99 = .ok (.goto (-33), 3) := by decide +kernel
theorem dX11_count_102 : decode cX11_count 102 = .ok (.iload_n 2, 1) := by decide +kernel
theorem dX11_count_103 : decode cX11_count 103 = .ok (.tableswitch 64 0 4 #[33, 40, 47, 57, 62], 33) := by decide +kernel
theorem dX11_count_136 : decode cX11_count 136 = .ok (.aload_n 0, 1) := by decide +kernel
theorem dX11_count_137 : decode cX11_count 137 = .ok (.getfield 20, 3) := by decide +kernel
theorem dX11_count_140 : decode cX11_count 140 = .ok (.iload_n 1, 1) := by decide +kernel
theorem dX11_count_141 : decode cX11_count 141 = .ok (.iaload, 1) := by decide +kernel
theorem dX11_count_142 : decode cX11_count 142 = .ok (.ireturn, 1) := by decide +kernel
theorem dX11_count_143 : decode cX11_count 143 = .ok (.aload_n 0, 1) := by decide +kernel
theorem dX11_count_144 : decode cX11_count 144 = .ok (.getfield 23, 3) := by decide +kernel
theorem dX11_count_147 : decode cX11_count 147 = .ok (.iload_n 1, 1) := by decide +kernel
theorem dX11_count_148 : decode cX11_count 148 = .ok (.iaload, 1) := by decide +kernel
theorem dX11_count_149 : decode cX11_count 149 = .ok (.ireturn, 1) := by decide +kernel
theorem dX11_count_150 : decode cX11_count 150 = .ok (.aload_n 0, 1) := by decide +kernel
theorem dX11_count_151 : decode cX11_count 151 = .ok (.getfield 47, 3) := by decide +kernel
theorem dX11_count_154 : decode cX11_count 154 = .ok (.aload_n 0, 1) := by decide +kernel
theorem dX11_count_155 : decode cX11_count 155 = .ok (.getfield 121, 3) := by decide +kernel
theorem dX11_count_158 : decode cX11_count 158 = .ok (.iaload, 1) := by decide +kernel
theorem dX11_count_159 : decode cX11_count 159 = .ok (.ireturn, 1) := by decide +kernel
theorem dX11_count_160 : decode cX11_count 160 = .ok (.aload_n 0, 1) := by decide +kernel
theorem dX11_count_161 : decode cX11_count 161 = .ok (.getfield 128, 3) := by decide +kernel
theorem dX11_count_164 : decode cX11_count 164 = .ok (.ireturn, 1) := by decide +kernel
theorem dX11_count_165 : decode cX11_count 165 = .ok (.iload_n 3, 1) := by decide +kernel
theorem dX11_count_166 : decode cX11_count 166 = .ok (.ireturn, 1) := by decide +kernel
theorem dX11_count_167 : decode cX11_count 167 = .ok (.iconst (-1), 1) := by decide +kernel
theorem dX11_count_168 : decode cX11_count 168 = .ok (.ireturn, 1) := by decide +kernel
theorem dL_law_0 : decode cL_law 0 = .ok (.new 7, 3) := by decide +kernel
theorem dL_law_3 : decode cL_law 3 = .ok (.dup, 1) := by decide +kernel
theorem dL_law_4 : decode cL_law 4 = .ok (.invokespecial 9, 3) := by decide +kernel
theorem dL_law_7 : decode cL_law 7 = .ok (.astore_n 1, 1) := by decide +kernel
theorem dL_law_8 : decode cL_law 8 = .ok (.new 10, 3) := by decide +kernel
theorem dL_law_11 : decode cL_law 11 = .ok (.dup, 1) := by decide +kernel
theorem dL_law_12 : decode cL_law 12 = .ok (.invokespecial 12, 3) := by decide +kernel
theorem dL_law_15 : decode cL_law 15 = .ok (.astore_n 2, 1) := by decide +kernel
theorem dL_law_16 : decode cL_law 16 = .ok (.iconst 0, 1) := by decide +kernel
theorem dL_law_17 : decode cL_law 17 = .ok (.istore_n 3, 1) := by decide +kernel
theorem dL_law_18 : decode cL_law 18 = .ok (.iload_n 3, 1) := by decide +kernel
theorem dL_law_19 : decode cL_law 19 = .ok (.aload_n 0, 1) := by decide +kernel
theorem dL_law_20 : decode cL_law 20 = .ok (.arraylength, 1) := by decide +kernel
theorem dL_law_21 : decode cL_law 21 = .ok (.bipush 6, 2) := by decide +kernel
theorem dL_law_23 : decode cL_law 23 = .ok (.isub, 1) := by decide +kernel
theorem dL_law_24 : decode cL_law 24 = .ok (.if_icmp .gt 801, 3) := by decide +kernel
theorem dL_law_27 : decode cL_law 27 = .ok (.aload_n 0, 1) := by decide +kernel
theorem dL_law_28 : decode cL_law 28 = .ok (.iload_n 3, 1) := by decide +kernel
theorem dL_law_29 : decode cL_law 29 = .ok (.iaload, 1) := by decide +kernel
theorem dL_law_30 : decode cL_law 30 = .ok (.bipush 15, 2) := by decide +kernel
theorem dL_law_32 : decode cL_law 32 = .ok (.iand, 1) := by decide +kernel
theorem dL_law_33 : decode cL_law 33 = .ok (.tableswitch 786 0 14 #[75, 138, 161, 184, 237, 290, 333, 382, 451, 500, 569, 618, 677, 710, 753], 75) := by decide +kernel
theorem dL_law_108 : decode cL_law 108 = .ok (.aload_n 1, 1) := by decide +kernel
theorem dL_law_109 : decode cL_law 109 = .ok (.aload_n 0, 1) := by decide +kernel
theorem dL_law_110 : decode cL_law 110 = .ok (.iload_n 3, 1) := by decide +kernel
theorem dL_law_111 : decode cL_law 111 = .ok (.iconst 1, 1) := by decide +kernel
theorem dL_law_112 : decode cL_law 112 = .ok (.iadd, 1) := by decide +kernel
theorem dL_law_113 : decode cL_law 113 = .ok (.iaload, 1) := by decide +kernel
theorem dL_law_114 : decode cL_law 114 = .ok (.aload_n 0, 1) := by decide +kernel
theorem dL_law_115 : decode cL_law 115 = .ok (.iload_n 3, 1) := by decide +kernel
theorem dL_law_116 : decode cL_law 116 = .ok (.iconst 2, 1) := by decide +kernel
theorem dL_law_117 : decode cL_law 117 = .ok (.iadd, 1) := by decide +kernel
theorem dL_law_118 : decode cL_law 118 = .ok (.iaload, 1) := by decide +kernel
theorem dL_law_119 : decode cL_law 119 = .ok (.aload_n 0, 1) := by decide +kernel
theorem dL_law_120 : decode cL_law 120 = .ok (.iload_n 3, 1) := by decide +kernel
theorem dL_law_121 : decode cL_law 121 = .ok (.iconst 3, 1) := by decide +kernel
theorem dL_law_122 : decode cL_law 122 = .ok (.iadd, 1) := by decide +kernel
theorem dL_law_123 : decode cL_law 123 = .ok (.iaload, 1) := by decide +kernel
theorem dL_law_124 : decode cL_law 124 = .ok (.aload_n 0, 1) := by decide +kernel
theorem dL_law_125 : decode cL_law 125 = .ok (.iload_n 3, 1) := by decide +kernel
theorem dL_law_126 : decode cL_law 126 = .ok (.iconst 4, 1) := by decide +kernel
theorem dL_law_127 : decode cL_law 127 = .ok (.iadd, 1) := by decide +kernel
theorem dL_law_128 : decode cL_law 128 = .ok (.iaload, 1) := by decide +kernel
theorem dL_law_129 : decode cL_law 129 = .ok (.aload_n 0, 1) := by decide +kernel
theorem dL_law_130 : decode cL_law 130 = .ok (.iload_n 3, 1) := by decide +kernel
theorem dL_law_131 : decode cL_law 131 = .ok (.iconst 5, 1) := by decide +kernel
theorem dL_law_132 : decode cL_law 132 = .ok (.iadd, 1) := by decide +kernel
theorem dL_law_133 : decode cL_law 133 = .ok (.iaload, 1) := by decide +kernel
theorem dL_law_134 : decode cL_law 134 = .ok (.invokevirtual 13, 3) := by decide +kernel
theorem dL_law_137 : decode cL_law 137 = .ok (.aload_n 2, 1) := by decide +kernel
theorem dL_law_138 : decode cL_law 138 = .ok (.aload_n 0, 1) := by decide +kernel
theorem dL_law_139 : decode cL_law 139 = .ok (.iload_n 3, 1) := by decide +kernel
theorem dL_law_140 : decode cL_law 140 = .ok (.iconst 1, 1) := by decide +kernel
theorem dL_law_141 : decode cL_law 141 = .ok (.iadd, 1) := by decide +kernel
theorem dL_law_142 : decode cL_law 142 = .ok (.iaload, 1) := by decide +kernel
theorem dL_law_143 : decode cL_law 143 = .ok (.aload_n 0, 1) := by decide +kernel
theorem dL_law_144 : decode cL_law 144 = .ok (.iload_n 3, 1) := by decide +kernel
theorem dL_law_145 : decode cL_law 145 = .ok (.iconst 2, 1) := by decide +kernel
theorem dL_law_146 : decode cL_law 146 = .ok (.iadd, 1) := by decide +kernel
theorem dL_law_147 : decode cL_law 147 = .ok (.iaload, 1) := by decide +kernel
theorem dL_law_148 : decode cL_law 148 = .ok (.aload_n 0, 1) := by decide +kernel
theorem dL_law_149 : decode cL_law 149 = .ok (.iload_n 3, 1) := by decide +kernel
theorem dL_law_150 : decode cL_law 150 = .ok (.iconst 3, 1) := by decide +kernel
theorem dL_law_151 : decode cL_law 151 = .ok (.iadd, 1) := by decide +kernel
theorem dL_law_152 : decode cL_law 152 = .ok (.iaload, 1) := by decide +kernel
theorem dL_law_153 : decode cL_law 153 = .ok (.aload_n 0, 1) := by decide +kernel
theorem dL_law_154 : decode cL_law 154 = .ok (.iload_n 3, 1) := by decide +kernel
theorem dL_law_155 : decode cL_law 155 = .ok (.iconst 4, 1) := by decide +kernel
theorem dL_law_156 : decode cL_law 156 = .ok (.iadd, 1) := by decide +kernel
theorem dL_law_157 : decode cL_law 157 = .ok (.iaload, 1) := by decide +kernel
theorem dL_law_158 : decode cL_law 158 = .ok (.aload_n 0, 1) := by decide +kernel
theorem dL_law_159 : decode cL_law 159 = .ok (.iload_n 3, 1) := by decide +kernel
theorem dL_law_160 : decode cL_law 160 = .ok (.iconst 5, 1) := by decide +kernel
theorem dL_law_161 : decode cL_law 161 = .ok (.iadd, 1) := by decide +kernel
theorem dL_law_162 : decode cL_law 162 = .ok (.iaload, 1) := by decide +kernel
theorem dL_law_163 : decode cL_law 163 = .ok (.invokevirtual 17, 3) := by decide +kernel
theorem dL_law_166 : decode cL_law 166 = .ok (.if_icmp .eq 653, 3) := by decide +kernel
theorem dL_law_169 : decode cL_law 169 = .ok (.iconst 0, 1) := by decide +kernel
theorem dL_law_170 : decode cL_law 170 = .ok (.ireturn, 1) := by decide +kernel
theorem dL_law_171 : decode cL_law 171 = .ok (.aload_n 1, 1) := by decide +kernel
theorem dL_law_172 : decode cL_law 172 = .ok (.aload_n 0, 1) := by decide +kernel
theorem dL_law_173 : decode cL_law 173 = .ok (.iload_n 3, 1) := by decide +kernel
theorem dL_law_174 : decode cL_law 174 = .ok (.iconst 1, 1) := by decide +kernel
theorem dL_law_175 : decode cL_law 175 = .ok (.iadd, 1) := by decide +kernel
theorem dL_law_176 : decode cL_law 176 = .ok (.iaload, 1) := by decide +kernel
theorem dL_law_177 : decode cL_law 177 = .ok (.invokevirtual 18, 3) := by decide +kernel
theorem dL_law_180 : decode cL_law 180 = .ok (.aload_n 2, 1) := by decide +kernel
theorem dL_law_181 : decode cL_law 181 = .ok (.aload_n 0, 1) := by decide +kernel
theorem dL_law_182 : decode cL_law 182 = .ok (.iload_n 3, 1) := by decide +kernel
theorem dL_law_183 : decode cL_law 183 = .ok (.iconst 1, 1) := by decide +kernel
theorem dL_law_184 : decode cL_law 184 = .ok (.iadd, 1) := by decide +kernel
theorem dL_law_185 : decode cL_law 185 = .ok (.iaload, 1) := by decide +kernel
theorem dL_law_186 : decode cL_law 186 = .ok (.invokevirtual 22, 3) := by decide +kernel
theorem dL_law_189 : decode cL_law 189 = .ok (.if_icmp .eq 630, 3) := by decide +kernel
theorem dL_law_192 : decode cL_law 192 = .ok (.iconst 0, 1) := by decide +kernel
theorem dL_law_193 : decode cL_law 193 = .ok (.ireturn, 1) := by decide +kernel
theorem dL_law_194 : decode cL_law 194 = .ok (.aload_n 1, 1) := by decide +kernel
theorem dL_law_195 : decode cL_law 195 = .ok (.aload_n 0, 1) := by decide +kernel
theorem dL_law_196 : decode cL_law 196 = .ok (.iload_n 3, 1) := by decide +kernel
theorem dL_law_197 : decode cL_law 197 = .ok (.iconst 1, 1) := by decide +kernel
theorem dL_law_198 : decode cL_law 198 = .ok (.iadd, 1) := by decide +kernel
theorem dL_law_199 : decode cL_law 199 = .ok (.iaload, 1) := by decide +kernel
theorem dL_law_200 : decode cL_law 200 = .ok (.invokevirtual 23, 3) := by decide +kernel
theorem dL_law_203 : decode cL_law 203 = .ok (.aload_n 2, 1) := by decide +kernel
theorem dL_law_204 : decode cL_law 204 = .ok (.aload_n 0, 1) := by decide +kernel
theorem dL_law_205 : decode cL_law 205 = .ok (.iload_n 3, 1) := by decide +kernel
theorem dL_law_206 : decode cL_law 206 = .ok (.iconst 1, 1) := by decide +kernel
theorem dL_law_207 : decode cL_law 207 = .ok (.iadd, 1) := by decide +kernel
theorem dL_law_208 : decode cL_law 208 = .ok (.iaload, 1) := by decide +kernel
theorem dL_law_209 : decode cL_law 209 = .ok (.invokevirtual 26, 3) := by decide +kernel
theorem dL_law_212 : decode cL_law 212 = .ok (.if_icmp .eq 607, 3) := by decide +kernel
theorem dL_law_215 : decode cL_law 215 = .ok (.iconst 0, 1) := by decide +kernel
theorem dL_law_216 : decode cL_law 216 = .ok (.ireturn, 1) := by decide +kernel
theorem dL_law_217 : decode cL_law 217 = .ok (.aload_n 1, 1) := by decide +kernel
theorem dL_law_218 : decode cL_law 218 = .ok (.aload_n 0, 1) := by decide +kernel
theorem dL_law_219 : decode cL_law 219 = .ok (.iload_n 3, 1) := by decide +kernel
theorem dL_law_220 : decode cL_law 220 = .ok (.iconst 1, 1) := by decide +kernel
theorem dL_law_221 : decode cL_law 221 = .ok (.iadd, 1) := by decide +kernel
theorem dL_law_222 : decode cL_law 222 = .ok (.iaload, 1) := by decide +kernel
theorem dL_law_223 : decode cL_law 223 = .ok (.aload_n 0, 1) := by decide +kernel
theorem dL_law_224 : decode cL_law 224 = .ok (.iload_n 3, 1) := by decide +kernel
theorem dL_law_225 : decode cL_law 225 = .ok (.iconst 2, 1) := by decide +kernel
theorem dL_law_226 : decode cL_law 226 = .ok (.iadd, 1) := by decide +kernel
theorem dL_law_227 : decode cL_law 227 = .ok (.iaload, 1) := by decide +kernel
theorem dL_law_228 : decode cL_law 228 = .ok (.aload_n 0, 1) := by decide +kernel
theorem dL_law_229 : decode cL_law 229 = .ok (.iload_n 3, 1) := by decide +kernel
theorem dL_law_230 : decode cL_law 230 = .ok (.iconst 3, 1) := by decide +kernel
theorem dL_law_231 : decode cL_law 231 = .ok (.iadd, 1) := by decide +kernel
theorem dL_law_232 : decode cL_law 232 = .ok (.iaload, 1) := by decide +kernel
theorem dL_law_233 : decode cL_law 233 = .ok (.aload_n 0, 1) := by decide +kernel
theorem dL_law_234 : decode cL_law 234 = .ok (.iload_n 3, 1) := by decide +kernel
theorem dL_law_235 : decode cL_law 235 = .ok (.iconst 4, 1) := by decide +kernel
theorem dL_law_236 : decode cL_law 236 = .ok (.iadd, 1) := by decide +kernel
theorem dL_law_237 : decode cL_law 237 = .ok (.iaload, 1) := by decide +kernel
theorem dL_law_238 : decode cL_law 238 = .ok (.invokevirtual 27, 3) := by decide +kernel
theorem dL_law_241 : decode cL_law 241 = .ok (.aload_n 2, 1) := by decide +kernel
theorem dL_law_242 : decode cL_law 242 = .ok (.aload_n 0, 1) := by decide +kernel
theorem dL_law_243 : decode cL_law 243 = .ok (.iload_n 3, 1) := by decide +kernel
theorem dL_law_244 : decode cL_law 244 = .ok (.iconst 1, 1) := by decide +kernel
theorem dL_law_245 : decode cL_law 245 = .ok (.iadd, 1) := by decide +kernel
theorem dL_law_246 : decode cL_law 246 = .ok (.iaload, 1) := by decide +kernel
theorem dL_law_247 : decode cL_law 247 = .ok (.aload_n 0, 1) := by decide +kernel
theorem dL_law_248 : decode cL_law 248 = .ok (.iload_n 3, 1) := by decide +kernel
theorem dL_law_249 : decode cL_law 249 = .ok (.iconst 2, 1) := by decide +kernel
theorem dL_law_250 : decode cL_law 250 = .ok (.iadd, 1) := by decide +kernel
theorem dL_law_251 : decode cL_law 251 = .ok (.iaload, 1) := by decide +kernel
theorem dL_law_252 : decode cL_law 252 = .ok (.aload_n 0, 1) := by decide +kernel
theorem dL_law_253 : decode cL_law 253 = .ok (.iload_n 3, 1) := by decide +kernel
theorem dL_law_254 : decode cL_law 254 = .ok (.iconst 3, 1) := by decide +kernel
theorem dL_law_255 : decode cL_law 255 = .ok (.iadd, 1) := by decide +kernel
theorem dL_law_256 : decode cL_law 256 = .ok (.iaload, 1) := by decide +kernel
theorem dL_law_257 : decode cL_law 257 = .ok (.aload_n 0, 1) := by decide +kernel
theorem dL_law_258 : decode cL_law 258 = .ok (.iload_n 3, 1) := by decide +kernel
theorem dL_law_259 : decode cL_law 259 = .ok (.iconst 4, 1) := by decide +kernel
theorem dL_law_260 : decode cL_law 260 = .ok (.iadd, 1) := by decide +kernel
theorem dL_law_261 : decode cL_law 261 = .ok (.iaload, 1) := by decide +kernel
theorem dL_law_262 : decode cL_law 262 = .ok (.invokevirtual 31, 3) := by decide +kernel
theorem dL_law_265 : decode cL_law 265 = .ok (.if_icmp .eq 554, 3) := by decide +kernel
theorem dL_law_268 : decode cL_law 268 = .ok (.iconst 0, 1) := by decide +kernel
theorem dL_law_269 : decode cL_law 269 = .ok (.ireturn, 1) := by decide +kernel
theorem dL_law_270 : decode cL_law 270 = .ok (.aload_n 1, 1) := by decide +kernel
theorem dL_law_271 : decode cL_law 271 = .ok (.aload_n 0, 1) := by decide +kernel
theorem dL_law_272 : decode cL_law 272 = .ok (.iload_n 3, 1) := by decide +kernel
theorem dL_law_273 : decode cL_law 273 = .ok (.iconst 1, 1) := by decide +kernel
theorem dL_law_274 : decode cL_law 274 = .ok (.iadd, 1) := by decide +kernel
theorem dL_law_275 : decode cL_law 275 = .ok (.iaload, 1) := by decide +kernel
theorem dL_law_276 : decode cL_law 276 = .ok (.aload_n 0, 1) := by decide +kernel
theorem dL_law_277 : decode cL_law 277 = .ok (.iload_n 3, 1) := by decide +kernel
theorem dL_law_278 : decode cL_law 278 = .ok (.iconst 2, 1) := by decide +kernel
theorem dL_law_279 : decode cL_law 279 = .ok (.iadd, 1) := by decide +kernel
theorem dL_law_280 : decode cL_law 280 = .ok (.iaload, 1) := by decide +kernel
theorem dL_law_281 : decode cL_law 281 = .ok (.aload_n 0, 1) := by decide +kernel
theorem dL_law_282 : decode cL_law 282 = .ok (.iload_n 3, 1) := by decide +kernel
theorem dL_law_283 : decode cL_law 283 = .ok (.iconst 3, 1) := by decide +kernel
theorem dL_law_284 : decode cL_law 284 = .ok (.iadd, 1) := by decide +kernel
theorem dL_law_285 : decode cL_law 285 = .ok (.iaload, 1) := by decide +kernel
theorem dL_law_286 : decode cL_law 286 = .ok (.aload_n 0, 1) := by decide +kernel
theorem dL_law_287 : decode cL_law 287 = .ok (.iload_n 3, 1) := by decide +kernel
theorem dL_law_288 : decode cL_law 288 = .ok (.iconst 4, 1) := by decide +kernel
theorem dL_law_289 : decode cL_law 289 = .ok (.iadd, 1) := by decide +kernel
theorem dL_law_290 : decode cL_law 290 = .ok (.iaload, 1) := by decide +kernel
theorem dL_law_291 : decode cL_law 291 = .ok (.invokevirtual 32, 3) := by decide +kernel
theorem dL_law_294 : decode cL_law 294 = .ok (.aload_n 2, 1) := by decide +kernel
theorem dL_law_295 : decode cL_law 295 = .ok (.aload_n 0, 1) := by decide +kernel
theorem dL_law_296 : decode cL_law 296 = .ok (.iload_n 3, 1) := by decide +kernel
theorem dL_law_297 : decode cL_law 297 = .ok (.iconst 1, 1) := by decide +kernel
theorem dL_law_298 : decode cL_law 298 = .ok (.iadd, 1) := by decide +kernel
theorem dL_law_299 : decode cL_law 299 = .ok (.iaload, 1) := by decide +kernel
theorem dL_law_300 : decode cL_law 300 = .ok (.aload_n 0, 1) := by decide +kernel
theorem dL_law_301 : decode cL_law 301 = .ok (.iload_n 3, 1) := by decide +kernel
theorem dL_law_302 : decode cL_law 302 = .ok (.iconst 2, 1) := by decide +kernel
theorem dL_law_303 : decode cL_law 303 = .ok (.iadd, 1) := by decide +kernel
theorem dL_law_304 : decode cL_law 304 = .ok (.iaload, 1) := by decide +kernel
theorem dL_law_305 : decode cL_law 305 = .ok (.aload_n 0, 1) := by decide +kernel
theorem dL_law_306 : decode cL_law 306 = .ok (.iload_n 3, 1) := by decide +kernel
theorem dL_law_307 : decode cL_law 307 = .ok (.iconst 3, 1) := by decide +kernel
theorem dL_law_308 : decode cL_law 308 = .ok (.iadd, 1) := by decide +kernel
theorem dL_law_309 : decode cL_law 309 = .ok (.iaload, 1) := by decide +kernel
theorem dL_law_310 : decode cL_law 310 = .ok (.aload_n 0, 1) := by decide +kernel
theorem dL_law_311 : decode cL_law 311 = .ok (.iload_n 3, 1) := by decide +kernel
theorem dL_law_312 : decode cL_law 312 = .ok (.iconst 4, 1) := by decide +kernel
theorem dL_law_313 : decode cL_law 313 = .ok (.iadd, 1) := by decide +kernel
theorem dL_law_314 : decode cL_law 314 = .ok (.iaload, 1) := by decide +kernel
theorem dL_law_315 : decode cL_law 315 = .ok (.invokevirtual 36, 3) := by decide +kernel
theorem dL_law_318 : decode cL_law 318 = .ok (.if_icmp .eq 501, 3) := by decide +kernel
theorem dL_law_321 : decode cL_law 321 = .ok (.iconst 0, 1) := by decide +kernel
theorem dL_law_322 : decode cL_law 322 = .ok (.ireturn, 1) := by decide +kernel
theorem dL_law_323 : decode cL_law 323 = .ok (.aload_n 1, 1) := by decide +kernel
theorem dL_law_324 : decode cL_law 324 = .ok (.aload_n 0, 1) := by decide +kernel
theorem dL_law_325 : decode cL_law 325 = .ok (.iload_n 3, 1) := by decide +kernel
theorem dL_law_326 : decode cL_law 326 = .ok (.iconst 1, 1) := by decide +kernel
theorem dL_law_327 : decode cL_law 327 = .ok (.iadd, 1) := by decide +kernel
theorem dL_law_328 : decode cL_law 328 = .ok (.iaload, 1) := by decide +kernel
theorem dL_law_329 : decode cL_law 329 = .ok (.aload_n 0, 1) := by decide +kernel
theorem dL_law_330 : decode cL_law 330 = .ok (.iload_n 3, 1) := by decide +kernel
theorem dL_law_331 : decode cL_law 331 = .ok (.iconst 2, 1) := by decide +kernel
theorem dL_law_332 : decode cL_law 332 = .ok (.iadd, 1) := by decide +kernel
theorem dL_law_333 : decode cL_law 333 = .ok (.iaload, 1) := by decide +kernel
theorem dL_law_334 : decode cL_law 334 = .ok (.aload_n 0, 1) := by decide +kernel
theorem dL_law_335 : decode cL_law 335 = .ok (.iload_n 3, 1) := by decide +kernel
theorem dL_law_336 : decode cL_law 336 = .ok (.iconst 3, 1) := by decide +kernel
theorem dL_law_337 : decode cL_law 337 = .ok (.iadd, 1) := by decide +kernel
theorem dL_law_338 : decode cL_law 338 = .ok (.iaload, 1) := by decide +kernel
theorem dL_law_339 : decode cL_law 339 = .ok (.invokevirtual 37, 3) := by decide +kernel
theorem dL_law_342 : decode cL_law 342 = .ok (.aload_n 2, 1) := by decide +kernel
theorem dL_law_343 : decode cL_law 343 = .ok (.aload_n 0, 1) := by decide +kernel
theorem dL_law_344 : decode cL_law 344 = .ok (.iload_n 3, 1) := by decide +kernel
theorem dL_law_345 : decode cL_law 345 = .ok (.iconst 1, 1) := by decide +kernel
theorem dL_law_346 : decode cL_law 346 = .ok (.iadd, 1) := by decide +kernel
theorem dL_law_347 : decode cL_law 347 = .ok (.iaload, 1) := by decide +kernel
theorem dL_law_348 : decode cL_law 348 = .ok (.aload_n 0, 1) := by decide +kernel
theorem dL_law_349 : decode cL_law 349 = .ok (.iload_n 3, 1) := by decide +kernel
theorem dL_law_350 : decode cL_law 350 = .ok (.iconst 2, 1) := by decide +kernel
theorem dL_law_351 : decode cL_law 351 = .ok (.iadd, 1) := by decide +kernel
theorem dL_law_352 : decode cL_law 352 = .ok (.iaload, 1) := by decide +kernel
theorem dL_law_353 : decode cL_law 353 = .ok (.aload_n 0, 1) := by decide +kernel
theorem dL_law_354 : decode cL_law 354 = .ok (.iload_n 3, 1) := by decide +kernel
theorem dL_law_355 : decode cL_law 355 = .ok (.iconst 3, 1) := by decide +kernel
theorem dL_law_356 : decode cL_law 356 = .ok (.iadd, 1) := by decide +kernel
theorem dL_law_357 : decode cL_law 357 = .ok (.iaload, 1) := by decide +kernel
theorem dL_law_358 : decode cL_law 358 = .ok (.invokevirtual 41, 3) := by decide +kernel
theorem dL_law_361 : decode cL_law 361 = .ok (.if_icmp .eq 458, 3) := by decide +kernel
theorem dL_law_364 : decode cL_law 364 = .ok (.iconst 0, 1) := by decide +kernel
theorem dL_law_365 : decode cL_law 365 = .ok (.ireturn, 1) := by decide +kernel
theorem dL_law_366 : decode cL_law 366 = .ok (.aload_n 1, 1) := by decide +kernel
theorem dL_law_367 : decode cL_law 367 = .ok (.aload_n 0, 1) := by decide +kernel
theorem dL_law_368 : decode cL_law 368 = .ok (.iload_n 3, 1) := by decide +kernel
theorem dL_law_369 : decode cL_law 369 = .ok (.iconst 1, 1) := by decide +kernel
theorem dL_law_370 : decode cL_law 370 = .ok (.iadd, 1) := by decide +kernel
theorem dL_law_371 : decode cL_law 371 = .ok (.iaload, 1) := by decide +kernel
theorem dL_law_372 : decode cL_law 372 = .ok (.aload_n 0, 1) := by decide +kernel
theorem dL_law_373 : decode cL_law 373 = .ok (.iload_n 3, 1) := by decide +kernel
theorem dL_law_374 : decode cL_law 374 = .ok (.iconst 2, 1) := by decide +kernel
theorem dL_law_375 : decode cL_law 375 = .ok (.iadd, 1) := by decide +kernel
theorem dL_law_376 : decode cL_law 376 = .ok (.iaload, 1) := by decide +kernel
theorem dL_law_377 : decode cL_law 377 = .ok (.ifCond .eq 7, 3) := by decide +kernel
theorem dL_law_380 : decode cL_law 380 = .ok (.iconst 1, 1) := by decide +kernel
theorem dL_law_381 : decode cL_law 381 = .ok (.goto 4, 3) := by decide +kernel
theorem dL_law_384 : decode cL_law 384 = .ok (.iconst 0, 1) := by decide +kernel
theorem dL_law_385 : decode cL_law 385 = .ok (.invokevirtual 42, 3) := by decide +kernel
theorem dL_law_388 : decode cL_law 388 = .ok (.aload_n 2, 1) := by decide +kernel
theorem dL_law_389 : decode cL_law 389 = .ok (.aload_n 0, 1) := by decide +kernel
theorem dL_law_390 : decode cL_law 390 = .ok (.iload_n 3, 1) := by decide +kernel
theorem dL_law_391 : decode cL_law 391 = .ok (.iconst 1, 1) := by decide +kernel
theorem dL_law_392 : decode cL_law 392 = .ok (.iadd, 1) := by decide +kernel
theorem dL_law_393 : decode cL_law 393 = .ok (.iaload, 1) := by decide +kernel
theorem dL_law_394 : decode cL_law 394 = .ok (.aload_n 0, 1) := by decide +kernel
theorem dL_law_395 : decode cL_law 395 = .ok (.iload_n 3, 1) := by decide +kernel
theorem dL_law_396 : decode cL_law 396 = .ok (.iconst 2, 1) := by decide +kernel
theorem dL_law_397 : decode cL_law 397 = .ok (.iadd, 1) := by decide +kernel
theorem dL_law_398 : decode cL_law 398 = .ok (.iaload, 1) := by decide +kernel
theorem dL_law_399 : decode cL_law 399 = .ok (.ifCond .eq 7, 3) := by decide +kernel
theorem dL_law_402 : decode cL_law 402 = .ok (.iconst 1, 1) := by decide +kernel
theorem dL_law_403 : decode cL_law 403 = .ok (.goto 4, 3) := by decide +kernel
theorem dL_law_406 : decode cL_law 406 = .ok (.iconst 0, 1) := by decide +kernel
theorem dL_law_407 : decode cL_law 407 = .ok (.invokevirtual 46, 3) := by decide +kernel
theorem dL_law_410 : decode cL_law 410 = .ok (.if_icmp .eq 409, 3) := by decide +kernel
theorem dL_law_413 : decode cL_law 413 = .ok (.iconst 0, 1) := by decide +kernel
theorem dL_law_414 : decode cL_law 414 = .ok (.ireturn, 1) := by decide +kernel
theorem dL_law_415 : decode cL_law 415 = .ok (.aload_n 1, 1) := by decide +kernel
theorem dL_law_416 : decode cL_law 416 = .ok (.aload_n 0, 1) := by decide +kernel
theorem dL_law_417 : decode cL_law 417 = .ok (.iload_n 3, 1) := by decide +kernel
theorem dL_law_418 : decode cL_law 418 = .ok (.iconst 1, 1) := by decide +kernel
theorem dL_law_419 : decode cL_law 419 = .ok (.iadd, 1) := by decide +kernel
theorem dL_law_420 : decode cL_law 420 = .ok (.iaload, 1) := by decide +kernel
theorem dL_law_421 : decode cL_law 421 = .ok (.aload_n 0, 1) := by decide +kernel
theorem dL_law_422 : decode cL_law 422 = .ok (.iload_n 3, 1) := by decide +kernel
theorem dL_law_423 : decode cL_law 423 = .ok (.iconst 2, 1) := by decide +kernel
theorem dL_law_424 : decode cL_law 424 = .ok (.iadd, 1) := by decide +kernel
theorem dL_law_425 : decode cL_law 425 = .ok (.iaload, 1) := by decide +kernel
theorem dL_law_426 : decode cL_law 426 = .ok (.ifCond .eq 7, 3) := by decide +kernel
theorem dL_law_429 : decode cL_law 429 = .ok (.iconst 1, 1) := by decide +kernel
theorem dL_law_430 : decode cL_law 430 = .ok (.goto 4, 3) := by decide +kernel
theorem dL_law_433 : decode cL_law 433 = .ok (.iconst 0, 1) := by decide +kernel
theorem dL_law_434 : decode cL_law 434 = .ok (.aload_n 0, 1) := by decide +kernel
theorem dL_law_435 : decode cL_law 435 = .ok (.iload_n 3, 1) := by decide +kernel
theorem dL_law_436 : decode cL_law 436 = .ok (.iconst 3, 1) := by decide +kernel
theorem dL_law_437 : decode cL_law 437 = .ok (.iadd, 1) := by decide +kernel
theorem dL_law_438 : decode cL_law 438 = .ok (.iaload, 1) := by decide +kernel
theorem dL_law_439 : decode cL_law 439 = .ok (.aload_n 0, 1) := by decide +kernel
theorem dL_law_440 : decode cL_law 440 = .ok (.iload_n 3, 1) := by decide +kernel
theorem dL_law_441 : decode cL_law 441 = .ok (.iconst 4, 1) := by decide +kernel
theorem dL_law_442 : decode cL_law 442 = .ok (.iadd, 1) := by decide +kernel
theorem dL_law_443 : decode cL_law 443 = .ok (.iaload, 1) := by decide +kernel
theorem dL_law_444 : decode cL_law 444 = .ok (.invokevirtual 47, 3) := by decide +kernel
theorem dL_law_447 : decode cL_law 447 = .ok (.aload_n 2, 1) := by decide +kernel
theorem dL_law_448 : decode cL_law 448 = .ok (.aload_n 0, 1) := by decide +kernel
theorem dL_law_449 : decode cL_law 449 = .ok (.iload_n 3, 1) := by decide +kernel
theorem dL_law_450 : decode cL_law 450 = .ok (.iconst 1, 1) := by decide +kernel
theorem dL_law_451 : decode cL_law 451 = .ok (.iadd, 1) := by decide +kernel
theorem dL_law_452 : decode cL_law 452 = .ok (.iaload, 1) := by decide +kernel
theorem dL_law_453 : decode cL_law 453 = .ok (.aload_n 0, 1) := by decide +kernel
theorem dL_law_454 : decode cL_law 454 = .ok (.iload_n 3, 1) := by decide +kernel
theorem dL_law_455 : decode cL_law 455 = .ok (.iconst 2, 1) := by decide +kernel
theorem dL_law_456 : decode cL_law 456 = .ok (.iadd, 1) := by decide +kernel
theorem dL_law_457 : decode cL_law 457 = .ok (.iaload, 1) := by decide +kernel
theorem dL_law_458 : decode cL_law 458 = .ok (.ifCond .eq 7, 3) := by decide +kernel
theorem dL_law_461 : decode cL_law 461 = .ok (.iconst 1, 1) := by decide +kernel
theorem dL_law_462 : decode cL_law 462 = .ok (.goto 4, 3) := by decide +kernel
theorem dL_law_465 : decode cL_law 465 = .ok (.iconst 0, 1) := by decide +kernel
theorem dL_law_466 : decode cL_law 466 = .ok (.aload_n 0, 1) := by decide +kernel
theorem dL_law_467 : decode cL_law 467 = .ok (.iload_n 3, 1) := by decide +kernel
theorem dL_law_468 : decode cL_law 468 = .ok (.iconst 3, 1) := by decide +kernel
theorem dL_law_469 : decode cL_law 469 = .ok (.iadd, 1) := by decide +kernel
theorem dL_law_470 : decode cL_law 470 = .ok (.iaload, 1) := by decide +kernel
theorem dL_law_471 : decode cL_law 471 = .ok (.aload_n 0, 1) := by decide +kernel
theorem dL_law_472 : decode cL_law 472 = .ok (.iload_n 3, 1) := by decide +kernel
theorem dL_law_473 : decode cL_law 473 = .ok (.iconst 4, 1) := by decide +kernel
theorem dL_law_474 : decode cL_law 474 = .ok (.iadd, 1) := by decide +kernel
theorem dL_law_475 : decode cL_law 475 = .ok (.iaload, 1) := by decide +kernel
theorem dL_law_476 : decode cL_law 476 = .ok (.invokevirtual 51, 3) := by decide +kernel
theorem dL_law_479 : decode cL_law 479 = .ok (.if_icmp .eq 340, 3) := by decide +kernel
theorem dL_law_482 : decode cL_law 482 = .ok (.iconst 0, 1) := by decide +kernel
theorem dL_law_483 : decode cL_law 483 = .ok (.ireturn, 1) := by decide +kernel
theorem dL_law_484 : decode cL_law 484 = .ok (.aload_n 1, 1) := by decide +kernel
theorem dL_law_485 : decode cL_law 485 = .ok (.aload_n 0, 1) := by decide +kernel
theorem dL_law_486 : decode cL_law 486 = .ok (.iload_n 3, 1) := by decide +kernel
theorem dL_law_487 : decode cL_law 487 = .ok (.iconst 1, 1) := by decide +kernel
theorem dL_law_488 : decode cL_law 488 = .ok (.iadd, 1) := by decide +kernel
theorem dL_law_489 : decode cL_law 489 = .ok (.iaload, 1) := by decide +kernel
theorem dL_law_490 : decode cL_law 490 = .ok (.aload_n 0, 1) := by decide +kernel
theorem dL_law_491 : decode cL_law 491 = .ok (.iload_n 3, 1) := by decide +kernel
theorem dL_law_492 : decode cL_law 492 = .ok (.iconst 2, 1) := by decide +kernel
theorem dL_law_493 : decode cL_law 493 = .ok (.iadd, 1) := by decide +kernel
theorem dL_law_494 : decode cL_law 494 = .ok (.iaload, 1) := by decide +kernel
theorem dL_law_495 : decode cL_law 495 = .ok (.ifCond .eq 7, 3) := by decide +kernel
theorem dL_law_498 : decode cL_law 498 = .ok (.iconst 1, 1) := by decide +kernel
theorem dL_law_499 : decode cL_law 499 = .ok (.goto 4, 3) := by decide +kernel
theorem dL_law_502 : decode cL_law 502 = .ok (.iconst 0, 1) := by decide +kernel
theorem dL_law_503 : decode cL_law 503 = .ok (.invokevirtual 52, 3) := by decide +kernel
theorem dL_law_506 : decode cL_law 506 = .ok (.aload_n 2, 1) := by decide +kernel
theorem dL_law_507 : decode cL_law 507 = .ok (.aload_n 0, 1) := by decide +kernel
theorem dL_law_508 : decode cL_law 508 = .ok (.iload_n 3, 1) := by decide +kernel
theorem dL_law_509 : decode cL_law 509 = .ok (.iconst 1, 1) := by decide +kernel
theorem dL_law_510 : decode cL_law 510 = .ok (.iadd, 1) := by decide +kernel
theorem dL_law_511 : decode cL_law 511 = .ok (.iaload, 1) := by decide +kernel
theorem dL_law_512 : decode cL_law 512 = .ok (.aload_n 0, 1) := by decide +kernel
theorem dL_law_513 : decode cL_law 513 = .ok (.iload_n 3, 1) := by decide +kernel
theorem dL_law_514 : decode cL_law 514 = .ok (.iconst 2, 1) := by decide +kernel
theorem dL_law_515 : decode cL_law 515 = .ok (.iadd, 1) := by decide +kernel
theorem dL_law_516 : decode cL_law 516 = .ok (.iaload, 1) := by decide +kernel
theorem dL_law_517 : decode cL_law 517 = .ok (.ifCond .eq 7, 3) := by decide +kernel
theorem dL_law_520 : decode cL_law 520 = .ok (.iconst 1, 1) := by decide +kernel
theorem dL_law_521 : decode cL_law 521 = .ok (.goto 4, 3) := by decide +kernel
theorem dL_law_524 : decode cL_law 524 = .ok (.iconst 0, 1) := by decide +kernel
theorem dL_law_525 : decode cL_law 525 = .ok (.invokevirtual 55, 3) := by decide +kernel
theorem dL_law_528 : decode cL_law 528 = .ok (.if_icmp .eq 291, 3) := by decide +kernel
theorem dL_law_531 : decode cL_law 531 = .ok (.iconst 0, 1) := by decide +kernel
theorem dL_law_532 : decode cL_law 532 = .ok (.ireturn, 1) := by decide +kernel
theorem dL_law_533 : decode cL_law 533 = .ok (.aload_n 1, 1) := by decide +kernel
theorem dL_law_534 : decode cL_law 534 = .ok (.aload_n 0, 1) := by decide +kernel
theorem dL_law_535 : decode cL_law 535 = .ok (.iload_n 3, 1) := by decide +kernel
theorem dL_law_536 : decode cL_law 536 = .ok (.iconst 1, 1) := by decide +kernel
theorem dL_law_537 : decode cL_law 537 = .ok (.iadd, 1) := by decide +kernel
theorem dL_law_538 : decode cL_law 538 = .ok (.iaload, 1) := by decide +kernel
theorem dL_law_539 : decode cL_law 539 = .ok (.aload_n 0, 1) := by decide +kernel
theorem dL_law_540 : decode cL_law 540 = .ok (.iload_n 3, 1) := by decide +kernel
theorem dL_law_541 : decode cL_law 541 = .ok (.iconst 2, 1) := by decide +kernel
theorem dL_law_542 : decode cL_law 542 = .ok (.iadd, 1) := by decide +kernel
theorem dL_law_543 : decode cL_law 543 = .ok (.iaload, 1) := by decide +kernel
theorem dL_law_544 : decode cL_law 544 = .ok (.ifCond .eq 7, 3) := by decide +kernel
theorem dL_law_547 : decode cL_law 547 = .ok (.iconst 1, 1) := by decide +kernel
theorem dL_law_548 : decode cL_law 548 = .ok (.goto 4, 3) := by decide +kernel
theorem dL_law_551 : decode cL_law 551 = .ok (.iconst 0, 1) := by decide +kernel
theorem dL_law_552 : decode cL_law 552 = .ok (.aload_n 0, 1) := by decide +kernel
theorem dL_law_553 : decode cL_law 553 = .ok (.iload_n 3, 1) := by decide +kernel
theorem dL_law_554 : decode cL_law 554 = .ok (.iconst 3, 1) := by decide +kernel
theorem dL_law_555 : decode cL_law 555 = .ok (.iadd, 1) := by decide +kernel
theorem dL_law_556 : decode cL_law 556 = .ok (.iaload, 1) := by decide +kernel
theorem dL_law_557 : decode cL_law 557 = .ok (.aload_n 0, 1) := by decide +kernel
theorem dL_law_558 : decode cL_law 558 = .ok (.iload_n 3, 1) := by decide +kernel
theorem dL_law_559 : decode cL_law 559 = .ok (.iconst 4, 1) := by decide +kernel
theorem dL_law_560 : decode cL_law 560 = .ok (.iadd, 1) := by decide +kernel
theorem dL_law_561 : decode cL_law 561 = .ok (.iaload, 1) := by decide +kernel
theorem dL_law_562 : decode cL_law 562 = .ok (.invokevirtual 56, 3) := by decide +kernel
theorem dL_law_565 : decode cL_law 565 = .ok (.aload_n 2, 1) := by decide +kernel
theorem dL_law_566 : decode cL_law 566 = .ok (.aload_n 0, 1) := by decide +kernel
theorem dL_law_567 : decode cL_law 567 = .ok (.iload_n 3, 1) := by decide +kernel
theorem dL_law_568 : decode cL_law 568 = .ok (.iconst 1, 1) := by decide +kernel
theorem dL_law_569 : decode cL_law 569 = .ok (.iadd, 1) := by decide +kernel
theorem dL_law_570 : decode cL_law 570 = .ok (.iaload, 1) := by decide +kernel
theorem dL_law_571 : decode cL_law 571 = .ok (.aload_n 0, 1) := by decide +kernel
theorem dL_law_572 : decode cL_law 572 = .ok (.iload_n 3, 1) := by decide +kernel
theorem dL_law_573 : decode cL_law 573 = .ok (.iconst 2, 1) := by decide +kernel
theorem dL_law_574 : decode cL_law 574 = .ok (.iadd, 1) := by decide +kernel
theorem dL_law_575 : decode cL_law 575 = .ok (.iaload, 1) := by decide +kernel
theorem dL_law_576 : decode cL_law 576 = .ok (.ifCond .eq 7, 3) := by decide +kernel
theorem dL_law_579 : decode cL_law 579 = .ok (.iconst 1, 1) := by decide +kernel
theorem dL_law_580 : decode cL_law 580 = .ok (.goto 4, 3) := by decide +kernel
theorem dL_law_583 : decode cL_law 583 = .ok (.iconst 0, 1) := by decide +kernel
theorem dL_law_584 : decode cL_law 584 = .ok (.aload_n 0, 1) := by decide +kernel
theorem dL_law_585 : decode cL_law 585 = .ok (.iload_n 3, 1) := by decide +kernel
theorem dL_law_586 : decode cL_law 586 = .ok (.iconst 3, 1) := by decide +kernel
theorem dL_law_587 : decode cL_law 587 = .ok (.iadd, 1) := by decide +kernel
theorem dL_law_588 : decode cL_law 588 = .ok (.iaload, 1) := by decide +kernel
theorem dL_law_589 : decode cL_law 589 = .ok (.aload_n 0, 1) := by decide +kernel
theorem dL_law_590 : decode cL_law 590 = .ok (.iload_n 3, 1) := by decide +kernel
theorem dL_law_591 : decode cL_law 591 = .ok (.iconst 4, 1) := by decide +kernel
theorem dL_law_592 : decode cL_law 592 = .ok (.iadd, 1) := by decide +kernel
theorem dL_law_593 : decode cL_law 593 = .ok (.iaload, 1) := by decide +kernel
theorem dL_law_594 : decode cL_law 594 = .ok (.invokevirtual 59, 3) := by decide +kernel
theorem dL_law_597 : decode cL_law 597 = .ok (.if_icmp .eq 222, 3) := by decide +kernel
theorem dL_law_600 : decode cL_law 600 = .ok (.iconst 0, 1) := by decide +kernel
theorem dL_law_601 : decode cL_law 601 = .ok (.ireturn, 1) := by decide +kernel
theorem dL_law_602 : decode cL_law 602 = .ok (.aload_n 1, 1) := by decide +kernel
theorem dL_law_603 : decode cL_law 603 = .ok (.aload_n 0, 1) := by decide +kernel
theorem dL_law_604 : decode cL_law 604 = .ok (.iload_n 3, 1) := by decide +kernel
theorem dL_law_605 : decode cL_law 605 = .ok (.iconst 1, 1) := by decide +kernel
theorem dL_law_606 : decode cL_law 606 = .ok (.iadd, 1) := by decide +kernel
theorem dL_law_607 : decode cL_law 607 = .ok (.iaload, 1) := by decide +kernel
theorem dL_law_608 : decode cL_law 608 = .ok (.aload_n 0, 1) := by decide +kernel
theorem dL_law_609 : decode cL_law 609 = .ok (.iload_n 3, 1) := by decide +kernel
theorem dL_law_610 : decode cL_law 610 = .ok (.iconst 2, 1) := by decide +kernel
theorem dL_law_611 : decode cL_law 611 = .ok (.iadd, 1) := by decide +kernel
theorem dL_law_612 : decode cL_law 612 = .ok (.iaload, 1) := by decide +kernel
theorem dL_law_613 : decode cL_law 613 = .ok (.ifCond .eq 7, 3) := by decide +kernel
theorem dL_law_616 : decode cL_law 616 = .ok (.iconst 1, 1) := by decide +kernel
theorem dL_law_617 : decode cL_law 617 = .ok (.goto 4, 3) := by decide +kernel
theorem dL_law_620 : decode cL_law 620 = .ok (.iconst 0, 1) := by decide +kernel
theorem dL_law_621 : decode cL_law 621 = .ok (.invokevirtual 60, 3) := by decide +kernel
theorem dL_law_624 : decode cL_law 624 = .ok (.aload_n 2, 1) := by decide +kernel
theorem dL_law_625 : decode cL_law 625 = .ok (.aload_n 0, 1) := by decide +kernel
theorem dL_law_626 : decode cL_law 626 = .ok (.iload_n 3, 1) := by decide +kernel
theorem dL_law_627 : decode cL_law 627 = .ok (.iconst 1, 1) := by decide +kernel
theorem dL_law_628 : decode cL_law 628 = .ok (.iadd, 1) := by decide +kernel
theorem dL_law_629 : decode cL_law 629 = .ok (.iaload, 1) := by decide +kernel
theorem dL_law_630 : decode cL_law 630 = .ok (.aload_n 0, 1) := by decide +kernel
theorem dL_law_631 : decode cL_law 631 = .ok (.iload_n 3, 1) := by decide +kernel
theorem dL_law_632 : decode cL_law 632 = .ok (.iconst 2, 1) := by decide +kernel
theorem dL_law_633 : decode cL_law 633 = .ok (.iadd, 1) := by decide +kernel
theorem dL_law_634 : decode cL_law 634 = .ok (.iaload, 1) := by decide +kernel
theorem dL_law_635 : decode cL_law 635 = .ok (.ifCond .eq 7, 3) := by decide +kernel
theorem dL_law_638 : decode cL_law 638 = .ok (.iconst 1, 1) := by decide +kernel
theorem dL_law_639 : decode cL_law 639 = .ok (.goto 4, 3) := by decide +kernel
theorem dL_law_642 : decode cL_law 642 = .ok (.iconst 0, 1) := by decide +kernel
theorem dL_law_643 : decode cL_law 643 = .ok (.invokevirtual 63, 3) := by decide +kernel
theorem dL_law_646 : decode cL_law 646 = .ok (.if_icmp .eq 173, 3) := by decide +kernel
theorem dL_law_649 : decode cL_law 649 = .ok (.iconst 0, 1) := by decide +kernel
theorem dL_law_650 : decode cL_law 650 = .ok (.ireturn, 1) := by decide +kernel
theorem dL_law_651 : decode cL_law 651 = .ok (.aload_n 1, 1) := by decide +kernel
theorem dL_law_652 : decode cL_law 652 = .ok (.aload_n 0, 1) := by decide +kernel
theorem dL_law_653 : decode cL_law 653 = .ok (.iload_n 3, 1) := by decide +kernel
theorem dL_law_654 : decode cL_law 654 = .ok (.iconst 1, 1) := by decide +kernel
theorem dL_law_655 : decode cL_law 655 = .ok (.iadd, 1) := by decide +kernel
theorem dL_law_656 : decode cL_law 656 = .ok (.iaload, 1) := by decide +kernel
theorem dL_law_657 : decode cL_law 657 = .ok (.aload_n 0, 1) := by decide +kernel
theorem dL_law_658 : decode cL_law 658 = .ok (.iload_n 3, 1) := by decide +kernel
theorem dL_law_659 : decode cL_law 659 = .ok (.iconst 2, 1) := by decide +kernel
theorem dL_law_660 : decode cL_law 660 = .ok (.iadd, 1) := by decide +kernel
theorem dL_law_661 : decode cL_law 661 = .ok (.iaload, 1) := by decide +kernel
theorem dL_law_662 : decode cL_law 662 = .ok (.ifCond .eq 7, 3) := by decide +kernel
theorem dL_law_665 : decode cL_law 665 = .ok (.iconst 1, 1) := by decide +kernel
theorem dL_law_666 : decode cL_law 666 = .ok (.goto 4, 3) := by decide +kernel
theorem dL_law_669 : decode cL_law 669 = .ok (.iconst 0, 1) := by decide +kernel
theorem dL_law_670 : decode cL_law 670 = .ok (.aload_n 0, 1) := by decide +kernel
theorem dL_law_671 : decode cL_law 671 = .ok (.iload_n 3, 1) := by decide +kernel
theorem dL_law_672 : decode cL_law 672 = .ok (.iconst 3, 1) := by decide +kernel
theorem dL_law_673 : decode cL_law 673 = .ok (.iadd, 1) := by decide +kernel
theorem dL_law_674 : decode cL_law 674 = .ok (.iaload, 1) := by decide +kernel
theorem dL_law_675 : decode cL_law 675 = .ok (.invokevirtual 64, 3) := by decide +kernel
theorem dL_law_678 : decode cL_law 678 = .ok (.aload_n 2, 1) := by decide +kernel
theorem dL_law_679 : decode cL_law 679 = .ok (.aload_n 0, 1) := by decide +kernel
theorem dL_law_680 : decode cL_law 680 = .ok (.iload_n 3, 1) := by decide +kernel
theorem dL_law_681 : decode cL_law 681 = .ok (.iconst 1, 1) := by decide +kernel
theorem dL_law_682 : decode cL_law 682 = .ok (.iadd, 1) := by decide +kernel
theorem dL_law_683 : decode cL_law 683 = .ok (.iaload, 1) := by decide +kernel
theorem dL_law_684 : decode cL_law 684 = .ok (.aload_n 0, 1) := by decide +kernel
theorem dL_law_685 : decode cL_law 685 = .ok (.iload_n 3, 1) := by decide +kernel
theorem dL_law_686 : decode cL_law 686 = .ok (.iconst 2, 1) := by decide +kernel
theorem dL_law_687 : decode cL_law 687 = .ok (.iadd, 1) := by decide +kernel
theorem dL_law_688 : decode cL_law 688 = .ok (.iaload, 1) := by decide +kernel
theorem dL_law_689 : decode cL_law 689 = .ok (.ifCond .eq 7, 3) := by decide +kernel
theorem dL_law_692 : decode cL_law 692 = .ok (.iconst 1, 1) := by decide +kernel
theorem dL_law_693 : decode cL_law 693 = .ok (.goto 4, 3) := by decide +kernel
theorem dL_law_696 : decode cL_law 696 = .ok (.iconst 0, 1) := by decide +kernel
theorem dL_law_697 : decode cL_law 697 = .ok (.aload_n 0, 1) := by decide +kernel
theorem dL_law_698 : decode cL_law 698 = .ok (.iload_n 3, 1) := by decide +kernel
theorem dL_law_699 : decode cL_law 699 = .ok (.iconst 3, 1) := by decide +kernel
theorem dL_law_700 : decode cL_law 700 = .ok (.iadd, 1) := by decide +kernel
theorem dL_law_701 : decode cL_law 701 = .ok (.iaload, 1) := by decide +kernel
theorem dL_law_702 : decode cL_law 702 = .ok (.invokevirtual 68, 3) := by decide +kernel
theorem dL_law_705 : decode cL_law 705 = .ok (.if_icmp .eq 114, 3) := by decide +kernel
theorem dL_law_708 : decode cL_law 708 = .ok (.iconst 0, 1) := by decide +kernel
theorem dL_law_709 : decode cL_law 709 = .ok (.ireturn, 1) := by decide +kernel
theorem dL_law_710 : decode cL_law 710 = .ok (.aload_n 1, 1) := by decide +kernel
theorem dL_law_711 : decode cL_law 711 = .ok (.aload_n 0, 1) := by decide +kernel
theorem dL_law_712 : decode cL_law 712 = .ok (.iload_n 3, 1) := by decide +kernel
theorem dL_law_713 : decode cL_law 713 = .ok (.iconst 1, 1) := by decide +kernel
theorem dL_law_714 : decode cL_law 714 = .ok (.iadd, 1) := by decide +kernel
theorem dL_law_715 : decode cL_law 715 = .ok (.iaload, 1) := by decide +kernel
theorem dL_law_716 : decode cL_law 716 = .ok (.aload_n 0, 1) := by decide +kernel
theorem dL_law_717 : decode cL_law 717 = .ok (.iload_n 3, 1) := by decide +kernel
theorem dL_law_718 : decode cL_law 718 = .ok (.iconst 2, 1) := by decide +kernel
theorem dL_law_719 : decode cL_law 719 = .ok (.iadd, 1) := by decide +kernel
theorem dL_law_720 : decode cL_law 720 = .ok (.iaload, 1) := by decide +kernel
theorem dL_law_721 : decode cL_law 721 = .ok (.invokevirtual 69, 3) := by decide +kernel
theorem dL_law_724 : decode cL_law 724 = .ok (.aload_n 2, 1) := by decide +kernel
theorem dL_law_725 : decode cL_law 725 = .ok (.aload_n 0, 1) := by decide +kernel
theorem dL_law_726 : decode cL_law 726 = .ok (.iload_n 3, 1) := by decide +kernel
theorem dL_law_727 : decode cL_law 727 = .ok (.iconst 1, 1) := by decide +kernel
theorem dL_law_728 : decode cL_law 728 = .ok (.iadd, 1) := by decide +kernel
theorem dL_law_729 : decode cL_law 729 = .ok (.iaload, 1) := by decide +kernel
theorem dL_law_730 : decode cL_law 730 = .ok (.aload_n 0, 1) := by decide +kernel
theorem dL_law_731 : decode cL_law 731 = .ok (.iload_n 3, 1) := by decide +kernel
theorem dL_law_732 : decode cL_law 732 = .ok (.iconst 2, 1) := by decide +kernel
theorem dL_law_733 : decode cL_law 733 = .ok (.iadd, 1) := by decide +kernel
theorem dL_law_734 : decode cL_law 734 = .ok (.iaload, 1) := by decide +kernel
theorem dL_law_735 : decode cL_law 735 = .ok (.invokevirtual 73, 3) := by decide +kernel
theorem dL_law_738 : decode cL_law 738 = .ok (.if_icmp .eq 81, 3) := by decide +kernel
theorem dL_law_741 : decode cL_law 741 = .ok (.iconst 0, 1) := by decide +kernel
theorem dL_law_742 : decode cL_law 742 = .ok (.ireturn, 1) := by decide +kernel
theorem dL_law_743 : decode cL_law 743 = .ok (.aload_n 1, 1) := by decide +kernel
theorem dL_law_744 : decode cL_law 744 = .ok (.aload_n 0, 1) := by decide +kernel
theorem dL_law_745 : decode cL_law 745 = .ok (.iload_n 3, 1) := by decide +kernel
theorem dL_law_746 : decode cL_law 746 = .ok (.iconst 1, 1) := by decide +kernel
theorem dL_law_747 : decode cL_law 747 = .ok (.iadd, 1) := by decide +kernel
theorem dL_law_748 : decode cL_law 748 = .ok (.iaload, 1) := by decide +kernel
theorem dL_law_749 : decode cL_law 749 = .ok (.aload_n 0, 1) := by decide +kernel
theorem dL_law_750 : decode cL_law 750 = .ok (.iload_n 3, 1) := by decide +kernel
theorem dL_law_751 : decode cL_law 751 = .ok (.iconst 2, 1) := by decide +kernel
theorem dL_law_752 : decode cL_law 752 = .ok (.iadd, 1) := by decide +kernel
theorem dL_law_753 : decode cL_law 753 = .ok (.iaload, 1) := by decide +kernel
theorem dL_law_754 : decode cL_law 754 = .ok (.aload_n 0, 1) := by decide +kernel
theorem dL_law_755 : decode cL_law 755 = .ok (.iload_n 3, 1) := by decide +kernel
theorem dL_law_756 : decode cL_law 756 = .ok (.iconst 3, 1) := by decide +kernel
theorem dL_law_757 : decode cL_law 757 = .ok (.iadd, 1) := by decide +kernel
theorem dL_law_758 : decode cL_law 758 = .ok (.iaload, 1) := by decide +kernel
theorem dL_law_759 : decode cL_law 759 = .ok (.invokevirtual 74, 3) := by decide +kernel
theorem dL_law_762 : decode cL_law 762 = .ok (.aload_n 2, 1) := by decide +kernel
theorem dL_law_763 : decode cL_law 763 = .ok (.aload_n 0, 1) := by decide +kernel
theorem dL_law_764 : decode cL_law 764 = .ok (.iload_n 3, 1) := by decide +kernel
theorem dL_law_765 : decode cL_law 765 = .ok (.iconst 1, 1) := by decide +kernel
theorem dL_law_766 : decode cL_law 766 = .ok (.iadd, 1) := by decide +kernel
theorem dL_law_767 : decode cL_law 767 = .ok (.iaload, 1) := by decide +kernel
theorem dL_law_768 : decode cL_law 768 = .ok (.aload_n 0, 1) := by decide +kernel
theorem dL_law_769 : decode cL_law 769 = .ok (.iload_n 3, 1) := by decide +kernel
theorem dL_law_770 : decode cL_law 770 = .ok (.iconst 2, 1) := by decide +kernel
theorem dL_law_771 : decode cL_law 771 = .ok (.iadd, 1) := by decide +kernel
theorem dL_law_772 : decode cL_law 772 = .ok (.iaload, 1) := by decide +kernel
theorem dL_law_773 : decode cL_law 773 = .ok (.aload_n 0, 1) := by decide +kernel
theorem dL_law_774 : decode cL_law 774 = .ok (.iload_n 3, 1) := by decide +kernel
theorem dL_law_775 : decode cL_law 775 = .ok (.iconst 3, 1) := by decide +kernel
theorem dL_law_776 : decode cL_law 776 = .ok (.iadd, 1) := by decide +kernel
theorem dL_law_777 : decode cL_law 777 = .ok (.iaload, 1) := by decide +kernel
theorem dL_law_778 : decode cL_law 778 = .ok (.invokevirtual 78, 3) := by decide +kernel
theorem dL_law_781 : decode cL_law 781 = .ok (.if_icmp .eq 38, 3) := by decide +kernel
theorem dL_law_784 : decode cL_law 784 = .ok (.iconst 0, 1) := by decide +kernel
theorem dL_law_785 : decode cL_law 785 = .ok (.ireturn, 1) := by decide +kernel
theorem dL_law_786 : decode cL_law 786 = .ok (.aload_n 1, 1) := by decide +kernel
theorem dL_law_787 : decode cL_law 787 = .ok (.aload_n 0, 1) := by decide +kernel
theorem dL_law_788 : decode cL_law 788 = .ok (.iload_n 3, 1) := by decide +kernel
theorem dL_law_789 : decode cL_law 789 = .ok (.iconst 1, 1) := by decide +kernel
theorem dL_law_790 : decode cL_law 790 = .ok (.iadd, 1) := by decide +kernel
theorem dL_law_791 : decode cL_law 791 = .ok (.iaload, 1) := by decide +kernel
theorem dL_law_792 : decode cL_law 792 = .ok (.aload_n 0, 1) := by decide +kernel
theorem dL_law_793 : decode cL_law 793 = .ok (.iload_n 3, 1) := by decide +kernel
theorem dL_law_794 : decode cL_law 794 = .ok (.iconst 2, 1) := by decide +kernel
theorem dL_law_795 : decode cL_law 795 = .ok (.iadd, 1) := by decide +kernel
theorem dL_law_796 : decode cL_law 796 = .ok (.iaload, 1) := by decide +kernel
theorem dL_law_797 : decode cL_law 797 = .ok (.invokevirtual 79, 3) := by decide +kernel
theorem dL_law_800 : decode cL_law 800 = .ok (.aload_n 2, 1) := by decide +kernel
theorem dL_law_801 : decode cL_law 801 = .ok (.aload_n 0, 1) := by decide +kernel
theorem dL_law_802 : decode cL_law 802 = .ok (.iload_n 3, 1) := by decide +kernel
theorem dL_law_803 : decode cL_law 803 = .ok (.iconst 1, 1) := by decide +kernel
theorem dL_law_804 : decode cL_law 804 = .ok (.iadd, 1) := by decide +kernel
theorem dL_law_805 : decode cL_law 805 = .ok (.iaload, 1) := by decide +kernel
theorem dL_law_806 : decode cL_law 806 = .ok (.aload_n 0, 1) := by decide +kernel
theorem dL_law_807 : decode cL_law 807 = .ok (.iload_n 3, 1) := by decide +kernel
theorem dL_law_808 : decode cL_law 808 = .ok (.iconst 2, 1) := by decide +kernel
theorem dL_law_809 : decode cL_law 809 = .ok (.iadd, 1) := by decide +kernel
theorem dL_law_810 : decode cL_law 810 = .ok (.iaload, 1) := by decide +kernel
theorem dL_law_811 : decode cL_law 811 = .ok (.invokevirtual 82, 3) := by decide +kernel
theorem dL_law_814 : decode cL_law 814 = .ok (.if_icmp .eq 5, 3) := by decide +kernel
theorem dL_law_817 : decode cL_law 817 = .ok (.iconst 0, 1) := by decide +kernel
theorem dL_law_818 : decode cL_law 818 = .ok (.ireturn, 1) := by decide +kernel
theorem dL_law_819 : decode cL_law 819 = .ok (.iinc 3 6, 3) := by decide +kernel
theorem dL_law_822 : decode cL_law 822 = .ok (.goto (-804), 3) := by decide +kernel
theorem dL_law_825 : decode cL_law 825 = .ok (.iconst 1, 1) := by decide +kernel
theorem dL_law_826 : decode cL_law 826 = .ok (.ireturn, 1) := by decide +kernel
