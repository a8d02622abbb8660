/-! DECODE ROWS: out of the printed names. -/
theorem dX4_init_0 : decode cX4_init 0 = .ok (.aload_n 0, 1) := by decide +kernel
theorem dX4_init_1 : decode cX4_init 1 = .ok (.invokespecial 5, 3) := by decide +kernel
theorem dX4_init_4 : decode cX4_init 4 = .ok (.aload_n 0, 1) := by decide +kernel
theorem dX4_init_5 : decode cX4_init 5 = .ok (.sipush 280, 3) := by decide +kernel
theorem dX4_init_8 : decode cX4_init 8 = .ok (.newarray .int, 2) := by decide +kernel
theorem dX4_init_10 : decode cX4_init 10 = .ok (.putfield 13, 3) := by decide +kernel
theorem dX4_init_13 : decode cX4_init 13 = .ok (.aload_n 0, 1) := by decide +kernel
theorem dX4_init_14 : decode cX4_init 14 = .ok (.iconst 0, 1) := by decide +kernel
theorem dX4_init_15 : decode cX4_init 15 = .ok (.putfield 17, 3) := by decide +kernel
theorem dX4_init_18 : decode cX4_init 18 = .ok (.aload_n 0, 1) := by decide +kernel
theorem dX4_init_19 : decode cX4_init 19 = .ok (.iconst 0, 1) := by decide +kernel
theorem dX4_init_20 : decode cX4_init 20 = .ok (.putfield 21, 3) := by decide +kernel
theorem dX4_init_23 : decode cX4_init 23 = .ok (.aload_n 0, 1) := by decide +kernel
theorem dX4_init_24 : decode cX4_init 24 = .ok (.iconst 0, 1) := by decide +kernel
theorem dX4_init_25 : decode cX4_init 25 = .ok (.putfield 24, 3) := by decide +kernel
theorem dX4_init_28 : decode cX4_init 28 = .ok (.aload_n 0, 1) := by decide +kernel
theorem dX4_init_29 : decode cX4_init 29 = .ok (.iconst 0, 1) := by decide +kernel
theorem dX4_init_30 : decode cX4_init 30 = .ok (.putfield 27, 3) := by decide +kernel
theorem dX4_init_33 : decode cX4_init 33 = .ok (.aload_n 0, 1) := by decide +kernel
theorem dX4_init_34 : decode cX4_init 34 = .ok (.iconst 0, 1) := by decide +kernel
theorem dX4_init_35 : decode cX4_init 35 = .ok (.putfield 30, 3) := by decide +kernel
theorem dX4_init_38 : decode cX4_init 38 = .ok (.aload_n 0, 1) := by decide +kernel
theorem dX4_init_39 : decode cX4_init 39 = .ok (.aload_n 1, 1) := by decide +kernel
theorem dX4_init_40 : decode cX4_init 40 = .ok (.putfield 34, 3) := by decide +kernel
theorem dX4_init_43 : decode cX4_init 43 = .ok (.aload_n 0, 1) := by decide +kernel
theorem dX4_init_44 : decode cX4_init 44 = .ok (.aload_n 2, 1) := by decide +kernel
theorem dX4_init_45 : decode cX4_init 45 = .ok (.putfield 38, 3) := by decide +kernel
theorem dX4_init_48 : decode cX4_init 48 = .ok (.aload_n 0, 1) := by decide +kernel
theorem dX4_init_49 : decode cX4_init 49 = .ok (.aload_n 3, 1) := by decide +kernel
theorem dX4_init_50 : decode cX4_init 50 = .ok (.putfield 42, 3) := by decide +kernel
theorem dX4_init_53 : decode cX4_init 53 = .ok (.aload_n 0, 1) := by decide +kernel
theorem dX4_init_54 : decode cX4_init 54 = .ok (.aload 4, 2) := by decide +kernel
theorem dX4_init_56 : decode cX4_init 56 = .ok (.putfield 46, 3) := by decide +kernel
theorem dX4_init_59 : decode cX4_init 59 = .ok (.aload_n 0, 1) := by decide +kernel
theorem dX4_init_60 : decode cX4_init 60 = .ok (.aload 5, 2) := by decide +kernel
theorem dX4_init_62 : decode cX4_init 62 = .ok (.putfield 50, 3) := by decide +kernel
theorem dX4_init_65 : decode cX4_init 65 = .ok (.return_, 1) := by decide +kernel
theorem dX4_failingLine_0 : decode cX4_failingLine 0 = .ok (.aload_n 0, 1) := by decide +kernel
theorem dX4_failingLine_1 : decode cX4_failingLine 1 = .ok (.invokevirtual 54, 3) := by decide +kernel
theorem dX4_failingLine_4 : decode cX4_failingLine 4 = .ok (.aload_n 0, 1) := by decide +kernel
theorem dX4_failingLine_5 : decode cX4_failingLine 5 = .ok (.getfield 50, 3) := by decide +kernel
theorem dX4_failingLine_8 : decode cX4_failingLine 8 = .ok (.iload_n 1, 1) := by decide +kernel
theorem dX4_failingLine_9 : decode cX4_failingLine 9 = .ok (.invokevirtual 57, 3) := by decide +kernel
theorem dX4_failingLine_12 : decode cX4_failingLine 12 = .ok (.istore_n 3, 1) := by decide +kernel
theorem dX4_failingLine_13 : decode cX4_failingLine 13 = .ok (.iconst (-1), 1) := by decide +kernel
theorem dX4_failingLine_14 : decode cX4_failingLine 14 = .ok (.istore 4, 2) := by decide +kernel
theorem dX4_failingLine_16 : decode cX4_failingLine 16 = .ok (.iconst 0, 1) := by decide +kernel
theorem dX4_failingLine_17 : decode cX4_failingLine 17 = .ok (.istore 5, 2) := by decide +kernel
theorem dX4_failingLine_19 : decode cX4_failingLine 19 = .ok (.iload 5, 2) := by decide +kernel
theorem dX4_failingLine_21 : decode cX4_failingLine 21 = .ok (.iload_n 3, 1) := by decide +kernel
theorem dX4_failingLine_22 : decode cX4_failingLine 22 = .ok (.if_icmp .ge 97, 3) := by decide +kernel
theorem dX4_failingLine_25 : decode cX4_failingLine 25 = .ok (.iload 4, 2) := by decide +kernel
theorem dX4_failingLine_27 : decode cX4_failingLine 27 = .ok (.iconst (-1), 1) := by decide +kernel
theorem dX4_failingLine_28 : decode cX4_failingLine 28 = .ok (.if_icmp .ne 91, 3) := by decide +kernel
theorem dX4_failingLine_31 : decode cX4_failingLine 31 = .ok (.iload_n 2, 1) := by decide +kernel
theorem dX4_failingLine_32 : decode cX4_failingLine 32 = .ok (.iload 5, 2) := by decide +kernel
theorem dX4_failingLine_34 : decode cX4_failingLine 34 = .ok (.ishr, 1) := by decide +kernel
theorem dX4_failingLine_35 : decode cX4_failingLine 35 = .ok (.iconst 1, 1) := by decide +kernel
theorem dX4_failingLine_36 : decode cX4_failingLine 36 = .ok (.iand, 1) := by decide +kernel
theorem dX4_failingLine_37 : decode cX4_failingLine 37 = .ok (.iconst 1, 1) := by decide +kernel
theorem dX4_failingLine_38 : decode cX4_failingLine 38 = .ok (.if_icmp .ne 6, 3) := by decide +kernel
theorem dX4_failingLine_41 : decode cX4_failingLine 41 = .ok (.goto 72, 3) := by decide +kernel
theorem dX4_failingLine_44 : decode cX4_failingLine 44 = .ok (.aload_n 0, 1) := by decide +kernel
theorem dX4_failingLine_45 : decode cX4_failingLine 45 = .ok (.getfield 50, 3) := by decide +kernel
theorem dX4_failingLine_48 : decode cX4_failingLine 48 = .ok (.iload_n 1, 1) := by decide +kernel
theorem dX4_failingLine_49 : decode cX4_failingLine 49 = .ok (.iload 5, 2) := by decide +kernel
theorem dX4_failingLine_51 : decode cX4_failingLine 51 = .ok (.invokevirtual 63, 3) := by decide +kernel
theorem dX4_failingLine_54 : decode cX4_failingLine 54 = .ok (.istore 6, 2) := by decide +kernel
theorem dX4_failingLine_56 : decode cX4_failingLine 56 = .ok (.aload_n 0, 1) := by decide +kernel
theorem dX4_failingLine_57 : decode cX4_failingLine 57 = .ok (.getfield 50, 3) := by decide +kernel
theorem dX4_failingLine_60 : decode cX4_failingLine 60 = .ok (.iload 6, 2) := by decide +kernel
theorem dX4_failingLine_62 : decode cX4_failingLine 62 = .ok (.invokevirtual 67, 3) := by decide +kernel
theorem dX4_failingLine_65 : decode cX4_failingLine 65 = .ok (.iconst 1, 1) := by decide +kernel
theorem dX4_failingLine_66 : decode cX4_failingLine 66 = .ok (.if_icmp .ne 7, 3) := by decide +kernel
theorem dX4_failingLine_69 : decode cX4_failingLine 69 = .ok (.iconst 1, 1) := by decide +kernel
theorem dX4_failingLine_70 : decode cX4_failingLine 70 = .ok (.goto 4, 3) := by decide +kernel
theorem dX4_failingLine_73 : decode cX4_failingLine 73 = .ok (.iconst 0, 1) := by decide +kernel
theorem dX4_failingLine_74 : decode cX4_failingLine 74 = .ok (.istore 7, 2) := by decide +kernel
theorem dX4_failingLine_76 : decode cX4_failingLine 76 = .ok (.iload 7, 2) := by decide +kernel
theorem dX4_failingLine_78 : decode cX4_failingLine 78 = .ok (.ifCond .eq 14, 3) := by decide +kernel
theorem dX4_failingLine_81 : decode cX4_failingLine 81 = .ok (.aload_n 0, 1) := by decide +kernel
theorem dX4_failingLine_82 : decode cX4_failingLine 82 = .ok (.iload_n 1, 1) := by decide +kernel
theorem dX4_failingLine_83 : decode cX4_failingLine 83 = .ok (.iload 5, 2) := by decide +kernel
theorem dX4_failingLine_85 : decode cX4_failingLine 85 = .ok (.iload_n 2, 1) := by decide +kernel
theorem dX4_failingLine_86 : decode cX4_failingLine 86 = .ok (.invokevirtual 70, 3) := by decide +kernel
theorem dX4_failingLine_89 : decode cX4_failingLine 89 = .ok (.goto 9, 3) := by decide +kernel
theorem dX4_failingLine_92 : decode cX4_failingLine 92 = .ok (.aload_n 0, 1) := by decide +kernel
theorem dX4_failingLine_93 : decode cX4_failingLine 93 = .ok (.iload 6, 2) := by decide +kernel
theorem dX4_failingLine_95 : decode cX4_failingLine 95 = .ok (.invokevirtual 74, 3) := by decide +kernel
theorem dX4_failingLine_98 : decode cX4_failingLine 98 = .ok (.istore 8, 2) := by decide +kernel
theorem dX4_failingLine_100 : decode cX4_failingLine 100 = .ok (.iload 8, 2) := by decide +kernel
theorem dX4_failingLine_102 : decode cX4_failingLine 102 = .ok (.ifCond .eq 7, 3) := by decide +kernel
theorem dX4_failingLine_105 : decode cX4_failingLine 105 = .ok (.iconst (-1), 1) := by decide +kernel
theorem dX4_failingLine_106 : decode cX4_failingLine 106 = .ok (.goto 5, 3) := by decide +kernel
theorem dX4_failingLine_109 : decode cX4_failingLine 109 = .ok (.iload 5, 2) := by decide +kernel
theorem dX4_failingLine_111 : decode cX4_failingLine 111 = .ok (.istore 4, 2) := by decide +kernel
theorem dX4_failingLine_113 : decode cX4_failingLine 113 = .ok (.iinc 5 1, 3) := by decide +kernel
theorem dX4_failingLine_116 : decode cX4_failingLine 116 = .ok (.goto (-97), 3) := by decide +kernel
theorem dX4_failingLine_119 : decode cX4_failingLine 119 = .ok (.aload_n 0, 1) := by decide +kernel
theorem dX4_failingLine_120 : decode cX4_failingLine 120 = .ok (.getfield 42, 3) := by decide +kernel
theorem dX4_failingLine_123 : decode cX4_failingLine 123 = .ok (.invokevirtual 78, 3) := by decide +kernel
theorem dX4_failingLine_126 : decode cX4_failingLine 126 = .ok (.aload_n 0, 1) := by decide +kernel
theorem dX4_failingLine_127 : decode cX4_failingLine 127 = .ok (.getfield 34, 3) := by decide +kernel
theorem dX4_failingLine_130 : decode cX4_failingLine 130 = .ok (.aload_n 0, 1) := by decide +kernel
theorem dX4_failingLine_131 : decode cX4_failingLine 131 = .ok (.getfield 13, 3) := by decide +kernel
theorem dX4_failingLine_134 : decode cX4_failingLine 134 = .ok (.iconst 3, 1) := by decide +kernel
theorem dX4_failingLine_135 : decode cX4_failingLine 135 = .ok (.invokevirtual 83, 3) := by decide +kernel
theorem dX4_failingLine_138 : decode cX4_failingLine 138 = .ok (.pop, 1) := by decide +kernel
theorem dX4_failingLine_139 : decode cX4_failingLine 139 = .ok (.iload 4, 2) := by decide +kernel
theorem dX4_failingLine_141 : decode cX4_failingLine 141 = .ok (.ireturn, 1) := by decide +kernel
theorem dX4_begin_0 : decode cX4_begin 0 = .ok (.aload_n 0, 1) := by decide +kernel
theorem dX4_begin_1 : decode cX4_begin 1 = .ok (.getfield 34, 3) := by decide +kernel
theorem dX4_begin_4 : decode cX4_begin 4 = .ok (.aload_n 0, 1) := by decide +kernel
theorem dX4_begin_5 : decode cX4_begin 5 = .ok (.getfield 13, 3) := by decide +kernel
theorem dX4_begin_8 : decode cX4_begin 8 = .ok (.iconst 3, 1) := by decide +kernel
theorem dX4_begin_9 : decode cX4_begin 9 = .ok (.invokevirtual 87, 3) := by decide +kernel
theorem dX4_begin_12 : decode cX4_begin 12 = .ok (.pop, 1) := by decide +kernel
theorem dX4_begin_13 : decode cX4_begin 13 = .ok (.aload_n 0, 1) := by decide +kernel
theorem dX4_begin_14 : decode cX4_begin 14 = .ok (.iconst 0, 1) := by decide +kernel
theorem dX4_begin_15 : decode cX4_begin 15 = .ok (.putfield 17, 3) := by decide +kernel
theorem dX4_begin_18 : decode cX4_begin 18 = .ok (.aload_n 0, 1) := by decide +kernel
theorem dX4_begin_19 : decode cX4_begin 19 = .ok (.iconst 0, 1) := by decide +kernel
theorem dX4_begin_20 : decode cX4_begin 20 = .ok (.putfield 21, 3) := by decide +kernel
theorem dX4_begin_23 : decode cX4_begin 23 = .ok (.aload_n 0, 1) := by decide +kernel
theorem dX4_begin_24 : decode cX4_begin 24 = .ok (.iconst 0, 1) := by decide +kernel
theorem dX4_begin_25 : decode cX4_begin 25 = .ok (.putfield 24, 3) := by decide +kernel
theorem dX4_begin_28 : decode cX4_begin 28 = .ok (.aload_n 0, 1) := by decide +kernel
theorem dX4_begin_29 : decode cX4_begin 29 = .ok (.aload_n 0, 1) := by decide +kernel
theorem dX4_begin_30 : decode cX4_begin 30 = .ok (.getfield 34, 3) := by decide +kernel
theorem dX4_begin_33 : decode cX4_begin 33 = .ok (.invokevirtual 90, 3) := by decide +kernel
theorem dX4_begin_36 : decode cX4_begin 36 = .ok (.putfield 27, 3) := by decide +kernel
theorem dX4_begin_39 : decode cX4_begin 39 = .ok (.aload_n 0, 1) := by decide +kernel
theorem dX4_begin_40 : decode cX4_begin 40 = .ok (.iconst 0, 1) := by decide +kernel
theorem dX4_begin_41 : decode cX4_begin 41 = .ok (.putfield 30, 3) := by decide +kernel
theorem dX4_begin_44 : decode cX4_begin 44 = .ok (.return_, 1) := by decide +kernel
theorem dX4_doesCall_0 : decode cX4_doesCall 0 = .ok (.aload_n 0, 1) := by decide +kernel
theorem dX4_doesCall_1 : decode cX4_doesCall 1 = .ok (.getfield 50, 3) := by decide +kernel
theorem dX4_doesCall_4 : decode cX4_doesCall 4 = .ok (.iload_n 1, 1) := by decide +kernel
theorem dX4_doesCall_5 : decode cX4_doesCall 5 = .ok (.iload_n 2, 1) := by decide +kernel
theorem dX4_doesCall_6 : decode cX4_doesCall 6 = .ok (.invokevirtual 63, 3) := by decide +kernel
theorem dX4_doesCall_9 : decode cX4_doesCall 9 = .ok (.istore 4, 2) := by decide +kernel
theorem dX4_doesCall_11 : decode cX4_doesCall 11 = .ok (.aload_n 0, 1) := by decide +kernel
theorem dX4_doesCall_12 : decode cX4_doesCall 12 = .ok (.getfield 38, 3) := by decide +kernel
theorem dX4_doesCall_15 : decode cX4_doesCall 15 = .ok (.aload_n 0, 1) := by decide +kernel
theorem dX4_doesCall_16 : decode cX4_doesCall 16 = .ok (.getfield 50, 3) := by decide +kernel
theorem dX4_doesCall_19 : decode cX4_doesCall 19 = .ok (.iload 4, 2) := by decide +kernel
theorem dX4_doesCall_21 : decode cX4_doesCall 21 = .ok (.invokevirtual 94, 3) := by decide +kernel
theorem dX4_doesCall_24 : decode cX4_doesCall 24 = .ok (.aload_n 0, 1) := by decide +kernel
theorem dX4_doesCall_25 : decode cX4_doesCall 25 = .ok (.getfield 50, 3) := by decide +kernel
theorem dX4_doesCall_28 : decode cX4_doesCall 28 = .ok (.iload 4, 2) := by decide +kernel
theorem dX4_doesCall_30 : decode cX4_doesCall 30 = .ok (.invokevirtual 97, 3) := by decide +kernel
theorem dX4_doesCall_33 : decode cX4_doesCall 33 = .ok (.invokevirtual 100, 3) := by decide +kernel
theorem dX4_doesCall_36 : decode cX4_doesCall 36 = .ok (.istore 5, 2) := by decide +kernel
theorem dX4_doesCall_38 : decode cX4_doesCall 38 = .ok (.iload 5, 2) := by decide +kernel
theorem dX4_doesCall_40 : decode cX4_doesCall 40 = .ok (.ifCond .ge 5, 3) := by decide +kernel
theorem dX4_doesCall_43 : decode cX4_doesCall 43 = .ok (.iconst 0, 1) := by decide +kernel
theorem dX4_doesCall_44 : decode cX4_doesCall 44 = .ok (.ireturn, 1) := by decide +kernel
theorem dX4_doesCall_45 : decode cX4_doesCall 45 = .ok (.aload_n 0, 1) := by decide +kernel
theorem dX4_doesCall_46 : decode cX4_doesCall 46 = .ok (.getfield 46, 3) := by decide +kernel
theorem dX4_doesCall_49 : decode cX4_doesCall 49 = .ok (.aload_n 0, 1) := by decide +kernel
theorem dX4_doesCall_50 : decode cX4_doesCall 50 = .ok (.getfield 17, 3) := by decide +kernel
theorem dX4_doesCall_53 : decode cX4_doesCall 53 = .ok (.iload 5, 2) := by decide +kernel
theorem dX4_doesCall_55 : decode cX4_doesCall 55 = .ok (.aload_n 0, 1) := by decide +kernel
theorem dX4_doesCall_56 : decode cX4_doesCall 56 = .ok (.getfield 50, 3) := by decide +kernel
theorem dX4_doesCall_59 : decode cX4_doesCall 59 = .ok (.iload 4, 2) := by decide +kernel
theorem dX4_doesCall_61 : decode cX4_doesCall 61 = .ok (.invokevirtual 105, 3) := by decide +kernel
theorem dX4_doesCall_64 : decode cX4_doesCall 64 = .ok (.aload_n 0, 1) := by decide +kernel
theorem dX4_doesCall_65 : decode cX4_doesCall 65 = .ok (.getfield 21, 3) := by decide +kernel
theorem dX4_doesCall_68 : decode cX4_doesCall 68 = .ok (.invokevirtual 108, 3) := by decide +kernel
theorem dX4_doesCall_71 : decode cX4_doesCall 71 = .ok (.aload_n 0, 1) := by decide +kernel
theorem dX4_doesCall_72 : decode cX4_doesCall 72 = .ok (.iconst 1, 1) := by decide +kernel
theorem dX4_doesCall_73 : decode cX4_doesCall 73 = .ok (.putfield 30, 3) := by decide +kernel
theorem dX4_doesCall_76 : decode cX4_doesCall 76 = .ok (.aload_n 0, 1) := by decide +kernel
theorem dX4_doesCall_77 : decode cX4_doesCall 77 = .ok (.getfield 46, 3) := by decide +kernel
theorem dX4_doesCall_80 : decode cX4_doesCall 80 = .ok (.invokevirtual 114, 3) := by decide +kernel
theorem dX4_doesCall_83 : decode cX4_doesCall 83 = .ok (.ifCond .eq 13, 3) := by decide +kernel
theorem dX4_doesCall_86 : decode cX4_doesCall 86 = .ok (.aload_n 0, 1) := by decide +kernel
theorem dX4_doesCall_87 : decode cX4_doesCall 87 = .ok (.iload_n 1, 1) := by decide +kernel
theorem dX4_doesCall_88 : decode cX4_doesCall 88 = .ok (.iload_n 2, 1) := by decide +kernel
theorem dX4_doesCall_89 : decode cX4_doesCall 89 = .ok (.iload_n 3, 1) := by decide +kernel
theorem dX4_doesCall_90 : decode cX4_doesCall 90 = .ok (.invokevirtual 118, 3) := by decide +kernel
theorem dX4_doesCall_93 : decode cX4_doesCall 93 = .ok (.ifCond .eq 7, 3) := by decide +kernel
theorem dX4_doesCall_96 : decode cX4_doesCall 96 = .ok (.iconst 1, 1) := by decide +kernel
theorem dX4_doesCall_97 : decode cX4_doesCall 97 = .ok (.goto 4, 3) := by decide +kernel
theorem dX4_doesCall_100 : decode cX4_doesCall 100 = .ok (.iconst 0, 1) := by decide +kernel
theorem dX4_doesCall_101 : decode cX4_doesCall 101 = .ok (.ireturn, 1) := by decide +kernel
theorem dX4_nextIsThrows_0 : decode cX4_nextIsThrows 0 = .ok (.aload_n 0, 1) := by decide +kernel
theorem dX4_nextIsThrows_1 : decode cX4_nextIsThrows 1 = .ok (.getfield 50, 3) := by decide +kernel
theorem dX4_nextIsThrows_4 : decode cX4_nextIsThrows 4 = .ok (.iload_n 1, 1) := by decide +kernel
theorem dX4_nextIsThrows_5 : decode cX4_nextIsThrows 5 = .ok (.invokevirtual 57, 3) := by decide +kernel
theorem dX4_nextIsThrows_8 : decode cX4_nextIsThrows 8 = .ok (.istore 4, 2) := by decide +kernel
theorem dX4_nextIsThrows_10 : decode cX4_nextIsThrows 10 = .ok (.iload_n 2, 1) := by decide +kernel
theorem dX4_nextIsThrows_11 : decode cX4_nextIsThrows 11 = .ok (.iconst 1, 1) := by decide +kernel
theorem dX4_nextIsThrows_12 : decode cX4_nextIsThrows 12 = .ok (.iadd, 1) := by decide +kernel
theorem dX4_nextIsThrows_13 : decode cX4_nextIsThrows 13 = .ok (.istore 5, 2) := by decide +kernel
theorem dX4_nextIsThrows_15 : decode cX4_nextIsThrows 15 = .ok (.iload 5, 2) := by decide +kernel
theorem dX4_nextIsThrows_17 : decode cX4_nextIsThrows 17 = .ok (.iload 4, 2) := by decide +kernel
theorem dX4_nextIsThrows_19 : decode cX4_nextIsThrows 19 = .ok (.if_icmp .ge 45, 3) := by decide +kernel
theorem dX4_nextIsThrows_22 : decode cX4_nextIsThrows 22 = .ok (.iload_n 3, 1) := by decide +kernel
theorem dX4_nextIsThrows_23 : decode cX4_nextIsThrows 23 = .ok (.iload 5, 2) := by decide +kernel
theorem dX4_nextIsThrows_25 : decode cX4_nextIsThrows 25 = .ok (.ishr, 1) := by decide +kernel
theorem dX4_nextIsThrows_26 : decode cX4_nextIsThrows 26 = .ok (.iconst 1, 1) := by decide +kernel
theorem dX4_nextIsThrows_27 : decode cX4_nextIsThrows 27 = .ok (.iand, 1) := by decide +kernel
theorem dX4_nextIsThrows_28 : decode cX4_nextIsThrows 28 = .ok (.ifCond .ne 30, 3) := by decide +kernel
theorem dX4_nextIsThrows_31 : decode cX4_nextIsThrows 31 = .ok (.aload_n 0, 1) := by decide +kernel
theorem dX4_nextIsThrows_32 : decode cX4_nextIsThrows 32 = .ok (.getfield 50, 3) := by decide +kernel
theorem dX4_nextIsThrows_35 : decode cX4_nextIsThrows 35 = .ok (.aload_n 0, 1) := by decide +kernel
theorem dX4_nextIsThrows_36 : decode cX4_nextIsThrows 36 = .ok (.getfield 50, 3) := by decide +kernel
theorem dX4_nextIsThrows_39 : decode cX4_nextIsThrows 39 = .ok (.iload_n 1, 1) := by decide +kernel
theorem dX4_nextIsThrows_40 : decode cX4_nextIsThrows 40 = .ok (.iload 5, 2) := by decide +kernel
theorem dX4_nextIsThrows_42 : decode cX4_nextIsThrows 42 = .ok (.invokevirtual 63, 3) := by decide +kernel
theorem dX4_nextIsThrows_45 : decode cX4_nextIsThrows 45 = .ok (.invokevirtual 67, 3) := by decide +kernel
theorem dX4_nextIsThrows_48 : decode cX4_nextIsThrows 48 = .ok (.iconst 3, 1) := by decide +kernel
theorem dX4_nextIsThrows_49 : decode cX4_nextIsThrows 49 = .ok (.if_icmp .ne 7, 3) := by decide +kernel
theorem dX4_nextIsThrows_52 : decode cX4_nextIsThrows 52 = .ok (.iconst 1, 1) := by decide +kernel
theorem dX4_nextIsThrows_53 : decode cX4_nextIsThrows 53 = .ok (.goto 4, 3) := by decide +kernel
theorem dX4_nextIsThrows_56 : decode cX4_nextIsThrows 56 = .ok (.iconst 0, 1) := by decide +kernel
theorem dX4_nextIsThrows_57 : decode cX4_nextIsThrows 57 = .ok (.ireturn, 1) := by decide +kernel
theorem dX4_nextIsThrows_58 : decode cX4_nextIsThrows 58 = .ok (.iinc 5 1, 3) := by decide +kernel
theorem dX4_nextIsThrows_61 : decode cX4_nextIsThrows 61 = .ok (.goto (-46), 3) := by decide +kernel
theorem dX4_nextIsThrows_64 : decode cX4_nextIsThrows 64 = .ok (.iconst 0, 1) := by decide +kernel
theorem dX4_nextIsThrows_65 : decode cX4_nextIsThrows 65 = .ok (.ireturn, 1) := by decide +kernel
theorem dX4_asTold_0 : decode cX4_asTold 0 = .ok (.aload_n 0, 1) := by decide +kernel
theorem dX4_asTold_1 : decode cX4_asTold 1 = .ok (.getfield 50, 3) := by decide +kernel
theorem dX4_asTold_4 : decode cX4_asTold 4 = .ok (.iload_n 1, 1) := by decide +kernel
theorem dX4_asTold_5 : decode cX4_asTold 5 = .ok (.invokevirtual 94, 3) := by decide +kernel
theorem dX4_asTold_8 : decode cX4_asTold 8 = .ok (.istore_n 2, 1) := by decide +kernel
theorem dX4_asTold_9 : decode cX4_asTold 9 = .ok (.aload_n 0, 1) := by decide +kernel
theorem dX4_asTold_10 : decode cX4_asTold 10 = .ok (.getfield 50, 3) := by decide +kernel
theorem dX4_asTold_13 : decode cX4_asTold 13 = .ok (.iload_n 1, 1) := by decide +kernel
theorem dX4_asTold_14 : decode cX4_asTold 14 = .ok (.invokevirtual 97, 3) := by decide +kernel
theorem dX4_asTold_17 : decode cX4_asTold 17 = .ok (.istore_n 3, 1) := by decide +kernel
theorem dX4_asTold_18 : decode cX4_asTold 18 = .ok (.aload_n 0, 1) := by decide +kernel
theorem dX4_asTold_19 : decode cX4_asTold 19 = .ok (.getfield 50, 3) := by decide +kernel
theorem dX4_asTold_22 : decode cX4_asTold 22 = .ok (.iload_n 1, 1) := by decide +kernel
theorem dX4_asTold_23 : decode cX4_asTold 23 = .ok (.invokevirtual 67, 3) := by decide +kernel
theorem dX4_asTold_26 : decode cX4_asTold 26 = .ok (.tableswitch 262 0 13 #[70, 262, 77, 111, 133, 157, 182, 197, 204, 223, 232, 238, 244, 255], 70) := by decide +kernel
theorem dX4_asTold_96 : decode cX4_asTold 96 = .ok (.aload_n 0, 1) := by decide +kernel
theorem dX4_asTold_97 : decode cX4_asTold 97 = .ok (.iload_n 2, 1) := by decide +kernel
theorem dX4_asTold_98 : decode cX4_asTold 98 = .ok (.iload_n 3, 1) := by decide +kernel
theorem dX4_asTold_99 : decode cX4_asTold 99 = .ok (.invokevirtual 121, 3) := by decide +kernel
theorem dX4_asTold_102 : decode cX4_asTold 102 = .ok (.ireturn, 1) := by decide +kernel
theorem dX4_asTold_103 : decode cX4_asTold 103 = .ok (.aload_n 0, 1) := by decide +kernel
theorem dX4_asTold_104 : decode cX4_asTold 104 = .ok (.getfield 30, 3) := by decide +kernel
theorem dX4_asTold_107 : decode cX4_asTold 107 = .ok (.ifCond .eq 28, 3) := by decide +kernel
theorem dX4_asTold_110 : decode cX4_asTold 110 = .ok (.aload_n 0, 1) := by decide +kernel
theorem dX4_asTold_111 : decode cX4_asTold 111 = .ok (.getfield 46, 3) := by decide +kernel
theorem dX4_asTold_114 : decode cX4_asTold 114 = .ok (.invokevirtual 114, 3) := by decide +kernel
theorem dX4_asTold_117 : decode cX4_asTold 117 = .ok (.ifCond .ne 18, 3) := by decide +kernel
theorem dX4_asTold_120 : decode cX4_asTold 120 = .ok (.aload_n 0, 1) := by decide +kernel
theorem dX4_asTold_121 : decode cX4_asTold 121 = .ok (.getfield 46, 3) := by decide +kernel
theorem dX4_asTold_124 : decode cX4_asTold 124 = .ok (.invokevirtual 125, 3) := by decide +kernel
theorem dX4_asTold_127 : decode cX4_asTold 127 = .ok (.iload_n 2, 1) := by decide +kernel
theorem dX4_asTold_128 : decode cX4_asTold 128 = .ok (.if_icmp .ne 7, 3) := by decide +kernel
theorem dX4_asTold_131 : decode cX4_asTold 131 = .ok (.iconst 1, 1) := by decide +kernel
theorem dX4_asTold_132 : decode cX4_asTold 132 = .ok (.goto 4, 3) := by decide +kernel
theorem dX4_asTold_135 : decode cX4_asTold 135 = .ok (.iconst 0, 1) := by decide +kernel
theorem dX4_asTold_136 : decode cX4_asTold 136 = .ok (.ireturn, 1) := by decide +kernel
theorem dX4_asTold_137 : decode cX4_asTold 137 = .ok (.aload_n 0, 1) := by decide +kernel
theorem dX4_asTold_138 : decode cX4_asTold 138 = .ok (.getfield 30, 3) := by decide +kernel
theorem dX4_asTold_141 : decode cX4_asTold 141 = .ok (.ifCond .eq 16, 3) := by decide +kernel
theorem dX4_asTold_144 : decode cX4_asTold 144 = .ok (.aload_n 0, 1) := by decide +kernel
theorem dX4_asTold_145 : decode cX4_asTold 145 = .ok (.iload_n 2, 1) := by decide +kernel
theorem dX4_asTold_146 : decode cX4_asTold 146 = .ok (.iload_n 3, 1) := by decide +kernel
theorem dX4_asTold_147 : decode cX4_asTold 147 = .ok (.invokevirtual 128, 3) := by decide +kernel
theorem dX4_asTold_150 : decode cX4_asTold 150 = .ok (.ifCond .eq 7, 3) := by decide +kernel
theorem dX4_asTold_153 : decode cX4_asTold 153 = .ok (.iconst 1, 1) := by decide +kernel
theorem dX4_asTold_154 : decode cX4_asTold 154 = .ok (.goto 4, 3) := by decide +kernel
theorem dX4_asTold_157 : decode cX4_asTold 157 = .ok (.iconst 0, 1) := by decide +kernel
theorem dX4_asTold_158 : decode cX4_asTold 158 = .ok (.ireturn, 1) := by decide +kernel
theorem dX4_asTold_159 : decode cX4_asTold 159 = .ok (.aload_n 0, 1) := by decide +kernel
theorem dX4_asTold_160 : decode cX4_asTold 160 = .ok (.getfield 30, 3) := by decide +kernel
theorem dX4_asTold_163 : decode cX4_asTold 163 = .ok (.ifCond .eq 18, 3) := by decide +kernel
theorem dX4_asTold_166 : decode cX4_asTold 166 = .ok (.aload_n 0, 1) := by decide +kernel
theorem dX4_asTold_167 : decode cX4_asTold 167 = .ok (.getfield 46, 3) := by decide +kernel
theorem dX4_asTold_170 : decode cX4_asTold 170 = .ok (.invokevirtual 131, 3) := by decide +kernel
theorem dX4_asTold_173 : decode cX4_asTold 173 = .ok (.iload_n 2, 1) := by decide +kernel
theorem dX4_asTold_174 : decode cX4_asTold 174 = .ok (.if_icmp .gt 7, 3) := by decide +kernel
theorem dX4_asTold_177 : decode cX4_asTold 177 = .ok (.iconst 1, 1) := by decide +kernel
theorem dX4_asTold_178 : decode cX4_asTold 178 = .ok (.goto 4, 3) := by decide +kernel
theorem dX4_asTold_181 : decode cX4_asTold 181 = .ok (.iconst 0, 1) := by decide +kernel
theorem dX4_asTold_182 : decode cX4_asTold 182 = .ok (.ireturn, 1) := by decide +kernel
theorem dX4_asTold_183 : decode cX4_asTold 183 = .ok (.iload_n 2, 1) := by decide +kernel
theorem dX4_asTold_184 : decode cX4_asTold 184 = .ok (.invokestatic 134, 3) := by decide +kernel
theorem dX4_asTold_187 : decode cX4_asTold 187 = .ok (.ifCond .eq 19, 3) := by decide +kernel
theorem dX4_asTold_190 : decode cX4_asTold 190 = .ok (.aload_n 0, 1) := by decide +kernel
theorem dX4_asTold_191 : decode cX4_asTold 191 = .ok (.getfield 34, 3) := by decide +kernel
theorem dX4_asTold_194 : decode cX4_asTold 194 = .ok (.iload_n 2, 1) := by decide +kernel
theorem dX4_asTold_195 : decode cX4_asTold 195 = .ok (.invokevirtual 137, 3) := by decide +kernel
theorem dX4_asTold_198 : decode cX4_asTold 198 = .ok (.iload_n 3, 1) := by decide +kernel
theorem dX4_asTold_199 : decode cX4_asTold 199 = .ok (.if_icmp .ne 7, 3) := by decide +kernel
theorem dX4_asTold_202 : decode cX4_asTold 202 = .ok (.iconst 1, 1) := by decide +kernel
theorem dX4_asTold_203 : decode cX4_asTold 203 = .ok (.goto 4, 3) := by decide +kernel
theorem dX4_asTold_206 : decode cX4_asTold 206 = .ok (.iconst 0, 1) := by decide +kernel
theorem dX4_asTold_207 : decode cX4_asTold 207 = .ok (.ireturn, 1) := by decide +kernel
theorem dX4_asTold_208 : decode cX4_asTold 208 = .ok (.aload_n 0, 1) := by decide +kernel
theorem dX4_asTold_209 : decode cX4_asTold 209 = .ok (.iload_n 2, 1) := by decide +kernel
theorem dX4_asTold_210 : decode cX4_asTold 210 = .ok (.iload_n 3, 1) := by decide +kernel
theorem dX4_asTold_211 : decode cX4_asTold 211 = .ok (.aload_n 0, 1) := by decide +kernel
theorem dX4_asTold_212 : decode cX4_asTold 212 = .ok (.getfield 50, 3) := by decide +kernel
theorem dX4_asTold_215 : decode cX4_asTold 215 = .ok (.iload_n 1, 1) := by decide +kernel
theorem dX4_asTold_216 : decode cX4_asTold 216 = .ok (.invokevirtual 105, 3) := by decide +kernel
theorem dX4_asTold_219 : decode cX4_asTold 219 = .ok (.invokevirtual 140, 3) := by decide +kernel
theorem dX4_asTold_222 : decode cX4_asTold 222 = .ok (.ireturn, 1) := by decide +kernel
theorem dX4_asTold_223 : decode cX4_asTold 223 = .ok (.aload_n 0, 1) := by decide +kernel
theorem dX4_asTold_224 : decode cX4_asTold 224 = .ok (.iload_n 2, 1) := by decide +kernel
theorem dX4_asTold_225 : decode cX4_asTold 225 = .ok (.iload_n 3, 1) := by decide +kernel
theorem dX4_asTold_226 : decode cX4_asTold 226 = .ok (.invokevirtual 143, 3) := by decide +kernel
theorem dX4_asTold_229 : decode cX4_asTold 229 = .ok (.ireturn, 1) := by decide +kernel
theorem dX4_asTold_230 : decode cX4_asTold 230 = .ok (.aload_n 0, 1) := by decide +kernel
theorem dX4_asTold_231 : decode cX4_asTold 231 = .ok (.getfield 34, 3) := by decide +kernel
theorem dX4_asTold_234 : decode cX4_asTold 234 = .ok (.invokevirtual 146, 3) := by decide +kernel
theorem dX4_asTold_237 : decode cX4_asTold 237 = .ok (.iload_n 2, 1) := by decide +kernel
theorem dX4_asTold_238 : decode cX4_asTold 238 = .ok (.i2l, 1) := by decide +kernel
theorem dX4_asTold_239 : decode cX4_asTold 239 = .ok (.lcmp, 1) := by decide +kernel
theorem dX4_asTold_240 : decode cX4_asTold 240 = .ok (.ifCond .ne 7, 3) := by decide +kernel
theorem dX4_asTold_243 : decode cX4_asTold 243 = .ok (.iconst 1, 1) := by decide +kernel
theorem dX4_asTold_244 : decode cX4_asTold 244 = .ok (.goto 4, 3) := by decide +kernel
theorem dX4_asTold_247 : decode cX4_asTold 247 = .ok (.iconst 0, 1) := by decide +kernel
theorem dX4_asTold_248 : decode cX4_asTold 248 = .ok (.ireturn, 1) := by decide +kernel
theorem dX4_asTold_249 : decode cX4_asTold 249 = .ok (.aload_n 0, 1) := by decide +kernel
theorem dX4_asTold_250 : decode cX4_asTold 250 = .ok (.getfield 34, 3) := by decide +kernel
theorem dX4_asTold_253 : decode cX4_asTold 253 = .ok (.iload_n 2, 1) := by decide +kernel
theorem dX4_asTold_254 : decode cX4_asTold 254 = .ok (.invokevirtual 150, 3) := by decide +kernel
theorem dX4_asTold_257 : decode cX4_asTold 257 = .ok (.ireturn, 1) := by decide +kernel
theorem dX4_asTold_258 : decode cX4_asTold 258 = .ok (.aload_n 0, 1) := by decide +kernel
theorem dX4_asTold_259 : decode cX4_asTold 259 = .ok (.iload_n 2, 1) := by decide +kernel
theorem dX4_asTold_260 : decode cX4_asTold 260 = .ok (.invokevirtual 153, 3) := by decide +kernel
theorem dX4_asTold_263 : decode cX4_asTold 263 = .ok (.ireturn, 1) := by decide +kernel
theorem dX4_asTold_264 : decode cX4_asTold 264 = .ok (.aload_n 0, 1) := by decide +kernel
theorem dX4_asTold_265 : decode cX4_asTold 265 = .ok (.iload_n 2, 1) := by decide +kernel
theorem dX4_asTold_266 : decode cX4_asTold 266 = .ok (.invokevirtual 156, 3) := by decide +kernel
theorem dX4_asTold_269 : decode cX4_asTold 269 = .ok (.ireturn, 1) := by decide +kernel
theorem dX4_asTold_270 : decode cX4_asTold 270 = .ok (.aload_n 0, 1) := by decide +kernel
theorem dX4_asTold_271 : decode cX4_asTold 271 = .ok (.getfield 42, 3) := by decide +kernel
theorem dX4_asTold_274 : decode cX4_asTold 274 = .ok (.iload_n 2, 1) := by decide +kernel
theorem dX4_asTold_275 : decode cX4_asTold 275 = .ok (.iconst 1, 1) := by decide +kernel
theorem dX4_asTold_276 : decode cX4_asTold 276 = .ok (.iload_n 3, 1) := by decide +kernel
theorem dX4_asTold_277 : decode cX4_asTold 277 = .ok (.invokevirtual 159, 3) := by decide +kernel
theorem dX4_asTold_280 : decode cX4_asTold 280 = .ok (.ireturn, 1) := by decide +kernel
theorem dX4_asTold_281 : decode cX4_asTold 281 = .ok (.aload_n 0, 1) := by decide +kernel
theorem dX4_asTold_282 : decode cX4_asTold 282 = .ok (.iload_n 2, 1) := by decide +kernel
theorem dX4_asTold_283 : decode cX4_asTold 283 = .ok (.iload_n 3, 1) := by decide +kernel
theorem dX4_asTold_284 : decode cX4_asTold 284 = .ok (.invokevirtual 162, 3) := by decide +kernel
theorem dX4_asTold_287 : decode cX4_asTold 287 = .ok (.ireturn, 1) := by decide +kernel
theorem dX4_asTold_288 : decode cX4_asTold 288 = .ok (.iconst 0, 1) := by decide +kernel
theorem dX4_asTold_289 : decode cX4_asTold 289 = .ok (.ireturn, 1) := by decide +kernel
theorem dX4_callsAreBy_0 : decode cX4_callsAreBy 0 = .ok (.iload_n 1, 1) := by decide +kernel
theorem dX4_callsAreBy_1 : decode cX4_callsAreBy 1 = .ok (.invokestatic 134, 3) := by decide +kernel
theorem dX4_callsAreBy_4 : decode cX4_callsAreBy 4 = .ok (.ifCond .eq 7, 3) := by decide +kernel
theorem dX4_callsAreBy_7 : decode cX4_callsAreBy 7 = .ok (.iload_n 2, 1) := by decide +kernel
theorem dX4_callsAreBy_8 : decode cX4_callsAreBy 8 = .ok (.ifCond .ge 5, 3) := by decide +kernel
theorem dX4_callsAreBy_11 : decode cX4_callsAreBy 11 = .ok (.iconst 0, 1) := by decide +kernel
theorem dX4_callsAreBy_12 : decode cX4_callsAreBy 12 = .ok (.ireturn, 1) := by decide +kernel
theorem dX4_callsAreBy_13 : decode cX4_callsAreBy 13 = .ok (.aload_n 0, 1) := by decide +kernel
theorem dX4_callsAreBy_14 : decode cX4_callsAreBy 14 = .ok (.iload_n 1, 1) := by decide +kernel
theorem dX4_callsAreBy_15 : decode cX4_callsAreBy 15 = .ok (.putfield 17, 3) := by decide +kernel
theorem dX4_callsAreBy_18 : decode cX4_callsAreBy 18 = .ok (.aload_n 0, 1) := by decide +kernel
theorem dX4_callsAreBy_19 : decode cX4_callsAreBy 19 = .ok (.iload_n 2, 1) := by decide +kernel
theorem dX4_callsAreBy_20 : decode cX4_callsAreBy 20 = .ok (.putfield 21, 3) := by decide +kernel
theorem dX4_callsAreBy_23 : decode cX4_callsAreBy 23 = .ok (.iconst 1, 1) := by decide +kernel
theorem dX4_callsAreBy_24 : decode cX4_callsAreBy 24 = .ok (.ireturn, 1) := by decide +kernel
theorem dX4_threwThat_0 : decode cX4_threwThat 0 = .ok (.aload_n 0, 1) := by decide +kernel
theorem dX4_threwThat_1 : decode cX4_threwThat 1 = .ok (.getfield 46, 3) := by decide +kernel
theorem dX4_threwThat_4 : decode cX4_threwThat 4 = .ok (.invokevirtual 114, 3) := by decide +kernel
theorem dX4_threwThat_7 : decode cX4_threwThat 7 = .ok (.ifCond .eq 29, 3) := by decide +kernel
theorem dX4_threwThat_10 : decode cX4_threwThat 10 = .ok (.aload_n 0, 1) := by decide +kernel
theorem dX4_threwThat_11 : decode cX4_threwThat 11 = .ok (.getfield 46, 3) := by decide +kernel
theorem dX4_threwThat_14 : decode cX4_threwThat 14 = .ok (.invokevirtual 165, 3) := by decide +kernel
theorem dX4_threwThat_17 : decode cX4_threwThat 17 = .ok (.iload_n 1, 1) := by decide +kernel
theorem dX4_threwThat_18 : decode cX4_threwThat 18 = .ok (.if_icmp .ne 18, 3) := by decide +kernel
theorem dX4_threwThat_21 : decode cX4_threwThat 21 = .ok (.aload_n 0, 1) := by decide +kernel
theorem dX4_threwThat_22 : decode cX4_threwThat 22 = .ok (.getfield 46, 3) := by decide +kernel
theorem dX4_threwThat_25 : decode cX4_threwThat 25 = .ok (.invokevirtual 168, 3) := by decide +kernel
theorem dX4_threwThat_28 : decode cX4_threwThat 28 = .ok (.iload_n 2, 1) := by decide +kernel
theorem dX4_threwThat_29 : decode cX4_threwThat 29 = .ok (.if_icmp .ne 7, 3) := by decide +kernel
theorem dX4_threwThat_32 : decode cX4_threwThat 32 = .ok (.iconst 1, 1) := by decide +kernel
theorem dX4_threwThat_33 : decode cX4_threwThat 33 = .ok (.goto 4, 3) := by decide +kernel
theorem dX4_threwThat_36 : decode cX4_threwThat 36 = .ok (.iconst 0, 1) := by decide +kernel
theorem dX4_threwThat_37 : decode cX4_threwThat 37 = .ok (.ireturn, 1) := by decide +kernel
theorem dX4_cellIs_0 : decode cX4_cellIs 0 = .ok (.aload_n 0, 1) := by decide +kernel
theorem dX4_cellIs_1 : decode cX4_cellIs 1 = .ok (.getfield 38, 3) := by decide +kernel
theorem dX4_cellIs_4 : decode cX4_cellIs 4 = .ok (.iload_n 1, 1) := by decide +kernel
theorem dX4_cellIs_5 : decode cX4_cellIs 5 = .ok (.invokevirtual 171, 3) := by decide +kernel
theorem dX4_cellIs_8 : decode cX4_cellIs 8 = .ok (.ifCond .eq 27, 3) := by decide +kernel
theorem dX4_cellIs_11 : decode cX4_cellIs 11 = .ok (.iload_n 2, 1) := by decide +kernel
theorem dX4_cellIs_12 : decode cX4_cellIs 12 = .ok (.invokestatic 174, 3) := by decide +kernel
theorem dX4_cellIs_15 : decode cX4_cellIs 15 = .ok (.ifCond .eq 20, 3) := by decide +kernel
theorem dX4_cellIs_18 : decode cX4_cellIs 18 = .ok (.aload_n 0, 1) := by decide +kernel
theorem dX4_cellIs_19 : decode cX4_cellIs 19 = .ok (.getfield 34, 3) := by decide +kernel
theorem dX4_cellIs_22 : decode cX4_cellIs 22 = .ok (.iload_n 1, 1) := by decide +kernel
theorem dX4_cellIs_23 : decode cX4_cellIs 23 = .ok (.iload_n 2, 1) := by decide +kernel
theorem dX4_cellIs_24 : decode cX4_cellIs 24 = .ok (.invokevirtual 177, 3) := by decide +kernel
theorem dX4_cellIs_27 : decode cX4_cellIs 27 = .ok (.iload_n 3, 1) := by decide +kernel
theorem dX4_cellIs_28 : decode cX4_cellIs 28 = .ok (.if_icmp .ne 7, 3) := by decide +kernel
theorem dX4_cellIs_31 : decode cX4_cellIs 31 = .ok (.iconst 1, 1) := by decide +kernel
theorem dX4_cellIs_32 : decode cX4_cellIs 32 = .ok (.goto 4, 3) := by decide +kernel
theorem dX4_cellIs_35 : decode cX4_cellIs 35 = .ok (.iconst 0, 1) := by decide +kernel
theorem dX4_cellIs_36 : decode cX4_cellIs 36 = .ok (.ireturn, 1) := by decide +kernel
theorem dX4_eventIs_0 : decode cX4_eventIs 0 = .ok (.iload_n 1, 1) := by decide +kernel
theorem dX4_eventIs_1 : decode cX4_eventIs 1 = .ok (.ifCond .lt 40, 3) := by decide +kernel
theorem dX4_eventIs_4 : decode cX4_eventIs 4 = .ok (.iload_n 1, 1) := by decide +kernel
theorem dX4_eventIs_5 : decode cX4_eventIs 5 = .ok (.aload_n 0, 1) := by decide +kernel
theorem dX4_eventIs_6 : decode cX4_eventIs 6 = .ok (.getfield 34, 3) := by decide +kernel
theorem dX4_eventIs_9 : decode cX4_eventIs 9 = .ok (.invokevirtual 90, 3) := by decide +kernel
theorem dX4_eventIs_12 : decode cX4_eventIs 12 = .ok (.aload_n 0, 1) := by decide +kernel
theorem dX4_eventIs_13 : decode cX4_eventIs 13 = .ok (.getfield 27, 3) := by decide +kernel
theorem dX4_eventIs_16 : decode cX4_eventIs 16 = .ok (.isub, 1) := by decide +kernel
theorem dX4_eventIs_17 : decode cX4_eventIs 17 = .ok (.if_icmp .ge 24, 3) := by decide +kernel
theorem dX4_eventIs_20 : decode cX4_eventIs 20 = .ok (.aload_n 0, 1) := by decide +kernel
theorem dX4_eventIs_21 : decode cX4_eventIs 21 = .ok (.getfield 34, 3) := by decide +kernel
theorem dX4_eventIs_24 : decode cX4_eventIs 24 = .ok (.aload_n 0, 1) := by decide +kernel
theorem dX4_eventIs_25 : decode cX4_eventIs 25 = .ok (.getfield 27, 3) := by decide +kernel
theorem dX4_eventIs_28 : decode cX4_eventIs 28 = .ok (.iload_n 1, 1) := by decide +kernel
theorem dX4_eventIs_29 : decode cX4_eventIs 29 = .ok (.iadd, 1) := by decide +kernel
theorem dX4_eventIs_30 : decode cX4_eventIs 30 = .ok (.invokevirtual 180, 3) := by decide +kernel
theorem dX4_eventIs_33 : decode cX4_eventIs 33 = .ok (.iload_n 2, 1) := by decide +kernel
theorem dX4_eventIs_34 : decode cX4_eventIs 34 = .ok (.if_icmp .ne 7, 3) := by decide +kernel
theorem dX4_eventIs_37 : decode cX4_eventIs 37 = .ok (.iconst 1, 1) := by decide +kernel
theorem dX4_eventIs_38 : decode cX4_eventIs 38 = .ok (.goto 4, 3) := by decide +kernel
theorem dX4_eventIs_41 : decode cX4_eventIs 41 = .ok (.iconst 0, 1) := by decide +kernel
theorem dX4_eventIs_42 : decode cX4_eventIs 42 = .ok (.ireturn, 1) := by decide +kernel
theorem dX4_isFork_0 : decode cX4_isFork 0 = .ok (.iload_n 0, 1) := by decide +kernel
theorem dX4_isFork_1 : decode cX4_isFork 1 = .ok (.ifCond .lt 12, 3) := by decide +kernel
theorem dX4_isFork_4 : decode cX4_isFork 4 = .ok (.iload_n 0, 1) := by decide +kernel
theorem dX4_isFork_5 : decode cX4_isFork 5 = .ok (.iconst 3, 1) := by decide +kernel
theorem dX4_isFork_6 : decode cX4_isFork 6 = .ok (.if_icmp .ge 7, 3) := by decide +kernel
theorem dX4_isFork_9 : decode cX4_isFork 9 = .ok (.iconst 1, 1) := by decide +kernel
theorem dX4_isFork_10 : decode cX4_isFork 10 = .ok (.goto 4, 3) := by decide +kernel
theorem dX4_isFork_13 : decode cX4_isFork 13 = .ok (.iconst 0, 1) := by decide +kernel
theorem dX4_isFork_14 : decode cX4_isFork 14 = .ok (.ireturn, 1) := by decide +kernel
theorem dX4_keepsFork_0 : decode cX4_keepsFork 0 = .ok (.iload_n 1, 1) := by decide +kernel
theorem dX4_keepsFork_1 : decode cX4_keepsFork 1 = .ok (.invokestatic 183, 3) := by decide +kernel
theorem dX4_keepsFork_4 : decode cX4_keepsFork 4 = .ok (.ifCond .ne 5, 3) := by decide +kernel
theorem dX4_keepsFork_7 : decode cX4_keepsFork 7 = .ok (.iconst 0, 1) := by decide +kernel
theorem dX4_keepsFork_8 : decode cX4_keepsFork 8 = .ok (.ireturn, 1) := by decide +kernel
theorem dX4_keepsFork_9 : decode cX4_keepsFork 9 = .ok (.aload_n 0, 1) := by decide +kernel
theorem dX4_keepsFork_10 : decode cX4_keepsFork 10 = .ok (.dup, 1) := by decide +kernel
theorem dX4_keepsFork_11 : decode cX4_keepsFork 11 = .ok (.getfield 24, 3) := by decide +kernel
theorem dX4_keepsFork_14 : decode cX4_keepsFork 14 = .ok (.iconst 1, 1) := by decide +kernel
theorem dX4_keepsFork_15 : decode cX4_keepsFork 15 = .ok (.iload_n 1, 1) := by decide +kernel
theorem dX4_keepsFork_16 : decode cX4_keepsFork 16 = .ok (.ishl, 1) := by decide +kernel
theorem dX4_keepsFork_17 : decode cX4_keepsFork 17 = .ok (.ior, 1) := by decide +kernel
theorem dX4_keepsFork_18 : decode cX4_keepsFork 18 = .ok (.putfield 24, 3) := by decide +kernel
theorem dX4_keepsFork_21 : decode cX4_keepsFork 21 = .ok (.aload_n 0, 1) := by decide +kernel
theorem dX4_keepsFork_22 : decode cX4_keepsFork 22 = .ok (.getfield 34, 3) := by decide +kernel
theorem dX4_keepsFork_25 : decode cX4_keepsFork 25 = .ok (.aload_n 0, 1) := by decide +kernel
theorem dX4_keepsFork_26 : decode cX4_keepsFork 26 = .ok (.getfield 13, 3) := by decide +kernel
theorem dX4_keepsFork_29 : decode cX4_keepsFork 29 = .ok (.iload_n 1, 1) := by decide +kernel
theorem dX4_keepsFork_30 : decode cX4_keepsFork 30 = .ok (.invokevirtual 87, 3) := by decide +kernel
theorem dX4_keepsFork_33 : decode cX4_keepsFork 33 = .ok (.ireturn, 1) := by decide +kernel
theorem dX4_goesBack_0 : decode cX4_goesBack 0 = .ok (.iload_n 1, 1) := by decide +kernel
theorem dX4_goesBack_1 : decode cX4_goesBack 1 = .ok (.invokestatic 183, 3) := by decide +kernel
theorem dX4_goesBack_4 : decode cX4_goesBack 4 = .ok (.ifCond .eq 34, 3) := by decide +kernel
theorem dX4_goesBack_7 : decode cX4_goesBack 7 = .ok (.aload_n 0, 1) := by decide +kernel
theorem dX4_goesBack_8 : decode cX4_goesBack 8 = .ok (.getfield 24, 3) := by decide +kernel
theorem dX4_goesBack_11 : decode cX4_goesBack 11 = .ok (.iload_n 1, 1) := by decide +kernel
theorem dX4_goesBack_12 : decode cX4_goesBack 12 = .ok (.ishr, 1) := by decide +kernel
theorem dX4_goesBack_13 : decode cX4_goesBack 13 = .ok (.iconst 1, 1) := by decide +kernel
theorem dX4_goesBack_14 : decode cX4_goesBack 14 = .ok (.iand, 1) := by decide +kernel
theorem dX4_goesBack_15 : decode cX4_goesBack 15 = .ok (.iconst 1, 1) := by decide +kernel
theorem dX4_goesBack_16 : decode cX4_goesBack 16 = .ok (.if_icmp .ne 22, 3) := by decide +kernel
theorem dX4_goesBack_19 : decode cX4_goesBack 19 = .ok (.aload_n 0, 1) := by decide +kernel
theorem dX4_goesBack_20 : decode cX4_goesBack 20 = .ok (.getfield 34, 3) := by decide +kernel
theorem dX4_goesBack_23 : decode cX4_goesBack 23 = .ok (.aload_n 0, 1) := by decide +kernel
theorem dX4_goesBack_24 : decode cX4_goesBack 24 = .ok (.getfield 13, 3) := by decide +kernel
theorem dX4_goesBack_27 : decode cX4_goesBack 27 = .ok (.iload_n 1, 1) := by decide +kernel
theorem dX4_goesBack_28 : decode cX4_goesBack 28 = .ok (.invokevirtual 83, 3) := by decide +kernel
theorem dX4_goesBack_31 : decode cX4_goesBack 31 = .ok (.ifCond .eq 7, 3) := by decide +kernel
theorem dX4_goesBack_34 : decode cX4_goesBack 34 = .ok (.iconst 1, 1) := by decide +kernel
theorem dX4_goesBack_35 : decode cX4_goesBack 35 = .ok (.goto 4, 3) := by decide +kernel
theorem dX4_goesBack_38 : decode cX4_goesBack 38 = .ok (.iconst 0, 1) := by decide +kernel
theorem dX4_goesBack_39 : decode cX4_goesBack 39 = .ok (.ireturn, 1) := by decide +kernel
theorem dX4_faceFails_0 : decode cX4_faceFails 0 = .ok (.iload_n 2, 1) := by decide +kernel
theorem dX4_faceFails_1 : decode cX4_faceFails 1 = .ok (.ifCond .lt 25, 3) := by decide +kernel
theorem dX4_faceFails_4 : decode cX4_faceFails 4 = .ok (.iload_n 2, 1) := by decide +kernel
theorem dX4_faceFails_5 : decode cX4_faceFails 5 = .ok (.iconst 5, 1) := by decide +kernel
theorem dX4_faceFails_6 : decode cX4_faceFails 6 = .ok (.if_icmp .gt 20, 3) := by decide +kernel
theorem dX4_faceFails_9 : decode cX4_faceFails 9 = .ok (.aload_n 0, 1) := by decide +kernel
theorem dX4_faceFails_10 : decode cX4_faceFails 10 = .ok (.getfield 42, 3) := by decide +kernel
theorem dX4_faceFails_13 : decode cX4_faceFails 13 = .ok (.iload_n 1, 1) := by decide +kernel
theorem dX4_faceFails_14 : decode cX4_faceFails 14 = .ok (.iconst 2, 1) := by decide +kernel
theorem dX4_faceFails_15 : decode cX4_faceFails 15 = .ok (.iload_n 2, 1) := by decide +kernel
theorem dX4_faceFails_16 : decode cX4_faceFails 16 = .ok (.invokevirtual 159, 3) := by decide +kernel
theorem dX4_faceFails_19 : decode cX4_faceFails 19 = .ok (.ifCond .eq 7, 3) := by decide +kernel
theorem dX4_faceFails_22 : decode cX4_faceFails 22 = .ok (.iconst 1, 1) := by decide +kernel
theorem dX4_faceFails_23 : decode cX4_faceFails 23 = .ok (.goto 4, 3) := by decide +kernel
theorem dX4_faceFails_26 : decode cX4_faceFails 26 = .ok (.iconst 0, 1) := by decide +kernel
theorem dX4_faceFails_27 : decode cX4_faceFails 27 = .ok (.ireturn, 1) := by decide +kernel
theorem dX5_init_0 : decode cX5_init 0 = .ok (.aload_n 0, 1) := by decide +kernel
theorem dX5_init_1 : decode cX5_init 1 = .ok (.invokespecial 5, 3) := by decide +kernel
theorem dX5_init_4 : decode cX5_init 4 = .ok (.aload_n 0, 1) := by decide +kernel
theorem dX5_init_5 : decode cX5_init 5 = .ok (.bipush 6, 2) := by decide +kernel
theorem dX5_init_7 : decode cX5_init 7 = .ok (.newarray .int, 2) := by decide +kernel
theorem dX5_init_9 : decode cX5_init 9 = .ok (.putfield 11, 3) := by decide +kernel
theorem dX5_init_12 : decode cX5_init 12 = .ok (.aload_n 0, 1) := by decide +kernel
theorem dX5_init_13 : decode cX5_init 13 = .ok (.bipush 96, 2) := by decide +kernel
theorem dX5_init_15 : decode cX5_init 15 = .ok (.newarray .int, 2) := by decide +kernel
theorem dX5_init_17 : decode cX5_init 17 = .ok (.putfield 15, 3) := by decide +kernel
theorem dX5_init_20 : decode cX5_init 20 = .ok (.aload_n 0, 1) := by decide +kernel
theorem dX5_init_21 : decode cX5_init 21 = .ok (.bipush 96, 2) := by decide +kernel
theorem dX5_init_23 : decode cX5_init 23 = .ok (.newarray .int, 2) := by decide +kernel
theorem dX5_init_25 : decode cX5_init 25 = .ok (.putfield 18, 3) := by decide +kernel
theorem dX5_init_28 : decode cX5_init 28 = .ok (.aload_n 0, 1) := by decide +kernel
theorem dX5_init_29 : decode cX5_init 29 = .ok (.bipush 96, 2) := by decide +kernel
theorem dX5_init_31 : decode cX5_init 31 = .ok (.newarray .int, 2) := by decide +kernel
theorem dX5_init_33 : decode cX5_init 33 = .ok (.putfield 21, 3) := by decide +kernel
theorem dX5_init_36 : decode cX5_init 36 = .ok (.aload_n 0, 1) := by decide +kernel
theorem dX5_init_37 : decode cX5_init 37 = .ok (.bipush 96, 2) := by decide +kernel
theorem dX5_init_39 : decode cX5_init 39 = .ok (.newarray .int, 2) := by decide +kernel
theorem dX5_init_41 : decode cX5_init 41 = .ok (.putfield 24, 3) := by decide +kernel
theorem dX5_init_44 : decode cX5_init 44 = .ok (.return_, 1) := by decide +kernel
theorem dX5_isTest_0 : decode cX5_isTest 0 = .ok (.iload_n 0, 1) := by decide +kernel
theorem dX5_isTest_1 : decode cX5_isTest 1 = .ok (.ifCond .lt 13, 3) := by decide +kernel
theorem dX5_isTest_4 : decode cX5_isTest 4 = .ok (.iload_n 0, 1) := by decide +kernel
theorem dX5_isTest_5 : decode cX5_isTest 5 = .ok (.bipush 6, 2) := by decide +kernel
theorem dX5_isTest_7 : decode cX5_isTest 7 = .ok (.if_icmp .ge 7, 3) := by decide +kernel
theorem dX5_isTest_10 : decode cX5_isTest 10 = .ok (.iconst 1, 1) := by decide +kernel
theorem dX5_isTest_11 : decode cX5_isTest 11 = .ok (.goto 4, 3) := by decide +kernel
theorem dX5_isTest_14 : decode cX5_isTest 14 = .ok (.iconst 0, 1) := by decide +kernel
theorem dX5_isTest_15 : decode cX5_isTest 15 = .ok (.ireturn, 1) := by decide +kernel
theorem dX5_wordPlace_0 : decode cX5_wordPlace 0 = .ok (.iconst 0, 1) := by decide +kernel
theorem dX5_wordPlace_1 : decode cX5_wordPlace 1 = .ok (.istore_n 2, 1) := by decide +kernel
theorem dX5_wordPlace_2 : decode cX5_wordPlace 2 = .ok (.iload_n 2, 1) := by decide +kernel
theorem dX5_wordPlace_3 : decode cX5_wordPlace 3 = .ok (.getstatic 27, 3) := by decide +kernel
theorem dX5_wordPlace_6 : decode cX5_wordPlace 6 = .ok (.arraylength, 1) := by decide +kernel
theorem dX5_wordPlace_7 : decode cX5_wordPlace 7 = .ok (.if_icmp .ge 21, 3) := by decide +kernel
theorem dX5_wordPlace_10 : decode cX5_wordPlace 10 = .ok (.getstatic 27, 3) := by decide +kernel
theorem dX5_wordPlace_13 : decode cX5_wordPlace 13 = .ok (.iload_n 2, 1) := by decide +kernel
theorem dX5_wordPlace_14 : decode cX5_wordPlace 14 = .ok (.laload, 1) := by decide +kernel
theorem dX5_wordPlace_15 : decode cX5_wordPlace 15 = .ok (.lload_n 0, 1) := by decide +kernel
theorem dX5_wordPlace_16 : decode cX5_wordPlace 16 = .ok (.lcmp, 1) := by decide +kernel
theorem dX5_wordPlace_17 : decode cX5_wordPlace 17 = .ok (.ifCond .ne 5, 3) := by decide +kernel
theorem dX5_wordPlace_20 : decode cX5_wordPlace 20 = .ok (.iload_n 2, 1) := by decide +kernel
theorem dX5_wordPlace_21 : decode cX5_wordPlace 21 = .ok (.ireturn, 1) := by decide +kernel
theorem dX5_wordPlace_22 : decode cX5_wordPlace 22 = .ok (.iinc 2 1, 3) := by decide +kernel
theorem dX5_wordPlace_25 : decode cX5_wordPlace 25 = .ok (.goto (-23), 3) := by decide +kernel
theorem dX5_wordPlace_28 : decode cX5_wordPlace 28 = .ok (.iconst (-1), 1) := by decide +kernel
theorem dX5_wordPlace_29 : decode cX5_wordPlace 29 = .ok (.ireturn, 1) := by decide +kernel
theorem dX5_size_0 : decode cX5_size 0 = .ok (.iload_n 1, 1) := by decide +kernel
theorem dX5_size_1 : decode cX5_size 1 = .ok (.ifCond .lt 18, 3) := by decide +kernel
theorem dX5_size_4 : decode cX5_size 4 = .ok (.iload_n 1, 1) := by decide +kernel
theorem dX5_size_5 : decode cX5_size 5 = .ok (.bipush 6, 2) := by decide +kernel
theorem dX5_size_7 : decode cX5_size 7 = .ok (.if_icmp .ge 12, 3) := by decide +kernel
theorem dX5_size_10 : decode cX5_size 10 = .ok (.aload_n 0, 1) := by decide +kernel
theorem dX5_size_11 : decode cX5_size 11 = .ok (.getfield 11, 3) := by decide +kernel
theorem dX5_size_14 : decode cX5_size 14 = .ok (.iload_n 1, 1) := by decide +kernel
theorem dX5_size_15 : decode cX5_size 15 = .ok (.iaload, 1) := by decide +kernel
theorem dX5_size_16 : decode cX5_size 16 = .ok (.goto 4, 3) := by decide +kernel
theorem dX5_size_19 : decode cX5_size 19 = .ok (.iconst 0, 1) := by decide +kernel
theorem dX5_size_20 : decode cX5_size 20 = .ok (.ireturn, 1) := by decide +kernel
theorem dX5_slotOf_0 : decode cX5_slotOf 0 = .ok (.iload_n 1, 1) := by decide +kernel
theorem dX5_slotOf_1 : decode cX5_slotOf 1 = .ok (.ifCond .lt 33, 3) := by decide +kernel
theorem dX5_slotOf_4 : decode cX5_slotOf 4 = .ok (.iload_n 1, 1) := by decide +kernel
theorem dX5_slotOf_5 : decode cX5_slotOf 5 = .ok (.bipush 6, 2) := by decide +kernel
theorem dX5_slotOf_7 : decode cX5_slotOf 7 = .ok (.if_icmp .ge 27, 3) := by decide +kernel
theorem dX5_slotOf_10 : decode cX5_slotOf 10 = .ok (.iload_n 2, 1) := by decide +kernel
theorem dX5_slotOf_11 : decode cX5_slotOf 11 = .ok (.ifCond .lt 23, 3) := by decide +kernel
theorem dX5_slotOf_14 : decode cX5_slotOf 14 = .ok (.iload_n 2, 1) := by decide +kernel
theorem dX5_slotOf_15 : decode cX5_slotOf 15 = .ok (.bipush 16, 2) := by decide +kernel
theorem dX5_slotOf_17 : decode cX5_slotOf 17 = .ok (.if_icmp .ge 17, 3) := by decide +kernel
theorem dX5_slotOf_20 : decode cX5_slotOf 20 = .ok (.iload_n 2, 1) := by decide +kernel
theorem dX5_slotOf_21 : decode cX5_slotOf 21 = .ok (.aload_n 0, 1) := by decide +kernel
theorem dX5_slotOf_22 : decode cX5_slotOf 22 = .ok (.getfield 11, 3) := by decide +kernel
theorem dX5_slotOf_25 : decode cX5_slotOf 25 = .ok (.iload_n 1, 1) := by decide +kernel
theorem dX5_slotOf_26 : decode cX5_slotOf 26 = .ok (.iaload, 1) := by decide +kernel
theorem dX5_slotOf_27 : decode cX5_slotOf 27 = .ok (.if_icmp .ge 7, 3) := by decide +kernel
theorem dX5_slotOf_30 : decode cX5_slotOf 30 = .ok (.iconst 1, 1) := by decide +kernel
theorem dX5_slotOf_31 : decode cX5_slotOf 31 = .ok (.goto 4, 3) := by decide +kernel
theorem dX5_slotOf_34 : decode cX5_slotOf 34 = .ok (.iconst 0, 1) := by decide +kernel
theorem dX5_slotOf_35 : decode cX5_slotOf 35 = .ok (.istore_n 3, 1) := by decide +kernel
theorem dX5_slotOf_36 : decode cX5_slotOf 36 = .ok (.iload_n 3, 1) := by decide +kernel
theorem dX5_slotOf_37 : decode cX5_slotOf 37 = .ok (.ifCond .eq 12, 3) := by decide +kernel
theorem dX5_slotOf_40 : decode cX5_slotOf 40 = .ok (.iload_n 1, 1) := by decide +kernel
theorem dX5_slotOf_41 : decode cX5_slotOf 41 = .ok (.bipush 16, 2) := by decide +kernel
theorem dX5_slotOf_43 : decode cX5_slotOf 43 = .ok (.imul, 1) := by decide +kernel
theorem dX5_slotOf_44 : decode cX5_slotOf 44 = .ok (.iload_n 2, 1) := by decide +kernel
theorem dX5_slotOf_45 : decode cX5_slotOf 45 = .ok (.iadd, 1) := by decide +kernel
theorem dX5_slotOf_46 : decode cX5_slotOf 46 = .ok (.goto 4, 3) := by decide +kernel
theorem dX5_slotOf_49 : decode cX5_slotOf 49 = .ok (.iconst (-1), 1) := by decide +kernel
theorem dX5_slotOf_50 : decode cX5_slotOf 50 = .ok (.ireturn, 1) := by decide +kernel
theorem dX5_append_0 : decode cX5_append 0 = .ok (.iload_n 1, 1) := by decide +kernel
theorem dX5_append_1 : decode cX5_append 1 = .ok (.ifCond .lt 29, 3) := by decide +kernel
theorem dX5_append_4 : decode cX5_append 4 = .ok (.iload_n 1, 1) := by decide +kernel
theorem dX5_append_5 : decode cX5_append 5 = .ok (.bipush 6, 2) := by decide +kernel
theorem dX5_append_7 : decode cX5_append 7 = .ok (.if_icmp .ge 23, 3) := by decide +kernel
theorem dX5_append_10 : decode cX5_append 10 = .ok (.aload_n 0, 1) := by decide +kernel
theorem dX5_append_11 : decode cX5_append 11 = .ok (.getfield 11, 3) := by decide +kernel
theorem dX5_append_14 : decode cX5_append 14 = .ok (.iload_n 1, 1) := by decide +kernel
theorem dX5_append_15 : decode cX5_append 15 = .ok (.iaload, 1) := by decide +kernel
theorem dX5_append_16 : decode cX5_append 16 = .ok (.ifCond .lt 14, 3) := by decide +kernel
theorem dX5_append_19 : decode cX5_append 19 = .ok (.aload_n 0, 1) := by decide +kernel
theorem dX5_append_20 : decode cX5_append 20 = .ok (.getfield 11, 3) := by decide +kernel
theorem dX5_append_23 : decode cX5_append 23 = .ok (.iload_n 1, 1) := by decide +kernel
theorem dX5_append_24 : decode cX5_append 24 = .ok (.iaload, 1) := by decide +kernel
theorem dX5_append_25 : decode cX5_append 25 = .ok (.bipush 16, 2) := by decide +kernel
theorem dX5_append_27 : decode cX5_append 27 = .ok (.if_icmp .lt 6, 3) := by decide +kernel
theorem dX5_append_30 : decode cX5_append 30 = .ok (.bipush (-2), 2) := by decide +kernel
theorem dX5_append_32 : decode cX5_append 32 = .ok (.ireturn, 1) := by decide +kernel
theorem dX5_append_33 : decode cX5_append 33 = .ok (.iload_n 1, 1) := by decide +kernel
theorem dX5_append_34 : decode cX5_append 34 = .ok (.bipush 16, 2) := by decide +kernel
theorem dX5_append_36 : decode cX5_append 36 = .ok (.imul, 1) := by decide +kernel
theorem dX5_append_37 : decode cX5_append 37 = .ok (.aload_n 0, 1) := by decide +kernel
theorem dX5_append_38 : decode cX5_append 38 = .ok (.getfield 11, 3) := by decide +kernel
theorem dX5_append_41 : decode cX5_append 41 = .ok (.iload_n 1, 1) := by decide +kernel
theorem dX5_append_42 : decode cX5_append 42 = .ok (.iaload, 1) := by decide +kernel
theorem dX5_append_43 : decode cX5_append 43 = .ok (.iadd, 1) := by decide +kernel
theorem dX5_append_44 : decode cX5_append 44 = .ok (.istore 6, 2) := by decide +kernel
theorem dX5_append_46 : decode cX5_append 46 = .ok (.aload_n 0, 1) := by decide +kernel
theorem dX5_append_47 : decode cX5_append 47 = .ok (.getfield 15, 3) := by decide +kernel
theorem dX5_append_50 : decode cX5_append 50 = .ok (.iload 6, 2) := by decide +kernel
theorem dX5_append_52 : decode cX5_append 52 = .ok (.iload_n 2, 1) := by decide +kernel
theorem dX5_append_53 : decode cX5_append 53 = .ok (.iastore, 1) := by decide +kernel
theorem dX5_append_54 : decode cX5_append 54 = .ok (.aload_n 0, 1) := by decide +kernel
theorem dX5_append_55 : decode cX5_append 55 = .ok (.getfield 18, 3) := by decide +kernel
theorem dX5_append_58 : decode cX5_append 58 = .ok (.iload 6, 2) := by decide +kernel
theorem dX5_append_60 : decode cX5_append 60 = .ok (.iload_n 3, 1) := by decide +kernel
theorem dX5_append_61 : decode cX5_append 61 = .ok (.iastore, 1) := by decide +kernel
theorem dX5_append_62 : decode cX5_append 62 = .ok (.aload_n 0, 1) := by decide +kernel
theorem dX5_append_63 : decode cX5_append 63 = .ok (.getfield 21, 3) := by decide +kernel
theorem dX5_append_66 : decode cX5_append 66 = .ok (.iload 6, 2) := by decide +kernel
theorem dX5_append_68 : decode cX5_append 68 = .ok (.iload 4, 2) := by decide +kernel
theorem dX5_append_70 : decode cX5_append 70 = .ok (.iastore, 1) := by decide +kernel
theorem dX5_append_71 : decode cX5_append 71 = .ok (.aload_n 0, 1) := by decide +kernel
theorem dX5_append_72 : decode cX5_append 72 = .ok (.getfield 24, 3) := by decide +kernel
theorem dX5_append_75 : decode cX5_append 75 = .ok (.iload 6, 2) := by decide +kernel
theorem dX5_append_77 : decode cX5_append 77 = .ok (.iload 5, 2) := by decide +kernel
theorem dX5_append_79 : decode cX5_append 79 = .ok (.iastore, 1) := by decide +kernel
theorem dX5_append_80 : decode cX5_append 80 = .ok (.aload_n 0, 1) := by decide +kernel
theorem dX5_append_81 : decode cX5_append 81 = .ok (.getfield 11, 3) := by decide +kernel
theorem dX5_append_84 : decode cX5_append 84 = .ok (.iload_n 1, 1) := by decide +kernel
theorem dX5_append_85 : decode cX5_append 85 = .ok (.dup2, 1) := by decide +kernel
theorem dX5_append_86 : decode cX5_append 86 = .ok (.iaload, 1) := by decide +kernel
theorem dX5_append_87 : decode cX5_append 87 = .ok (.iconst 1, 1) := by decide +kernel
theorem dX5_append_88 : decode cX5_append 88 = .ok (.iadd, 1) := by decide +kernel
theorem dX5_append_89 : decode cX5_append 89 = .ok (.iastore, 1) := by decide +kernel
theorem dX5_append_90 : decode cX5_append 90 = .ok (.aload_n 0, 1) := by decide +kernel
theorem dX5_append_91 : decode cX5_append 91 = .ok (.getfield 11, 3) := by decide +kernel
theorem dX5_append_94 : decode cX5_append 94 = .ok (.iload_n 1, 1) := by decide +kernel
theorem dX5_append_95 : decode cX5_append 95 = .ok (.iaload, 1) := by decide +kernel
theorem dX5_append_96 : decode cX5_append 96 = .ok (.ireturn, 1) := by decide +kernel
theorem dX5_empty_0 : decode cX5_empty 0 = .ok (.iload_n 1, 1) := by decide +kernel
theorem dX5_empty_1 : decode cX5_empty 1 = .ok (.ifCond .lt 9, 3) := by decide +kernel
theorem dX5_empty_4 : decode cX5_empty 4 = .ok (.iload_n 1, 1) := by decide +kernel
theorem dX5_empty_5 : decode cX5_empty 5 = .ok (.bipush 6, 2) := by decide +kernel
theorem dX5_empty_7 : decode cX5_empty 7 = .ok (.if_icmp .lt 5, 3) := by decide +kernel
theorem dX5_empty_10 : decode cX5_empty 10 = .ok (.iconst 0, 1) := by decide +kernel
theorem dX5_empty_11 : decode cX5_empty 11 = .ok (.ireturn, 1) := by decide +kernel
theorem dX5_empty_12 : decode cX5_empty 12 = .ok (.aload_n 0, 1) := by decide +kernel
theorem dX5_empty_13 : decode cX5_empty 13 = .ok (.getfield 11, 3) := by decide +kernel
theorem dX5_empty_16 : decode cX5_empty 16 = .ok (.iload_n 1, 1) := by decide +kernel
theorem dX5_empty_17 : decode cX5_empty 17 = .ok (.iaload, 1) := by decide +kernel
theorem dX5_empty_18 : decode cX5_empty 18 = .ok (.istore_n 2, 1) := by decide +kernel
theorem dX5_empty_19 : decode cX5_empty 19 = .ok (.aload_n 0, 1) := by decide +kernel
theorem dX5_empty_20 : decode cX5_empty 20 = .ok (.getfield 11, 3) := by decide +kernel
theorem dX5_empty_23 : decode cX5_empty 23 = .ok (.iload_n 1, 1) := by decide +kernel
theorem dX5_empty_24 : decode cX5_empty 24 = .ok (.iconst 0, 1) := by decide +kernel
theorem dX5_empty_25 : decode cX5_empty 25 = .ok (.iastore, 1) := by decide +kernel
theorem dX5_empty_26 : decode cX5_empty 26 = .ok (.iload_n 2, 1) := by decide +kernel
theorem dX5_empty_27 : decode cX5_empty 27 = .ok (.ireturn, 1) := by decide +kernel
theorem dX5_dropLines_0 : decode cX5_dropLines 0 = .ok (.aload_n 0, 1) := by decide +kernel
theorem dX5_dropLines_1 : decode cX5_dropLines 1 = .ok (.iload_n 1, 1) := by decide +kernel
theorem dX5_dropLines_2 : decode cX5_dropLines 2 = .ok (.invokevirtual 31, 3) := by decide +kernel
theorem dX5_dropLines_5 : decode cX5_dropLines 5 = .ok (.istore_n 3, 1) := by decide +kernel
theorem dX5_dropLines_6 : decode cX5_dropLines 6 = .ok (.iconst 0, 1) := by decide +kernel
theorem dX5_dropLines_7 : decode cX5_dropLines 7 = .ok (.istore 4, 2) := by decide +kernel
theorem dX5_dropLines_9 : decode cX5_dropLines 9 = .ok (.iload 4, 2) := by decide +kernel
theorem dX5_dropLines_11 : decode cX5_dropLines 11 = .ok (.iload_n 3, 1) := by decide +kernel
theorem dX5_dropLines_12 : decode cX5_dropLines 12 = .ok (.if_icmp .ge 57, 3) := by decide +kernel
theorem dX5_dropLines_15 : decode cX5_dropLines 15 = .ok (.iload_n 2, 1) := by decide +kernel
theorem dX5_dropLines_16 : decode cX5_dropLines 16 = .ok (.iload 4, 2) := by decide +kernel
theorem dX5_dropLines_18 : decode cX5_dropLines 18 = .ok (.ishr, 1) := by decide +kernel
theorem dX5_dropLines_19 : decode cX5_dropLines 19 = .ok (.iconst 1, 1) := by decide +kernel
theorem dX5_dropLines_20 : decode cX5_dropLines 20 = .ok (.iand, 1) := by decide +kernel
theorem dX5_dropLines_21 : decode cX5_dropLines 21 = .ok (.ifCond .ne 42, 3) := by decide +kernel
theorem dX5_dropLines_24 : decode cX5_dropLines 24 = .ok (.iload_n 1, 1) := by decide +kernel
theorem dX5_dropLines_25 : decode cX5_dropLines 25 = .ok (.bipush 16, 2) := by decide +kernel
theorem dX5_dropLines_27 : decode cX5_dropLines 27 = .ok (.imul, 1) := by decide +kernel
theorem dX5_dropLines_28 : decode cX5_dropLines 28 = .ok (.iload 4, 2) := by decide +kernel
theorem dX5_dropLines_30 : decode cX5_dropLines 30 = .ok (.iadd, 1) := by decide +kernel
theorem dX5_dropLines_31 : decode cX5_dropLines 31 = .ok (.istore 5, 2) := by decide +kernel
theorem dX5_dropLines_33 : decode cX5_dropLines 33 = .ok (.aload_n 0, 1) := by decide +kernel
theorem dX5_dropLines_34 : decode cX5_dropLines 34 = .ok (.iload_n 1, 1) := by decide +kernel
theorem dX5_dropLines_35 : decode cX5_dropLines 35 = .ok (.aload_n 0, 1) := by decide +kernel
theorem dX5_dropLines_36 : decode cX5_dropLines 36 = .ok (.iload 5, 2) := by decide +kernel
theorem dX5_dropLines_38 : decode cX5_dropLines 38 = .ok (.invokevirtual 35, 3) := by decide +kernel
theorem dX5_dropLines_41 : decode cX5_dropLines 41 = .ok (.aload_n 0, 1) := by decide +kernel
theorem dX5_dropLines_42 : decode cX5_dropLines 42 = .ok (.iload 5, 2) := by decide +kernel
theorem dX5_dropLines_44 : decode cX5_dropLines 44 = .ok (.invokevirtual 38, 3) := by decide +kernel
theorem dX5_dropLines_47 : decode cX5_dropLines 47 = .ok (.aload_n 0, 1) := by decide +kernel
theorem dX5_dropLines_48 : decode cX5_dropLines 48 = .ok (.iload 5, 2) := by decide +kernel
theorem dX5_dropLines_50 : decode cX5_dropLines 50 = .ok (.invokevirtual 41, 3) := by decide +kernel
theorem dX5_dropLines_53 : decode cX5_dropLines 53 = .ok (.aload_n 0, 1) := by decide +kernel
theorem dX5_dropLines_54 : decode cX5_dropLines 54 = .ok (.iload 5, 2) := by decide +kernel
theorem dX5_dropLines_56 : decode cX5_dropLines 56 = .ok (.invokevirtual 44, 3) := by decide +kernel
theorem dX5_dropLines_59 : decode cX5_dropLines 59 = .ok (.invokevirtual 47, 3) := by decide +kernel
theorem dX5_dropLines_62 : decode cX5_dropLines 62 = .ok (.pop, 1) := by decide +kernel
theorem dX5_dropLines_63 : decode cX5_dropLines 63 = .ok (.iinc 4 1, 3) := by decide +kernel
theorem dX5_dropLines_66 : decode cX5_dropLines 66 = .ok (.goto (-57), 3) := by decide +kernel
theorem dX5_dropLines_69 : decode cX5_dropLines 69 = .ok (.aload_n 0, 1) := by decide +kernel
theorem dX5_dropLines_70 : decode cX5_dropLines 70 = .ok (.iload_n 1, 1) := by decide +kernel
theorem dX5_dropLines_71 : decode cX5_dropLines 71 = .ok (.invokevirtual 51, 3) := by decide +kernel
theorem dX5_dropLines_74 : decode cX5_dropLines 74 = .ok (.ireturn, 1) := by decide +kernel
theorem dX5_word_0 : decode cX5_word 0 = .ok (.iload_n 1, 1) := by decide +kernel
theorem dX5_word_1 : decode cX5_word 1 = .ok (.ifCond .lt 18, 3) := by decide +kernel
theorem dX5_word_4 : decode cX5_word 4 = .ok (.iload_n 1, 1) := by decide +kernel
theorem dX5_word_5 : decode cX5_word 5 = .ok (.bipush 96, 2) := by decide +kernel
theorem dX5_word_7 : decode cX5_word 7 = .ok (.if_icmp .ge 12, 3) := by decide +kernel
theorem dX5_word_10 : decode cX5_word 10 = .ok (.aload_n 0, 1) := by decide +kernel
theorem dX5_word_11 : decode cX5_word 11 = .ok (.getfield 15, 3) := by decide +kernel
theorem dX5_word_14 : decode cX5_word 14 = .ok (.iload_n 1, 1) := by decide +kernel
theorem dX5_word_15 : decode cX5_word 15 = .ok (.iaload, 1) := by decide +kernel
theorem dX5_word_16 : decode cX5_word 16 = .ok (.goto 4, 3) := by decide +kernel
theorem dX5_word_19 : decode cX5_word 19 = .ok (.iconst (-1), 1) := by decide +kernel
theorem dX5_word_20 : decode cX5_word 20 = .ok (.ireturn, 1) := by decide +kernel
theorem dX5_a_0 : decode cX5_a 0 = .ok (.iload_n 1, 1) := by decide +kernel
theorem dX5_a_1 : decode cX5_a 1 = .ok (.ifCond .lt 18, 3) := by decide +kernel
theorem dX5_a_4 : decode cX5_a 4 = .ok (.iload_n 1, 1) := by decide +kernel
theorem dX5_a_5 : decode cX5_a 5 = .ok (.bipush 96, 2) := by decide +kernel
theorem dX5_a_7 : decode cX5_a 7 = .ok (.if_icmp .ge 12, 3) := by decide +kernel
theorem dX5_a_10 : decode cX5_a 10 = .ok (.aload_n 0, 1) := by decide +kernel
theorem dX5_a_11 : decode cX5_a 11 = .ok (.getfield 18, 3) := by decide +kernel
theorem dX5_a_14 : decode cX5_a 14 = .ok (.iload_n 1, 1) := by decide +kernel
theorem dX5_a_15 : decode cX5_a 15 = .ok (.iaload, 1) := by decide +kernel
theorem dX5_a_16 : decode cX5_a 16 = .ok (.goto 4, 3) := by decide +kernel
theorem dX5_a_19 : decode cX5_a 19 = .ok (.iconst 0, 1) := by decide +kernel
theorem dX5_a_20 : decode cX5_a 20 = .ok (.ireturn, 1) := by decide +kernel
theorem dX5_b_0 : decode cX5_b 0 = .ok (.iload_n 1, 1) := by decide +kernel
theorem dX5_b_1 : decode cX5_b 1 = .ok (.ifCond .lt 18, 3) := by decide +kernel
theorem dX5_b_4 : decode cX5_b 4 = .ok (.iload_n 1, 1) := by decide +kernel
theorem dX5_b_5 : decode cX5_b 5 = .ok (.bipush 96, 2) := by decide +kernel
theorem dX5_b_7 : decode cX5_b 7 = .ok (.if_icmp .ge 12, 3) := by decide +kernel
theorem dX5_b_10 : decode cX5_b 10 = .ok (.aload_n 0, 1) := by decide +kernel
theorem dX5_b_11 : decode cX5_b 11 = .ok (.getfield 21, 3) := by decide +kernel
theorem dX5_b_14 : decode cX5_b 14 = .ok (.iload_n 1, 1) := by decide +kernel
theorem dX5_b_15 : decode cX5_b 15 = .ok (.iaload, 1) := by decide +kernel
theorem dX5_b_16 : decode cX5_b 16 = .ok (.goto 4, 3) := by decide +kernel
theorem dX5_b_19 : decode cX5_b 19 = .ok (.iconst 0, 1) := by decide +kernel
theorem dX5_b_20 : decode cX5_b 20 = .ok (.ireturn, 1) := by decide +kernel
theorem dX5_c_0 : decode cX5_c 0 = .ok (.iload_n 1, 1) := by decide +kernel
theorem dX5_c_1 : decode cX5_c 1 = .ok (.ifCond .lt 18, 3) := by decide +kernel
theorem dX5_c_4 : decode cX5_c 4 = .ok (.iload_n 1, 1) := by decide +kernel
theorem dX5_c_5 : decode cX5_c 5 = .ok (.bipush 96, 2) := by decide +kernel
theorem dX5_c_7 : decode cX5_c 7 = .ok (.if_icmp .ge 12, 3) := by decide +kernel
theorem dX5_c_10 : decode cX5_c 10 = .ok (.aload_n 0, 1) := by decide +kernel
theorem dX5_c_11 : decode cX5_c 11 = .ok (.getfield 24, 3) := by decide +kernel
theorem dX5_c_14 : decode cX5_c 14 = .ok (.iload_n 1, 1) := by decide +kernel
theorem dX5_c_15 : decode cX5_c 15 = .ok (.iaload, 1) := by decide +kernel
theorem dX5_c_16 : decode cX5_c 16 = .ok (.goto 4, 3) := by decide +kernel
theorem dX5_c_19 : decode cX5_c 19 = .ok (.iconst 0, 1) := by decide +kernel
theorem dX5_c_20 : decode cX5_c 20 = .ok (.ireturn, 1) := by decide +kernel
theorem dX6_init_0 : decode cX6_init 0 = .ok (.aload_n 0, 1) := by decide +kernel
theorem dX6_init_1 : decode cX6_init 1 = .ok (.invokespecial 5, 3) := by decide +kernel
theorem dX6_init_4 : decode cX6_init 4 = .ok (.aload_n 0, 1) := by decide +kernel
theorem dX6_init_5 : decode cX6_init 5 = .ok (.bipush 70, 2) := by decide +kernel
theorem dX6_init_7 : decode cX6_init 7 = .ok (.newarray .int, 2) := by decide +kernel
theorem dX6_init_9 : decode cX6_init 9 = .ok (.putfield 11, 3) := by decide +kernel
theorem dX6_init_12 : decode cX6_init 12 = .ok (.return_, 1) := by decide +kernel
theorem dX6_isAccount_0 : decode cX6_isAccount 0 = .ok (.iload_n 0, 1) := by decide +kernel
theorem dX6_isAccount_1 : decode cX6_isAccount 1 = .ok (.ifCond .lt 13, 3) := by decide +kernel
theorem dX6_isAccount_4 : decode cX6_isAccount 4 = .ok (.iload_n 0, 1) := by decide +kernel
theorem dX6_isAccount_5 : decode cX6_isAccount 5 = .ok (.bipush 12, 2) := by decide +kernel
theorem dX6_isAccount_7 : decode cX6_isAccount 7 = .ok (.if_icmp .ge 7, 3) := by decide +kernel
theorem dX6_isAccount_10 : decode cX6_isAccount 10 = .ok (.iconst 1, 1) := by decide +kernel
theorem dX6_isAccount_11 : decode cX6_isAccount 11 = .ok (.goto 4, 3) := by decide +kernel
theorem dX6_isAccount_14 : decode cX6_isAccount 14 = .ok (.iconst 0, 1) := by decide +kernel
theorem dX6_isAccount_15 : decode cX6_isAccount 15 = .ok (.ireturn, 1) := by decide +kernel
theorem dX6_isCell_0 : decode cX6_isCell 0 = .ok (.iload_n 0, 1) := by decide +kernel
theorem dX6_isCell_1 : decode cX6_isCell 1 = .ok (.ifCond .lt 12, 3) := by decide +kernel
theorem dX6_isCell_4 : decode cX6_isCell 4 = .ok (.iload_n 0, 1) := by decide +kernel
theorem dX6_isCell_5 : decode cX6_isCell 5 = .ok (.iconst 4, 1) := by decide +kernel
theorem dX6_isCell_6 : decode cX6_isCell 6 = .ok (.if_icmp .ge 7, 3) := by decide +kernel
theorem dX6_isCell_9 : decode cX6_isCell 9 = .ok (.iconst 1, 1) := by decide +kernel
theorem dX6_isCell_10 : decode cX6_isCell 10 = .ok (.goto 4, 3) := by decide +kernel
theorem dX6_isCell_13 : decode cX6_isCell 13 = .ok (.iconst 0, 1) := by decide +kernel
theorem dX6_isCell_14 : decode cX6_isCell 14 = .ok (.ireturn, 1) := by decide +kernel
theorem dX6_coinsOf_0 : decode cX6_coinsOf 0 = .ok (.iload_n 1, 1) := by decide +kernel
theorem dX6_coinsOf_1 : decode cX6_coinsOf 1 = .ok (.ifCond .lt 18, 3) := by decide +kernel
theorem dX6_coinsOf_4 : decode cX6_coinsOf 4 = .ok (.iload_n 1, 1) := by decide +kernel
theorem dX6_coinsOf_5 : decode cX6_coinsOf 5 = .ok (.bipush 12, 2) := by decide +kernel
theorem dX6_coinsOf_7 : decode cX6_coinsOf 7 = .ok (.if_icmp .ge 12, 3) := by decide +kernel
theorem dX6_coinsOf_10 : decode cX6_coinsOf 10 = .ok (.aload_n 0, 1) := by decide +kernel
theorem dX6_coinsOf_11 : decode cX6_coinsOf 11 = .ok (.getfield 11, 3) := by decide +kernel
theorem dX6_coinsOf_14 : decode cX6_coinsOf 14 = .ok (.iload_n 1, 1) := by decide +kernel
theorem dX6_coinsOf_15 : decode cX6_coinsOf 15 = .ok (.iaload, 1) := by decide +kernel
theorem dX6_coinsOf_16 : decode cX6_coinsOf 16 = .ok (.goto 4, 3) := by decide +kernel
theorem dX6_coinsOf_19 : decode cX6_coinsOf 19 = .ok (.iconst 0, 1) := by decide +kernel
theorem dX6_coinsOf_20 : decode cX6_coinsOf 20 = .ok (.ireturn, 1) := by decide +kernel
theorem dX6_putCoins_0 : decode cX6_putCoins 0 = .ok (.iload_n 1, 1) := by decide +kernel
theorem dX6_putCoins_1 : decode cX6_putCoins 1 = .ok (.ifCond .lt 19, 3) := by decide +kernel
theorem dX6_putCoins_4 : decode cX6_putCoins 4 = .ok (.iload_n 1, 1) := by decide +kernel
theorem dX6_putCoins_5 : decode cX6_putCoins 5 = .ok (.bipush 12, 2) := by decide +kernel
theorem dX6_putCoins_7 : decode cX6_putCoins 7 = .ok (.if_icmp .ge 13, 3) := by decide +kernel
theorem dX6_putCoins_10 : decode cX6_putCoins 10 = .ok (.iload_n 2, 1) := by decide +kernel
theorem dX6_putCoins_11 : decode cX6_putCoins 11 = .ok (.ifCond .lt 9, 3) := by decide +kernel
theorem dX6_putCoins_14 : decode cX6_putCoins 14 = .ok (.iload_n 2, 1) := by decide +kernel
theorem dX6_putCoins_15 : decode cX6_putCoins 15 = .ok (.ldc 15, 2) := by decide +kernel
theorem dX6_putCoins_17 : decode cX6_putCoins 17 = .ok (.if_icmp .le 5, 3) := by decide +kernel
theorem dX6_putCoins_20 : decode cX6_putCoins 20 = .ok (.iconst 0, 1) := by decide +kernel
theorem dX6_putCoins_21 : decode cX6_putCoins 21 = .ok (.ireturn, 1) := by decide +kernel
theorem dX6_putCoins_22 : decode cX6_putCoins 22 = .ok (.aload_n 0, 1) := by decide +kernel
theorem dX6_putCoins_23 : decode cX6_putCoins 23 = .ok (.getfield 11, 3) := by decide +kernel
theorem dX6_putCoins_26 : decode cX6_putCoins 26 = .ok (.iload_n 1, 1) := by decide +kernel
theorem dX6_putCoins_27 : decode cX6_putCoins 27 = .ok (.iload_n 2, 1) := by decide +kernel
theorem dX6_putCoins_28 : decode cX6_putCoins 28 = .ok (.iastore, 1) := by decide +kernel
theorem dX6_putCoins_29 : decode cX6_putCoins 29 = .ok (.iconst 1, 1) := by decide +kernel
theorem dX6_putCoins_30 : decode cX6_putCoins 30 = .ok (.ireturn, 1) := by decide +kernel
theorem dX6_allCoins_0 : decode cX6_allCoins 0 = .ok (.lconst 0, 1) := by decide +kernel
theorem dX6_allCoins_1 : decode cX6_allCoins 1 = .ok (.lstore_n 1, 1) := by decide +kernel
theorem dX6_allCoins_2 : decode cX6_allCoins 2 = .ok (.iconst 0, 1) := by decide +kernel
theorem dX6_allCoins_3 : decode cX6_allCoins 3 = .ok (.istore_n 3, 1) := by decide +kernel
theorem dX6_allCoins_4 : decode cX6_allCoins 4 = .ok (.iload_n 3, 1) := by decide +kernel
theorem dX6_allCoins_5 : decode cX6_allCoins 5 = .ok (.bipush 12, 2) := by decide +kernel
theorem dX6_allCoins_7 : decode cX6_allCoins 7 = .ok (.if_icmp .ge 19, 3) := by decide +kernel
theorem dX6_allCoins_10 : decode cX6_allCoins 10 = .ok (.lload_n 1, 1) := by decide +kernel
theorem dX6_allCoins_11 : decode cX6_allCoins 11 = .ok (.aload_n 0, 1) := by decide +kernel
theorem dX6_allCoins_12 : decode cX6_allCoins 12 = .ok (.getfield 11, 3) := by decide +kernel
theorem dX6_allCoins_15 : decode cX6_allCoins 15 = .ok (.iload_n 3, 1) := by decide +kernel
theorem dX6_allCoins_16 : decode cX6_allCoins 16 = .ok (.iaload, 1) := by decide +kernel
theorem dX6_allCoins_17 : decode cX6_allCoins 17 = .ok (.i2l, 1) := by decide +kernel
theorem dX6_allCoins_18 : decode cX6_allCoins 18 = .ok (.ladd, 1) := by decide +kernel
theorem dX6_allCoins_19 : decode cX6_allCoins 19 = .ok (.lstore_n 1, 1) := by decide +kernel
theorem dX6_allCoins_20 : decode cX6_allCoins 20 = .ok (.iinc 3 1, 3) := by decide +kernel
theorem dX6_allCoins_23 : decode cX6_allCoins 23 = .ok (.goto (-19), 3) := by decide +kernel
theorem dX6_allCoins_26 : decode cX6_allCoins 26 = .ok (.lload_n 1, 1) := by decide +kernel
theorem dX6_allCoins_27 : decode cX6_allCoins 27 = .ok (.lreturn, 1) := by decide +kernel
theorem dX6_pay_0 : decode cX6_pay 0 = .ok (.iload_n 1, 1) := by decide +kernel
theorem dX6_pay_1 : decode cX6_pay 1 = .ok (.ifCond .lt 19, 3) := by decide +kernel
theorem dX6_pay_4 : decode cX6_pay 4 = .ok (.iload_n 1, 1) := by decide +kernel
theorem dX6_pay_5 : decode cX6_pay 5 = .ok (.bipush 12, 2) := by decide +kernel
theorem dX6_pay_7 : decode cX6_pay 7 = .ok (.if_icmp .ge 13, 3) := by decide +kernel
theorem dX6_pay_10 : decode cX6_pay 10 = .ok (.iload_n 2, 1) := by decide +kernel
theorem dX6_pay_11 : decode cX6_pay 11 = .ok (.ifCond .lt 9, 3) := by decide +kernel
theorem dX6_pay_14 : decode cX6_pay 14 = .ok (.iload_n 2, 1) := by decide +kernel
theorem dX6_pay_15 : decode cX6_pay 15 = .ok (.bipush 12, 2) := by decide +kernel
theorem dX6_pay_17 : decode cX6_pay 17 = .ok (.if_icmp .lt 5, 3) := by decide +kernel
theorem dX6_pay_20 : decode cX6_pay 20 = .ok (.iconst 1, 1) := by decide +kernel
theorem dX6_pay_21 : decode cX6_pay 21 = .ok (.ireturn, 1) := by decide +kernel
theorem dX6_pay_22 : decode cX6_pay 22 = .ok (.iload_n 3, 1) := by decide +kernel
theorem dX6_pay_23 : decode cX6_pay 23 = .ok (.ifCond .lt 13, 3) := by decide +kernel
theorem dX6_pay_26 : decode cX6_pay 26 = .ok (.iload_n 3, 1) := by decide +kernel
theorem dX6_pay_27 : decode cX6_pay 27 = .ok (.aload_n 0, 1) := by decide +kernel
theorem dX6_pay_28 : decode cX6_pay 28 = .ok (.getfield 11, 3) := by decide +kernel
theorem dX6_pay_31 : decode cX6_pay 31 = .ok (.iload_n 1, 1) := by decide +kernel
theorem dX6_pay_32 : decode cX6_pay 32 = .ok (.iaload, 1) := by decide +kernel
theorem dX6_pay_33 : decode cX6_pay 33 = .ok (.if_icmp .le 5, 3) := by decide +kernel
theorem dX6_pay_36 : decode cX6_pay 36 = .ok (.iconst 1, 1) := by decide +kernel
theorem dX6_pay_37 : decode cX6_pay 37 = .ok (.ireturn, 1) := by decide +kernel
theorem dX6_pay_38 : decode cX6_pay 38 = .ok (.iload_n 1, 1) := by decide +kernel
theorem dX6_pay_39 : decode cX6_pay 39 = .ok (.iload_n 2, 1) := by decide +kernel
theorem dX6_pay_40 : decode cX6_pay 40 = .ok (.if_icmp .ne 5, 3) := by decide +kernel
theorem dX6_pay_43 : decode cX6_pay 43 = .ok (.iconst 0, 1) := by decide +kernel
theorem dX6_pay_44 : decode cX6_pay 44 = .ok (.ireturn, 1) := by decide +kernel
theorem dX6_pay_45 : decode cX6_pay 45 = .ok (.iload_n 3, 1) := by decide +kernel
theorem dX6_pay_46 : decode cX6_pay 46 = .ok (.ldc 15, 2) := by decide +kernel
theorem dX6_pay_48 : decode cX6_pay 48 = .ok (.aload_n 0, 1) := by decide +kernel
theorem dX6_pay_49 : decode cX6_pay 49 = .ok (.getfield 11, 3) := by decide +kernel
theorem dX6_pay_52 : decode cX6_pay 52 = .ok (.iload_n 2, 1) := by decide +kernel
theorem dX6_pay_53 : decode cX6_pay 53 = .ok (.iaload, 1) := by decide +kernel
theorem dX6_pay_54 : decode cX6_pay 54 = .ok (.isub, 1) := by decide +kernel
theorem dX6_pay_55 : decode cX6_pay 55 = .ok (.if_icmp .le 5, 3) := by decide +kernel
theorem dX6_pay_58 : decode cX6_pay 58 = .ok (.iconst 2, 1) := by decide +kernel
theorem dX6_pay_59 : decode cX6_pay 59 = .ok (.ireturn, 1) := by decide +kernel
theorem dX6_pay_60 : decode cX6_pay 60 = .ok (.aload_n 0, 1) := by decide +kernel
theorem dX6_pay_61 : decode cX6_pay 61 = .ok (.getfield 11, 3) := by decide +kernel
theorem dX6_pay_64 : decode cX6_pay 64 = .ok (.iload_n 1, 1) := by decide +kernel
theorem dX6_pay_65 : decode cX6_pay 65 = .ok (.dup2, 1) := by decide +kernel
theorem dX6_pay_66 : decode cX6_pay 66 = .ok (.iaload, 1) := by decide +kernel
theorem dX6_pay_67 : decode cX6_pay 67 = .ok (.iload_n 3, 1) := by decide +kernel
theorem dX6_pay_68 : decode cX6_pay 68 = .ok (.isub, 1) := by decide +kernel
theorem dX6_pay_69 : decode cX6_pay 69 = .ok (.iastore, 1) := by decide +kernel
theorem dX6_pay_70 : decode cX6_pay 70 = .ok (.aload_n 0, 1) := by decide +kernel
theorem dX6_pay_71 : decode cX6_pay 71 = .ok (.getfield 11, 3) := by decide +kernel
theorem dX6_pay_74 : decode cX6_pay 74 = .ok (.iload_n 2, 1) := by decide +kernel
theorem dX6_pay_75 : decode cX6_pay 75 = .ok (.dup2, 1) := by decide +kernel
theorem dX6_pay_76 : decode cX6_pay 76 = .ok (.iaload, 1) := by decide +kernel
theorem dX6_pay_77 : decode cX6_pay 77 = .ok (.iload_n 3, 1) := by decide +kernel
theorem dX6_pay_78 : decode cX6_pay 78 = .ok (.iadd, 1) := by decide +kernel
theorem dX6_pay_79 : decode cX6_pay 79 = .ok (.iastore, 1) := by decide +kernel
theorem dX6_pay_80 : decode cX6_pay 80 = .ok (.iconst 0, 1) := by decide +kernel
theorem dX6_pay_81 : decode cX6_pay 81 = .ok (.ireturn, 1) := by decide +kernel
theorem dX6_cellOf_0 : decode cX6_cellOf 0 = .ok (.iload_n 1, 1) := by decide +kernel
theorem dX6_cellOf_1 : decode cX6_cellOf 1 = .ok (.iconst 4, 1) := by decide +kernel
theorem dX6_cellOf_2 : decode cX6_cellOf 2 = .ok (.imul, 1) := by decide +kernel
theorem dX6_cellOf_3 : decode cX6_cellOf 3 = .ok (.iload_n 2, 1) := by decide +kernel
theorem dX6_cellOf_4 : decode cX6_cellOf 4 = .ok (.iadd, 1) := by decide +kernel
theorem dX6_cellOf_5 : decode cX6_cellOf 5 = .ok (.istore_n 3, 1) := by decide +kernel
theorem dX6_cellOf_6 : decode cX6_cellOf 6 = .ok (.iload_n 3, 1) := by decide +kernel
theorem dX6_cellOf_7 : decode cX6_cellOf 7 = .ok (.ifCond .lt 21, 3) := by decide +kernel
theorem dX6_cellOf_10 : decode cX6_cellOf 10 = .ok (.iload_n 3, 1) := by decide +kernel
theorem dX6_cellOf_11 : decode cX6_cellOf 11 = .ok (.bipush 16, 2) := by decide +kernel
theorem dX6_cellOf_13 : decode cX6_cellOf 13 = .ok (.if_icmp .ge 15, 3) := by decide +kernel
theorem dX6_cellOf_16 : decode cX6_cellOf 16 = .ok (.aload_n 0, 1) := by decide +kernel
theorem dX6_cellOf_17 : decode cX6_cellOf 17 = .ok (.getfield 11, 3) := by decide +kernel
theorem dX6_cellOf_20 : decode cX6_cellOf 20 = .ok (.bipush 12, 2) := by decide +kernel
theorem dX6_cellOf_22 : decode cX6_cellOf 22 = .ok (.iload_n 3, 1) := by decide +kernel
theorem dX6_cellOf_23 : decode cX6_cellOf 23 = .ok (.iadd, 1) := by decide +kernel
theorem dX6_cellOf_24 : decode cX6_cellOf 24 = .ok (.iaload, 1) := by decide +kernel
theorem dX6_cellOf_25 : decode cX6_cellOf 25 = .ok (.goto 4, 3) := by decide +kernel
theorem dX6_cellOf_28 : decode cX6_cellOf 28 = .ok (.iconst 0, 1) := by decide +kernel
theorem dX6_cellOf_29 : decode cX6_cellOf 29 = .ok (.ireturn, 1) := by decide +kernel
theorem dX6_putCell_0 : decode cX6_putCell 0 = .ok (.iload_n 1, 1) := by decide +kernel
theorem dX6_putCell_1 : decode cX6_putCell 1 = .ok (.iconst 4, 1) := by decide +kernel
theorem dX6_putCell_2 : decode cX6_putCell 2 = .ok (.imul, 1) := by decide +kernel
theorem dX6_putCell_3 : decode cX6_putCell 3 = .ok (.iload_n 2, 1) := by decide +kernel
theorem dX6_putCell_4 : decode cX6_putCell 4 = .ok (.iadd, 1) := by decide +kernel
theorem dX6_putCell_5 : decode cX6_putCell 5 = .ok (.istore 4, 2) := by decide +kernel
theorem dX6_putCell_7 : decode cX6_putCell 7 = .ok (.iload 4, 2) := by decide +kernel
theorem dX6_putCell_9 : decode cX6_putCell 9 = .ok (.ifCond .lt 21, 3) := by decide +kernel
theorem dX6_putCell_12 : decode cX6_putCell 12 = .ok (.iload 4, 2) := by decide +kernel
theorem dX6_putCell_14 : decode cX6_putCell 14 = .ok (.bipush 16, 2) := by decide +kernel
theorem dX6_putCell_16 : decode cX6_putCell 16 = .ok (.if_icmp .ge 14, 3) := by decide +kernel
theorem dX6_putCell_19 : decode cX6_putCell 19 = .ok (.aload_n 0, 1) := by decide +kernel
theorem dX6_putCell_20 : decode cX6_putCell 20 = .ok (.getfield 11, 3) := by decide +kernel
theorem dX6_putCell_23 : decode cX6_putCell 23 = .ok (.bipush 12, 2) := by decide +kernel
theorem dX6_putCell_25 : decode cX6_putCell 25 = .ok (.iload 4, 2) := by decide +kernel
theorem dX6_putCell_27 : decode cX6_putCell 27 = .ok (.iadd, 1) := by decide +kernel
theorem dX6_putCell_28 : decode cX6_putCell 28 = .ok (.iload_n 3, 1) := by decide +kernel
theorem dX6_putCell_29 : decode cX6_putCell 29 = .ok (.iastore, 1) := by decide +kernel
theorem dX6_putCell_30 : decode cX6_putCell 30 = .ok (.return_, 1) := by decide +kernel
theorem dX6_height_0 : decode cX6_height 0 = .ok (.aload_n 0, 1) := by decide +kernel
theorem dX6_height_1 : decode cX6_height 1 = .ok (.getfield 11, 3) := by decide +kernel
theorem dX6_height_4 : decode cX6_height 4 = .ok (.bipush 28, 2) := by decide +kernel
theorem dX6_height_6 : decode cX6_height 6 = .ok (.iaload, 1) := by decide +kernel
theorem dX6_height_7 : decode cX6_height 7 = .ok (.ireturn, 1) := by decide +kernel
theorem dX6_age_0 : decode cX6_age 0 = .ok (.iload_n 1, 1) := by decide +kernel
theorem dX6_age_1 : decode cX6_age 1 = .ok (.ifCond .lt 10, 3) := by decide +kernel
theorem dX6_age_4 : decode cX6_age 4 = .ok (.iload_n 1, 1) := by decide +kernel
theorem dX6_age_5 : decode cX6_age 5 = .ok (.sipush 1000, 3) := by decide +kernel
theorem dX6_age_8 : decode cX6_age 8 = .ok (.if_icmp .le 5, 3) := by decide +kernel
theorem dX6_age_11 : decode cX6_age 11 = .ok (.iconst 0, 1) := by decide +kernel
theorem dX6_age_12 : decode cX6_age 12 = .ok (.ireturn, 1) := by decide +kernel
theorem dX6_age_13 : decode cX6_age 13 = .ok (.aload_n 0, 1) := by decide +kernel
theorem dX6_age_14 : decode cX6_age 14 = .ok (.getfield 11, 3) := by decide +kernel
theorem dX6_age_17 : decode cX6_age 17 = .ok (.bipush 28, 2) := by decide +kernel
theorem dX6_age_19 : decode cX6_age 19 = .ok (.dup2, 1) := by decide +kernel
theorem dX6_age_20 : decode cX6_age 20 = .ok (.iaload, 1) := by decide +kernel
theorem dX6_age_21 : decode cX6_age 21 = .ok (.iload_n 1, 1) := by decide +kernel
theorem dX6_age_22 : decode cX6_age 22 = .ok (.iadd, 1) := by decide +kernel
theorem dX6_age_23 : decode cX6_age 23 = .ok (.iastore, 1) := by decide +kernel
theorem dX6_age_24 : decode cX6_age 24 = .ok (.iconst 1, 1) := by decide +kernel
theorem dX6_age_25 : decode cX6_age 25 = .ok (.ireturn, 1) := by decide +kernel
theorem dX6_eventCount_0 : decode cX6_eventCount 0 = .ok (.aload_n 0, 1) := by decide +kernel
theorem dX6_eventCount_1 : decode cX6_eventCount 1 = .ok (.getfield 11, 3) := by decide +kernel
theorem dX6_eventCount_4 : decode cX6_eventCount 4 = .ok (.bipush 29, 2) := by decide +kernel
theorem dX6_eventCount_6 : decode cX6_eventCount 6 = .ok (.iaload, 1) := by decide +kernel
theorem dX6_eventCount_7 : decode cX6_eventCount 7 = .ok (.ireturn, 1) := by decide +kernel
theorem dX6_eventAt_0 : decode cX6_eventAt 0 = .ok (.iload_n 1, 1) := by decide +kernel
theorem dX6_eventAt_1 : decode cX6_eventAt 1 = .ok (.ifCond .lt 24, 3) := by decide +kernel
theorem dX6_eventAt_4 : decode cX6_eventAt 4 = .ok (.iload_n 1, 1) := by decide +kernel
theorem dX6_eventAt_5 : decode cX6_eventAt 5 = .ok (.bipush 40, 2) := by decide +kernel
theorem dX6_eventAt_7 : decode cX6_eventAt 7 = .ok (.if_icmp .ge 18, 3) := by decide +kernel
theorem dX6_eventAt_10 : decode cX6_eventAt 10 = .ok (.iload_n 1, 1) := by decide +kernel
theorem dX6_eventAt_11 : decode cX6_eventAt 11 = .ok (.aload_n 0, 1) := by decide +kernel
theorem dX6_eventAt_12 : decode cX6_eventAt 12 = .ok (.getfield 11, 3) := by decide +kernel
theorem dX6_eventAt_15 : decode cX6_eventAt 15 = .ok (.bipush 29, 2) := by decide +kernel
theorem dX6_eventAt_17 : decode cX6_eventAt 17 = .ok (.iaload, 1) := by decide +kernel
theorem dX6_eventAt_18 : decode cX6_eventAt 18 = .ok (.if_icmp .ge 7, 3) := by decide +kernel
theorem dX6_eventAt_21 : decode cX6_eventAt 21 = .ok (.iconst 1, 1) := by decide +kernel
theorem dX6_eventAt_22 : decode cX6_eventAt 22 = .ok (.goto 4, 3) := by decide +kernel
theorem dX6_eventAt_25 : decode cX6_eventAt 25 = .ok (.iconst 0, 1) := by decide +kernel
theorem dX6_eventAt_26 : decode cX6_eventAt 26 = .ok (.istore_n 2, 1) := by decide +kernel
theorem dX6_eventAt_27 : decode cX6_eventAt 27 = .ok (.iload_n 2, 1) := by decide +kernel
theorem dX6_eventAt_28 : decode cX6_eventAt 28 = .ok (.ifCond .eq 15, 3) := by decide +kernel
theorem dX6_eventAt_31 : decode cX6_eventAt 31 = .ok (.aload_n 0, 1) := by decide +kernel
theorem dX6_eventAt_32 : decode cX6_eventAt 32 = .ok (.getfield 11, 3) := by decide +kernel
theorem dX6_eventAt_35 : decode cX6_eventAt 35 = .ok (.bipush 30, 2) := by decide +kernel
theorem dX6_eventAt_37 : decode cX6_eventAt 37 = .ok (.iload_n 1, 1) := by decide +kernel
theorem dX6_eventAt_38 : decode cX6_eventAt 38 = .ok (.iadd, 1) := by decide +kernel
theorem dX6_eventAt_39 : decode cX6_eventAt 39 = .ok (.iaload, 1) := by decide +kernel
theorem dX6_eventAt_40 : decode cX6_eventAt 40 = .ok (.goto 4, 3) := by decide +kernel
theorem dX6_eventAt_43 : decode cX6_eventAt 43 = .ok (.iconst 0, 1) := by decide +kernel
theorem dX6_eventAt_44 : decode cX6_eventAt 44 = .ok (.ireturn, 1) := by decide +kernel
theorem dX6_addEvent_0 : decode cX6_addEvent 0 = .ok (.aload_n 0, 1) := by decide +kernel
theorem dX6_addEvent_1 : decode cX6_addEvent 1 = .ok (.getfield 11, 3) := by decide +kernel
theorem dX6_addEvent_4 : decode cX6_addEvent 4 = .ok (.bipush 29, 2) := by decide +kernel
theorem dX6_addEvent_6 : decode cX6_addEvent 6 = .ok (.iaload, 1) := by decide +kernel
theorem dX6_addEvent_7 : decode cX6_addEvent 7 = .ok (.istore_n 2, 1) := by decide +kernel
theorem dX6_addEvent_8 : decode cX6_addEvent 8 = .ok (.iload_n 2, 1) := by decide +kernel
theorem dX6_addEvent_9 : decode cX6_addEvent 9 = .ok (.ifCond .lt 29, 3) := by decide +kernel
theorem dX6_addEvent_12 : decode cX6_addEvent 12 = .ok (.iload_n 2, 1) := by decide +kernel
theorem dX6_addEvent_13 : decode cX6_addEvent 13 = .ok (.bipush 40, 2) := by decide +kernel
theorem dX6_addEvent_15 : decode cX6_addEvent 15 = .ok (.if_icmp .ge 23, 3) := by decide +kernel
theorem dX6_addEvent_18 : decode cX6_addEvent 18 = .ok (.aload_n 0, 1) := by decide +kernel
theorem dX6_addEvent_19 : decode cX6_addEvent 19 = .ok (.getfield 11, 3) := by decide +kernel
theorem dX6_addEvent_22 : decode cX6_addEvent 22 = .ok (.bipush 30, 2) := by decide +kernel
theorem dX6_addEvent_24 : decode cX6_addEvent 24 = .ok (.iload_n 2, 1) := by decide +kernel
theorem dX6_addEvent_25 : decode cX6_addEvent 25 = .ok (.iadd, 1) := by decide +kernel
theorem dX6_addEvent_26 : decode cX6_addEvent 26 = .ok (.iload_n 1, 1) := by decide +kernel
theorem dX6_addEvent_27 : decode cX6_addEvent 27 = .ok (.iastore, 1) := by decide +kernel
theorem dX6_addEvent_28 : decode cX6_addEvent 28 = .ok (.aload_n 0, 1) := by decide +kernel
theorem dX6_addEvent_29 : decode cX6_addEvent 29 = .ok (.getfield 11, 3) := by decide +kernel
theorem dX6_addEvent_32 : decode cX6_addEvent 32 = .ok (.bipush 29, 2) := by decide +kernel
theorem dX6_addEvent_34 : decode cX6_addEvent 34 = .ok (.iload_n 2, 1) := by decide +kernel
theorem dX6_addEvent_35 : decode cX6_addEvent 35 = .ok (.iconst 1, 1) := by decide +kernel
theorem dX6_addEvent_36 : decode cX6_addEvent 36 = .ok (.iadd, 1) := by decide +kernel
theorem dX6_addEvent_37 : decode cX6_addEvent 37 = .ok (.iastore, 1) := by decide +kernel
theorem dX6_addEvent_38 : decode cX6_addEvent 38 = .ok (.return_, 1) := by decide +kernel
theorem dX6_keepIn_0 : decode cX6_keepIn 0 = .ok (.aload_n 1, 1) := by decide +kernel
theorem dX6_keepIn_1 : decode cX6_keepIn 1 = .ok (.ifnull 16, 3) := by decide +kernel
theorem dX6_keepIn_4 : decode cX6_keepIn 4 = .ok (.iload_n 2, 1) := by decide +kernel
theorem dX6_keepIn_5 : decode cX6_keepIn 5 = .ok (.ifCond .lt 12, 3) := by decide +kernel
theorem dX6_keepIn_8 : decode cX6_keepIn 8 = .ok (.iload_n 2, 1) := by decide +kernel
theorem dX6_keepIn_9 : decode cX6_keepIn 9 = .ok (.aload_n 1, 1) := by decide +kernel
theorem dX6_keepIn_10 : decode cX6_keepIn 10 = .ok (.arraylength, 1) := by decide +kernel
theorem dX6_keepIn_11 : decode cX6_keepIn 11 = .ok (.bipush 70, 2) := by decide +kernel
theorem dX6_keepIn_13 : decode cX6_keepIn 13 = .ok (.idiv, 1) := by decide +kernel
theorem dX6_keepIn_14 : decode cX6_keepIn 14 = .ok (.if_icmp .lt 5, 3) := by decide +kernel
theorem dX6_keepIn_17 : decode cX6_keepIn 17 = .ok (.iconst 0, 1) := by decide +kernel
theorem dX6_keepIn_18 : decode cX6_keepIn 18 = .ok (.ireturn, 1) := by decide +kernel
theorem dX6_keepIn_19 : decode cX6_keepIn 19 = .ok (.aload_n 0, 1) := by decide +kernel
theorem dX6_keepIn_20 : decode cX6_keepIn 20 = .ok (.getfield 11, 3) := by decide +kernel
theorem dX6_keepIn_23 : decode cX6_keepIn 23 = .ok (.iconst 0, 1) := by decide +kernel
theorem dX6_keepIn_24 : decode cX6_keepIn 24 = .ok (.aload_n 1, 1) := by decide +kernel
theorem dX6_keepIn_25 : decode cX6_keepIn 25 = .ok (.iload_n 2, 1) := by decide +kernel
theorem dX6_keepIn_26 : decode cX6_keepIn 26 = .ok (.bipush 70, 2) := by decide +kernel
theorem dX6_keepIn_28 : decode cX6_keepIn 28 = .ok (.imul, 1) := by decide +kernel
theorem dX6_keepIn_29 : decode cX6_keepIn 29 = .ok (.bipush 70, 2) := by decide +kernel
theorem dX6_keepIn_31 : decode cX6_keepIn 31 = .ok (.invokestatic 18, 3) := by decide +kernel
theorem dX6_keepIn_34 : decode cX6_keepIn 34 = .ok (.iconst 1, 1) := by decide +kernel
theorem dX6_keepIn_35 : decode cX6_keepIn 35 = .ok (.ireturn, 1) := by decide +kernel
theorem dX6_bringFrom_0 : decode cX6_bringFrom 0 = .ok (.aload_n 1, 1) := by decide +kernel
theorem dX6_bringFrom_1 : decode cX6_bringFrom 1 = .ok (.ifnull 16, 3) := by decide +kernel
theorem dX6_bringFrom_4 : decode cX6_bringFrom 4 = .ok (.iload_n 2, 1) := by decide +kernel
theorem dX6_bringFrom_5 : decode cX6_bringFrom 5 = .ok (.ifCond .lt 12, 3) := by decide +kernel
theorem dX6_bringFrom_8 : decode cX6_bringFrom 8 = .ok (.iload_n 2, 1) := by decide +kernel
theorem dX6_bringFrom_9 : decode cX6_bringFrom 9 = .ok (.aload_n 1, 1) := by decide +kernel
theorem dX6_bringFrom_10 : decode cX6_bringFrom 10 = .ok (.arraylength, 1) := by decide +kernel
theorem dX6_bringFrom_11 : decode cX6_bringFrom 11 = .ok (.bipush 70, 2) := by decide +kernel
theorem dX6_bringFrom_13 : decode cX6_bringFrom 13 = .ok (.idiv, 1) := by decide +kernel
theorem dX6_bringFrom_14 : decode cX6_bringFrom 14 = .ok (.if_icmp .lt 5, 3) := by decide +kernel
theorem dX6_bringFrom_17 : decode cX6_bringFrom 17 = .ok (.iconst 0, 1) := by decide +kernel
theorem dX6_bringFrom_18 : decode cX6_bringFrom 18 = .ok (.ireturn, 1) := by decide +kernel
theorem dX6_bringFrom_19 : decode cX6_bringFrom 19 = .ok (.aload_n 1, 1) := by decide +kernel
theorem dX6_bringFrom_20 : decode cX6_bringFrom 20 = .ok (.iload_n 2, 1) := by decide +kernel
theorem dX6_bringFrom_21 : decode cX6_bringFrom 21 = .ok (.bipush 70, 2) := by decide +kernel
theorem dX6_bringFrom_23 : decode cX6_bringFrom 23 = .ok (.imul, 1) := by decide +kernel
theorem dX6_bringFrom_24 : decode cX6_bringFrom 24 = .ok (.aload_n 0, 1) := by decide +kernel
theorem dX6_bringFrom_25 : decode cX6_bringFrom 25 = .ok (.getfield 11, 3) := by decide +kernel
theorem dX6_bringFrom_28 : decode cX6_bringFrom 28 = .ok (.iconst 0, 1) := by decide +kernel
theorem dX6_bringFrom_29 : decode cX6_bringFrom 29 = .ok (.bipush 70, 2) := by decide +kernel
theorem dX6_bringFrom_31 : decode cX6_bringFrom 31 = .ok (.invokestatic 18, 3) := by decide +kernel
theorem dX6_bringFrom_34 : decode cX6_bringFrom 34 = .ok (.iconst 1, 1) := by decide +kernel
theorem dX6_bringFrom_35 : decode cX6_bringFrom 35 = .ok (.ireturn, 1) := by decide +kernel
theorem dX7_init_0 : decode cX7_init 0 = .ok (.aload_n 0, 1) := by decide +kernel
theorem dX7_init_1 : decode cX7_init 1 = .ok (.invokespecial 1, 3) := by decide +kernel
theorem dX7_init_4 : decode cX7_init 4 = .ok (.aload_n 0, 1) := by decide +kernel
theorem dX7_init_5 : decode cX7_init 5 = .ok (.new 7, 3) := by decide +kernel
theorem dX7_init_8 : decode cX7_init 8 = .ok (.dup, 1) := by decide +kernel
theorem dX7_init_9 : decode cX7_init 9 = .ok (.invokespecial 9, 3) := by decide +kernel
theorem dX7_init_12 : decode cX7_init 12 = .ok (.putfield 10, 3) := by decide +kernel
theorem dX7_init_15 : decode cX7_init 15 = .ok (.aload_n 0, 1) := by decide +kernel
theorem dX7_init_16 : decode cX7_init 16 = .ok (.new 16, 3) := by decide +kernel
theorem dX7_init_19 : decode cX7_init 19 = .ok (.dup, 1) := by decide +kernel
theorem dX7_init_20 : decode cX7_init 20 = .ok (.invokespecial 18, 3) := by decide +kernel
theorem dX7_init_23 : decode cX7_init 23 = .ok (.putfield 19, 3) := by decide +kernel
theorem dX7_init_26 : decode cX7_init 26 = .ok (.aload_n 0, 1) := by decide +kernel
theorem dX7_init_27 : decode cX7_init 27 = .ok (.new 23, 3) := by decide +kernel
theorem dX7_init_30 : decode cX7_init 30 = .ok (.dup, 1) := by decide +kernel
theorem dX7_init_31 : decode cX7_init 31 = .ok (.invokespecial 25, 3) := by decide +kernel
theorem dX7_init_34 : decode cX7_init 34 = .ok (.putfield 26, 3) := by decide +kernel
theorem dX7_init_37 : decode cX7_init 37 = .ok (.aload_n 0, 1) := by decide +kernel
theorem dX7_init_38 : decode cX7_init 38 = .ok (.new 30, 3) := by decide +kernel
theorem dX7_init_41 : decode cX7_init 41 = .ok (.dup, 1) := by decide +kernel
theorem dX7_init_42 : decode cX7_init 42 = .ok (.aload_n 0, 1) := by decide +kernel
theorem dX7_init_43 : decode cX7_init 43 = .ok (.getfield 10, 3) := by decide +kernel
theorem dX7_init_46 : decode cX7_init 46 = .ok (.aload_n 0, 1) := by decide +kernel
theorem dX7_init_47 : decode cX7_init 47 = .ok (.getfield 19, 3) := by decide +kernel
theorem dX7_init_50 : decode cX7_init 50 = .ok (.aload_n 0, 1) := by decide +kernel
theorem dX7_init_51 : decode cX7_init 51 = .ok (.getfield 26, 3) := by decide +kernel
theorem dX7_init_54 : decode cX7_init 54 = .ok (.invokespecial 32, 3) := by decide +kernel
theorem dX7_init_57 : decode cX7_init 57 = .ok (.putfield 35, 3) := by decide +kernel
theorem dX7_init_60 : decode cX7_init 60 = .ok (.aload_n 0, 1) := by decide +kernel
theorem dX7_init_61 : decode cX7_init 61 = .ok (.new 39, 3) := by decide +kernel
theorem dX7_init_64 : decode cX7_init 64 = .ok (.dup, 1) := by decide +kernel
theorem dX7_init_65 : decode cX7_init 65 = .ok (.invokespecial 41, 3) := by decide +kernel
theorem dX7_init_68 : decode cX7_init 68 = .ok (.putfield 42, 3) := by decide +kernel
theorem dX7_init_71 : decode cX7_init 71 = .ok (.aload_n 0, 1) := by decide +kernel
theorem dX7_init_72 : decode cX7_init 72 = .ok (.new 46, 3) := by decide +kernel
theorem dX7_init_75 : decode cX7_init 75 = .ok (.dup, 1) := by decide +kernel
theorem dX7_init_76 : decode cX7_init 76 = .ok (.aload_n 0, 1) := by decide +kernel
theorem dX7_init_77 : decode cX7_init 77 = .ok (.getfield 10, 3) := by decide +kernel
theorem dX7_init_80 : decode cX7_init 80 = .ok (.aload_n 0, 1) := by decide +kernel
theorem dX7_init_81 : decode cX7_init 81 = .ok (.getfield 19, 3) := by decide +kernel
theorem dX7_init_84 : decode cX7_init 84 = .ok (.aload_n 0, 1) := by decide +kernel
theorem dX7_init_85 : decode cX7_init 85 = .ok (.getfield 26, 3) := by decide +kernel
theorem dX7_init_88 : decode cX7_init 88 = .ok (.aload_n 0, 1) := by decide +kernel
theorem dX7_init_89 : decode cX7_init 89 = .ok (.getfield 35, 3) := by decide +kernel
theorem dX7_init_92 : decode cX7_init 92 = .ok (.aload_n 0, 1) := by decide +kernel
theorem dX7_init_93 : decode cX7_init 93 = .ok (.getfield 42, 3) := by decide +kernel
theorem dX7_init_96 : decode cX7_init 96 = .ok (.invokespecial 48, 3) := by decide +kernel
theorem dX7_init_99 : decode cX7_init 99 = .ok (.putfield 51, 3) := by decide +kernel
theorem dX7_init_102 : decode cX7_init 102 = .ok (.aload_n 0, 1) := by decide +kernel
theorem dX7_init_103 : decode cX7_init 103 = .ok (.new 55, 3) := by decide +kernel
theorem dX7_init_106 : decode cX7_init 106 = .ok (.dup, 1) := by decide +kernel
theorem dX7_init_107 : decode cX7_init 107 = .ok (.aload_n 0, 1) := by decide +kernel
theorem dX7_init_108 : decode cX7_init 108 = .ok (.getfield 19, 3) := by decide +kernel
theorem dX7_init_111 : decode cX7_init 111 = .ok (.invokespecial 57, 3) := by decide +kernel
theorem dX7_init_114 : decode cX7_init 114 = .ok (.putfield 60, 3) := by decide +kernel
theorem dX7_init_117 : decode cX7_init 117 = .ok (.return_, 1) := by decide +kernel
theorem dX7_account_0 : decode cX7_account 0 = .ok (.aload_n 0, 1) := by decide +kernel
theorem dX7_account_1 : decode cX7_account 1 = .ok (.getfield 10, 3) := by decide +kernel
theorem dX7_account_4 : decode cX7_account 4 = .ok (.iload_n 1, 1) := by decide +kernel
theorem dX7_account_5 : decode cX7_account 5 = .ok (.iload_n 2, 1) := by decide +kernel
theorem dX7_account_6 : decode cX7_account 6 = .ok (.invokevirtual 64, 3) := by decide +kernel
theorem dX7_account_9 : decode cX7_account 9 = .ok (.ifCond .eq 7, 3) := by decide +kernel
theorem dX7_account_12 : decode cX7_account 12 = .ok (.iconst 1, 1) := by decide +kernel
theorem dX7_account_13 : decode cX7_account 13 = .ok (.goto 4, 3) := by decide +kernel
theorem dX7_account_16 : decode cX7_account 16 = .ok (.iconst (-1), 1) := by decide +kernel
theorem dX7_account_17 : decode cX7_account 17 = .ok (.ireturn, 1) := by decide +kernel
theorem dX7_contract_0 : decode cX7_contract 0 = .ok (.aload_n 0, 1) := by decide +kernel
theorem dX7_contract_1 : decode cX7_contract 1 = .ok (.getfield 19, 3) := by decide +kernel
theorem dX7_contract_4 : decode cX7_contract 4 = .ok (.invokevirtual 68, 3) := by decide +kernel
theorem dX7_contract_7 : decode cX7_contract 7 = .ok (.ireturn, 1) := by decide +kernel
theorem dX7_step_0 : decode cX7_step 0 = .ok (.aload_n 0, 1) := by decide +kernel
theorem dX7_step_1 : decode cX7_step 1 = .ok (.getfield 19, 3) := by decide +kernel
theorem dX7_step_4 : decode cX7_step 4 = .ok (.iload_n 1, 1) := by decide +kernel
theorem dX7_step_5 : decode cX7_step 5 = .ok (.iload_n 2, 1) := by decide +kernel
theorem dX7_step_6 : decode cX7_step 6 = .ok (.invokevirtual 72, 3) := by decide +kernel
theorem dX7_step_9 : decode cX7_step 9 = .ok (.istore 6, 2) := by decide +kernel
theorem dX7_step_11 : decode cX7_step 11 = .ok (.iload 6, 2) := by decide +kernel
theorem dX7_step_13 : decode cX7_step 13 = .ok (.ifCond .lt 12, 3) := by decide +kernel
theorem dX7_step_16 : decode cX7_step 16 = .ok (.iload_n 3, 1) := by decide +kernel
theorem dX7_step_17 : decode cX7_step 17 = .ok (.iload 4, 2) := by decide +kernel
theorem dX7_step_19 : decode cX7_step 19 = .ok (.invokestatic 76, 3) := by decide +kernel
theorem dX7_step_22 : decode cX7_step 22 = .ok (.ifCond .ne 5, 3) := by decide +kernel
theorem dX7_step_25 : decode cX7_step 25 = .ok (.iconst (-1), 1) := by decide +kernel
theorem dX7_step_26 : decode cX7_step 26 = .ok (.ireturn, 1) := by decide +kernel
theorem dX7_step_27 : decode cX7_step 27 = .ok (.aload_n 0, 1) := by decide +kernel
theorem dX7_step_28 : decode cX7_step 28 = .ok (.getfield 19, 3) := by decide +kernel
theorem dX7_step_31 : decode cX7_step 31 = .ok (.iload 6, 2) := by decide +kernel
theorem dX7_step_33 : decode cX7_step 33 = .ok (.iload_n 3, 1) := by decide +kernel
theorem dX7_step_34 : decode cX7_step 34 = .ok (.iload 4, 2) := by decide +kernel
theorem dX7_step_36 : decode cX7_step 36 = .ok (.iload 5, 2) := by decide +kernel
theorem dX7_step_38 : decode cX7_step 38 = .ok (.invokevirtual 79, 3) := by decide +kernel
theorem dX7_step_41 : decode cX7_step 41 = .ok (.ireturn, 1) := by decide +kernel
theorem dX7_bind_0 : decode cX7_bind 0 = .ok (.iload_n 2, 1) := by decide +kernel
theorem dX7_bind_1 : decode cX7_bind 1 = .ok (.iconst (-1), 1) := by decide +kernel
theorem dX7_bind_2 : decode cX7_bind 2 = .ok (.if_icmp .ne 7, 3) := by decide +kernel
theorem dX7_bind_5 : decode cX7_bind 5 = .ok (.iconst (-1), 1) := by decide +kernel
theorem dX7_bind_6 : decode cX7_bind 6 = .ok (.goto 12, 3) := by decide +kernel
theorem dX7_bind_9 : decode cX7_bind 9 = .ok (.aload_n 0, 1) := by decide +kernel
theorem dX7_bind_10 : decode cX7_bind 10 = .ok (.getfield 19, 3) := by decide +kernel
theorem dX7_bind_13 : decode cX7_bind 13 = .ok (.iload_n 2, 1) := by decide +kernel
theorem dX7_bind_14 : decode cX7_bind 14 = .ok (.iload_n 3, 1) := by decide +kernel
theorem dX7_bind_15 : decode cX7_bind 15 = .ok (.invokevirtual 72, 3) := by decide +kernel
theorem dX7_bind_18 : decode cX7_bind 18 = .ok (.istore 4, 2) := by decide +kernel
theorem dX7_bind_20 : decode cX7_bind 20 = .ok (.iload_n 1, 1) := by decide +kernel
theorem dX7_bind_21 : decode cX7_bind 21 = .ok (.invokestatic 83, 3) := by decide +kernel
theorem dX7_bind_24 : decode cX7_bind 24 = .ok (.ifCond .eq 13, 3) := by decide +kernel
theorem dX7_bind_27 : decode cX7_bind 27 = .ok (.iload_n 2, 1) := by decide +kernel
theorem dX7_bind_28 : decode cX7_bind 28 = .ok (.iconst (-1), 1) := by decide +kernel
theorem dX7_bind_29 : decode cX7_bind 29 = .ok (.if_icmp .eq 10, 3) := by decide +kernel
theorem dX7_bind_32 : decode cX7_bind 32 = .ok (.iload 4, 2) := by decide +kernel
theorem dX7_bind_34 : decode cX7_bind 34 = .ok (.ifCond .ge 5, 3) := by decide +kernel
theorem dX7_bind_37 : decode cX7_bind 37 = .ok (.iconst (-1), 1) := by decide +kernel
theorem dX7_bind_38 : decode cX7_bind 38 = .ok (.ireturn, 1) := by decide +kernel
theorem dX7_bind_39 : decode cX7_bind 39 = .ok (.aload_n 0, 1) := by decide +kernel
theorem dX7_bind_40 : decode cX7_bind 40 = .ok (.getfield 26, 3) := by decide +kernel
theorem dX7_bind_43 : decode cX7_bind 43 = .ok (.iload_n 1, 1) := by decide +kernel
theorem dX7_bind_44 : decode cX7_bind 44 = .ok (.iload 4, 2) := by decide +kernel
theorem dX7_bind_46 : decode cX7_bind 46 = .ok (.invokevirtual 87, 3) := by decide +kernel
theorem dX7_bind_49 : decode cX7_bind 49 = .ok (.iconst 1, 1) := by decide +kernel
theorem dX7_bind_50 : decode cX7_bind 50 = .ok (.ireturn, 1) := by decide +kernel
theorem dX7_time_0 : decode cX7_time 0 = .ok (.aload_n 0, 1) := by decide +kernel
theorem dX7_time_1 : decode cX7_time 1 = .ok (.getfield 10, 3) := by decide +kernel
theorem dX7_time_4 : decode cX7_time 4 = .ok (.iload_n 1, 1) := by decide +kernel
theorem dX7_time_5 : decode cX7_time 5 = .ok (.invokevirtual 91, 3) := by decide +kernel
theorem dX7_time_8 : decode cX7_time 8 = .ok (.ifCond .eq 13, 3) := by decide +kernel
theorem dX7_time_11 : decode cX7_time 11 = .ok (.aload_n 0, 1) := by decide +kernel
theorem dX7_time_12 : decode cX7_time 12 = .ok (.getfield 10, 3) := by decide +kernel
theorem dX7_time_15 : decode cX7_time 15 = .ok (.invokevirtual 94, 3) := by decide +kernel
theorem dX7_time_18 : decode cX7_time 18 = .ok (.goto 4, 3) := by decide +kernel
theorem dX7_time_21 : decode cX7_time 21 = .ok (.iconst (-1), 1) := by decide +kernel
theorem dX7_time_22 : decode cX7_time 22 = .ok (.ireturn, 1) := by decide +kernel
theorem dX7_call_0 : decode cX7_call 0 = .ok (.aload_n 0, 1) := by decide +kernel
theorem dX7_call_1 : decode cX7_call 1 = .ok (.getfield 19, 3) := by decide +kernel
theorem dX7_call_4 : decode cX7_call 4 = .ok (.iload_n 2, 1) := by decide +kernel
theorem dX7_call_5 : decode cX7_call 5 = .ok (.iload_n 3, 1) := by decide +kernel
theorem dX7_call_6 : decode cX7_call 6 = .ok (.invokevirtual 72, 3) := by decide +kernel
theorem dX7_call_9 : decode cX7_call 9 = .ok (.istore 6, 2) := by decide +kernel
theorem dX7_call_11 : decode cX7_call 11 = .ok (.iload 6, 2) := by decide +kernel
theorem dX7_call_13 : decode cX7_call 13 = .ok (.ifCond .lt 15, 3) := by decide +kernel
theorem dX7_call_16 : decode cX7_call 16 = .ok (.iload_n 1, 1) := by decide +kernel
theorem dX7_call_17 : decode cX7_call 17 = .ok (.invokestatic 97, 3) := by decide +kernel
theorem dX7_call_20 : decode cX7_call 20 = .ok (.ifCond .eq 8, 3) := by decide +kernel
theorem dX7_call_23 : decode cX7_call 23 = .ok (.iload 5, 2) := by decide +kernel
theorem dX7_call_25 : decode cX7_call 25 = .ok (.ifCond .ge 5, 3) := by decide +kernel
theorem dX7_call_28 : decode cX7_call 28 = .ok (.iconst (-1), 1) := by decide +kernel
theorem dX7_call_29 : decode cX7_call 29 = .ok (.ireturn, 1) := by decide +kernel
theorem dX7_call_30 : decode cX7_call 30 = .ok (.aload_n 0, 1) := by decide +kernel
theorem dX7_call_31 : decode cX7_call 31 = .ok (.getfield 35, 3) := by decide +kernel
theorem dX7_call_34 : decode cX7_call 34 = .ok (.iload_n 1, 1) := by decide +kernel
theorem dX7_call_35 : decode cX7_call 35 = .ok (.iload 6, 2) := by decide +kernel
theorem dX7_call_37 : decode cX7_call 37 = .ok (.iload 4, 2) := by decide +kernel
theorem dX7_call_39 : decode cX7_call 39 = .ok (.iload 5, 2) := by decide +kernel
theorem dX7_call_41 : decode cX7_call 41 = .ok (.invokevirtual 100, 3) := by decide +kernel
theorem dX7_call_44 : decode cX7_call 44 = .ok (.aload_n 0, 1) := by decide +kernel
theorem dX7_call_45 : decode cX7_call 45 = .ok (.getfield 35, 3) := by decide +kernel
theorem dX7_call_48 : decode cX7_call 48 = .ok (.invokevirtual 104, 3) := by decide +kernel
theorem dX7_call_51 : decode cX7_call 51 = .ok (.ifCond .eq 16, 3) := by decide +kernel
theorem dX7_call_54 : decode cX7_call 54 = .ok (.bipush (-10), 2) := by decide +kernel
theorem dX7_call_56 : decode cX7_call 56 = .ok (.aload_n 0, 1) := by decide +kernel
theorem dX7_call_57 : decode cX7_call 57 = .ok (.getfield 35, 3) := by decide +kernel
theorem dX7_call_60 : decode cX7_call 60 = .ok (.invokevirtual 108, 3) := by decide +kernel
theorem dX7_call_63 : decode cX7_call 63 = .ok (.isub, 1) := by decide +kernel
theorem dX7_call_64 : decode cX7_call 64 = .ok (.goto 4, 3) := by decide +kernel
theorem dX7_call_67 : decode cX7_call 67 = .ok (.iconst 1, 1) := by decide +kernel
theorem dX7_call_68 : decode cX7_call 68 = .ok (.ireturn, 1) := by decide +kernel
theorem dX7_told_0 : decode cX7_told 0 = .ok (.iload_n 1, 1) := by decide +kernel
theorem dX7_told_1 : decode cX7_told 1 = .ok (.tableswitch 63 0 3 #[31, 39, 47, 55], 31) := by decide +kernel
theorem dX7_told_32 : decode cX7_told 32 = .ok (.aload_n 0, 1) := by decide +kernel
theorem dX7_told_33 : decode cX7_told 33 = .ok (.getfield 35, 3) := by decide +kernel
theorem dX7_told_36 : decode cX7_told 36 = .ok (.invokevirtual 111, 3) := by decide +kernel
theorem dX7_told_39 : decode cX7_told 39 = .ok (.ireturn, 1) := by decide +kernel
theorem dX7_told_40 : decode cX7_told 40 = .ok (.aload_n 0, 1) := by decide +kernel
theorem dX7_told_41 : decode cX7_told 41 = .ok (.getfield 35, 3) := by decide +kernel
theorem dX7_told_44 : decode cX7_told 44 = .ok (.invokevirtual 108, 3) := by decide +kernel
theorem dX7_told_47 : decode cX7_told 47 = .ok (.ireturn, 1) := by decide +kernel
theorem dX7_told_48 : decode cX7_told 48 = .ok (.aload_n 0, 1) := by decide +kernel
theorem dX7_told_49 : decode cX7_told 49 = .ok (.getfield 35, 3) := by decide +kernel
theorem dX7_told_52 : decode cX7_told 52 = .ok (.invokevirtual 114, 3) := by decide +kernel
theorem dX7_told_55 : decode cX7_told 55 = .ok (.ireturn, 1) := by decide +kernel
theorem dX7_told_56 : decode cX7_told 56 = .ok (.aload_n 0, 1) := by decide +kernel
theorem dX7_told_57 : decode cX7_told 57 = .ok (.getfield 35, 3) := by decide +kernel
theorem dX7_told_60 : decode cX7_told 60 = .ok (.invokevirtual 117, 3) := by decide +kernel
theorem dX7_told_63 : decode cX7_told 63 = .ok (.ireturn, 1) := by decide +kernel
theorem dX7_told_64 : decode cX7_told 64 = .ok (.iconst 0, 1) := by decide +kernel
theorem dX7_told_65 : decode cX7_told 65 = .ok (.ireturn, 1) := by decide +kernel
theorem dX7_line_0 : decode cX7_line 0 = .ok (.lload_n 2, 1) := by decide +kernel
theorem dX7_line_1 : decode cX7_line 1 = .ok (.invokestatic 120, 3) := by decide +kernel
theorem dX7_line_4 : decode cX7_line 4 = .ok (.istore 7, 2) := by decide +kernel
theorem dX7_line_6 : decode cX7_line 6 = .ok (.iload_n 1, 1) := by decide +kernel
theorem dX7_line_7 : decode cX7_line 7 = .ok (.invokestatic 124, 3) := by decide +kernel
theorem dX7_line_10 : decode cX7_line 10 = .ok (.ifCond .eq 8, 3) := by decide +kernel
theorem dX7_line_13 : decode cX7_line 13 = .ok (.iload 7, 2) := by decide +kernel
theorem dX7_line_15 : decode cX7_line 15 = .ok (.ifCond .ge 5, 3) := by decide +kernel
theorem dX7_line_18 : decode cX7_line 18 = .ok (.iconst (-1), 1) := by decide +kernel
theorem dX7_line_19 : decode cX7_line 19 = .ok (.ireturn, 1) := by decide +kernel
theorem dX7_line_20 : decode cX7_line 20 = .ok (.aload_n 0, 1) := by decide +kernel
theorem dX7_line_21 : decode cX7_line 21 = .ok (.getfield 42, 3) := by decide +kernel
theorem dX7_line_24 : decode cX7_line 24 = .ok (.iload_n 1, 1) := by decide +kernel
theorem dX7_line_25 : decode cX7_line 25 = .ok (.iload 7, 2) := by decide +kernel
theorem dX7_line_27 : decode cX7_line 27 = .ok (.iload 4, 2) := by decide +kernel
theorem dX7_line_29 : decode cX7_line 29 = .ok (.iload 5, 2) := by decide +kernel
theorem dX7_line_31 : decode cX7_line 31 = .ok (.iload 6, 2) := by decide +kernel
theorem dX7_line_33 : decode cX7_line 33 = .ok (.invokevirtual 127, 3) := by decide +kernel
theorem dX7_line_36 : decode cX7_line 36 = .ok (.ireturn, 1) := by decide +kernel
theorem dX7_clear_0 : decode cX7_clear 0 = .ok (.iload_n 1, 1) := by decide +kernel
theorem dX7_clear_1 : decode cX7_clear 1 = .ok (.invokestatic 124, 3) := by decide +kernel
theorem dX7_clear_4 : decode cX7_clear 4 = .ok (.ifCond .eq 14, 3) := by decide +kernel
theorem dX7_clear_7 : decode cX7_clear 7 = .ok (.aload_n 0, 1) := by decide +kernel
theorem dX7_clear_8 : decode cX7_clear 8 = .ok (.getfield 42, 3) := by decide +kernel
theorem dX7_clear_11 : decode cX7_clear 11 = .ok (.iload_n 1, 1) := by decide +kernel
theorem dX7_clear_12 : decode cX7_clear 12 = .ok (.invokevirtual 130, 3) := by decide +kernel
theorem dX7_clear_15 : decode cX7_clear 15 = .ok (.goto 4, 3) := by decide +kernel
theorem dX7_clear_18 : decode cX7_clear 18 = .ok (.iconst (-1), 1) := by decide +kernel
theorem dX7_clear_19 : decode cX7_clear 19 = .ok (.ireturn, 1) := by decide +kernel
theorem dX7_run_0 : decode cX7_run 0 = .ok (.iload_n 1, 1) := by decide +kernel
theorem dX7_run_1 : decode cX7_run 1 = .ok (.invokestatic 124, 3) := by decide +kernel
theorem dX7_run_4 : decode cX7_run 4 = .ok (.ifCond .eq 15, 3) := by decide +kernel
theorem dX7_run_7 : decode cX7_run 7 = .ok (.aload_n 0, 1) := by decide +kernel
theorem dX7_run_8 : decode cX7_run 8 = .ok (.getfield 51, 3) := by decide +kernel
theorem dX7_run_11 : decode cX7_run 11 = .ok (.iload_n 1, 1) := by decide +kernel
theorem dX7_run_12 : decode cX7_run 12 = .ok (.iconst 0, 1) := by decide +kernel
theorem dX7_run_13 : decode cX7_run 13 = .ok (.invokevirtual 134, 3) := by decide +kernel
theorem dX7_run_16 : decode cX7_run 16 = .ok (.goto 5, 3) := by decide +kernel
theorem dX7_run_19 : decode cX7_run 19 = .ok (.bipush (-2), 2) := by decide +kernel
theorem dX7_run_21 : decode cX7_run 21 = .ok (.ireturn, 1) := by decide +kernel
theorem dX7_mutants_0 : decode cX7_mutants 0 = .ok (.aload_n 0, 1) := by decide +kernel
theorem dX7_mutants_1 : decode cX7_mutants 1 = .ok (.getfield 19, 3) := by decide +kernel
theorem dX7_mutants_4 : decode cX7_mutants 4 = .ok (.iload_n 1, 1) := by decide +kernel
theorem dX7_mutants_5 : decode cX7_mutants 5 = .ok (.invokevirtual 137, 3) := by decide +kernel
theorem dX7_mutants_8 : decode cX7_mutants 8 = .ok (.ifCond .eq 14, 3) := by decide +kernel
theorem dX7_mutants_11 : decode cX7_mutants 11 = .ok (.aload_n 0, 1) := by decide +kernel
theorem dX7_mutants_12 : decode cX7_mutants 12 = .ok (.getfield 60, 3) := by decide +kernel
theorem dX7_mutants_15 : decode cX7_mutants 15 = .ok (.iload_n 1, 1) := by decide +kernel
theorem dX7_mutants_16 : decode cX7_mutants 16 = .ok (.invokevirtual 140, 3) := by decide +kernel
theorem dX7_mutants_19 : decode cX7_mutants 19 = .ok (.goto 4, 3) := by decide +kernel
theorem dX7_mutants_22 : decode cX7_mutants 22 = .ok (.iconst (-1), 1) := by decide +kernel
theorem dX7_mutants_23 : decode cX7_mutants 23 = .ok (.ireturn, 1) := by decide +kernel
theorem dX7_mutant_0 : decode cX7_mutant 0 = .ok (.aload_n 0, 1) := by decide +kernel
theorem dX7_mutant_1 : decode cX7_mutant 1 = .ok (.getfield 19, 3) := by decide +kernel
theorem dX7_mutant_4 : decode cX7_mutant 4 = .ok (.iload_n 1, 1) := by decide +kernel
theorem dX7_mutant_5 : decode cX7_mutant 5 = .ok (.invokevirtual 137, 3) := by decide +kernel
theorem dX7_mutant_8 : decode cX7_mutant 8 = .ok (.ifCond .ne 5, 3) := by decide +kernel
theorem dX7_mutant_11 : decode cX7_mutant 11 = .ok (.iconst (-1), 1) := by decide +kernel
theorem dX7_mutant_12 : decode cX7_mutant 12 = .ok (.ireturn, 1) := by decide +kernel
theorem dX7_mutant_13 : decode cX7_mutant 13 = .ok (.aload_n 0, 1) := by decide +kernel
theorem dX7_mutant_14 : decode cX7_mutant 14 = .ok (.getfield 60, 3) := by decide +kernel
theorem dX7_mutant_17 : decode cX7_mutant 17 = .ok (.iload_n 1, 1) := by decide +kernel
theorem dX7_mutant_18 : decode cX7_mutant 18 = .ok (.iload_n 2, 1) := by decide +kernel
theorem dX7_mutant_19 : decode cX7_mutant 19 = .ok (.invokevirtual 143, 3) := by decide +kernel
theorem dX7_mutant_22 : decode cX7_mutant 22 = .ok (.istore 4, 2) := by decide +kernel
theorem dX7_mutant_24 : decode cX7_mutant 24 = .ok (.iload 4, 2) := by decide +kernel
theorem dX7_mutant_26 : decode cX7_mutant 26 = .ok (.ifCond .ge 5, 3) := by decide +kernel
theorem dX7_mutant_29 : decode cX7_mutant 29 = .ok (.iconst (-1), 1) := by decide +kernel
theorem dX7_mutant_30 : decode cX7_mutant 30 = .ok (.ireturn, 1) := by decide +kernel
theorem dX7_mutant_31 : decode cX7_mutant 31 = .ok (.iload_n 3, 1) := by decide +kernel
theorem dX7_mutant_32 : decode cX7_mutant 32 = .ok (.tableswitch 54 0 2 #[28, 34, 40], 28) := by decide +kernel
theorem dX7_mutant_60 : decode cX7_mutant 60 = .ok (.iload 4, 2) := by decide +kernel
theorem dX7_mutant_62 : decode cX7_mutant 62 = .ok (.invokestatic 146, 3) := by decide +kernel
theorem dX7_mutant_65 : decode cX7_mutant 65 = .ok (.ireturn, 1) := by decide +kernel
theorem dX7_mutant_66 : decode cX7_mutant 66 = .ok (.iload 4, 2) := by decide +kernel
theorem dX7_mutant_68 : decode cX7_mutant 68 = .ok (.invokestatic 149, 3) := by decide +kernel
theorem dX7_mutant_71 : decode cX7_mutant 71 = .ok (.ireturn, 1) := by decide +kernel
theorem dX7_mutant_72 : decode cX7_mutant 72 = .ok (.iload 4, 2) := by decide +kernel
theorem dX7_mutant_74 : decode cX7_mutant 74 = .ok (.invokestatic 152, 3) := by decide +kernel
theorem dX7_mutant_77 : decode cX7_mutant 77 = .ok (.ifCond .eq 7, 3) := by decide +kernel
theorem dX7_mutant_80 : decode cX7_mutant 80 = .ok (.iconst 1, 1) := by decide +kernel
theorem dX7_mutant_81 : decode cX7_mutant 81 = .ok (.goto 4, 3) := by decide +kernel
theorem dX7_mutant_84 : decode cX7_mutant 84 = .ok (.iconst 0, 1) := by decide +kernel
theorem dX7_mutant_85 : decode cX7_mutant 85 = .ok (.ireturn, 1) := by decide +kernel
theorem dX7_mutant_86 : decode cX7_mutant 86 = .ok (.iconst (-1), 1) := by decide +kernel
theorem dX7_mutant_87 : decode cX7_mutant 87 = .ok (.ireturn, 1) := by decide +kernel
theorem dX7_judge_0 : decode cX7_judge 0 = .ok (.aload_n 0, 1) := by decide +kernel
theorem dX7_judge_1 : decode cX7_judge 1 = .ok (.getfield 19, 3) := by decide +kernel
theorem dX7_judge_4 : decode cX7_judge 4 = .ok (.iload_n 1, 1) := by decide +kernel
theorem dX7_judge_5 : decode cX7_judge 5 = .ok (.invokevirtual 137, 3) := by decide +kernel
theorem dX7_judge_8 : decode cX7_judge 8 = .ok (.ifCond .ne 5, 3) := by decide +kernel
theorem dX7_judge_11 : decode cX7_judge 11 = .ok (.iconst (-1), 1) := by decide +kernel
theorem dX7_judge_12 : decode cX7_judge 12 = .ok (.ireturn, 1) := by decide +kernel
theorem dX7_judge_13 : decode cX7_judge 13 = .ok (.iconst 0, 1) := by decide +kernel
theorem dX7_judge_14 : decode cX7_judge 14 = .ok (.istore_n 2, 1) := by decide +kernel
theorem dX7_judge_15 : decode cX7_judge 15 = .ok (.iconst 0, 1) := by decide +kernel
theorem dX7_judge_16 : decode cX7_judge 16 = .ok (.istore_n 3, 1) := by decide +kernel
theorem dX7_judge_17 : decode cX7_judge 17 = .ok (.iload_n 3, 1) := by decide +kernel
theorem dX7_judge_18 : decode cX7_judge 18 = .ok (.bipush 6, 2) := by decide +kernel
theorem dX7_judge_20 : decode cX7_judge 20 = .ok (.if_icmp .ge 28, 3) := by decide +kernel
theorem dX7_judge_23 : decode cX7_judge 23 = .ok (.aload_n 0, 1) := by decide +kernel
theorem dX7_judge_24 : decode cX7_judge 24 = .ok (.getfield 51, 3) := by decide +kernel
theorem dX7_judge_27 : decode cX7_judge 27 = .ok (.iload_n 3, 1) := by decide +kernel
theorem dX7_judge_28 : decode cX7_judge 28 = .ok (.iconst 0, 1) := by decide +kernel
theorem dX7_judge_29 : decode cX7_judge 29 = .ok (.invokevirtual 134, 3) := by decide +kernel
theorem dX7_judge_32 : decode cX7_judge 32 = .ok (.iconst (-1), 1) := by decide +kernel
theorem dX7_judge_33 : decode cX7_judge 33 = .ok (.if_icmp .ne 9, 3) := by decide +kernel
theorem dX7_judge_36 : decode cX7_judge 36 = .ok (.iload_n 2, 1) := by decide +kernel
theorem dX7_judge_37 : decode cX7_judge 37 = .ok (.iconst 1, 1) := by decide +kernel
theorem dX7_judge_38 : decode cX7_judge 38 = .ok (.iload_n 3, 1) := by decide +kernel
theorem dX7_judge_39 : decode cX7_judge 39 = .ok (.ishl, 1) := by decide +kernel
theorem dX7_judge_40 : decode cX7_judge 40 = .ok (.ior, 1) := by decide +kernel
theorem dX7_judge_41 : decode cX7_judge 41 = .ok (.istore_n 2, 1) := by decide +kernel
theorem dX7_judge_42 : decode cX7_judge 42 = .ok (.iinc 3 1, 3) := by decide +kernel
theorem dX7_judge_45 : decode cX7_judge 45 = .ok (.goto (-28), 3) := by decide +kernel
theorem dX7_judge_48 : decode cX7_judge 48 = .ok (.aload_n 0, 1) := by decide +kernel
theorem dX7_judge_49 : decode cX7_judge 49 = .ok (.getfield 60, 3) := by decide +kernel
theorem dX7_judge_52 : decode cX7_judge 52 = .ok (.iload_n 1, 1) := by decide +kernel
theorem dX7_judge_53 : decode cX7_judge 53 = .ok (.invokevirtual 155, 3) := by decide +kernel
theorem dX7_judge_56 : decode cX7_judge 56 = .ok (.istore_n 3, 1) := by decide +kernel
theorem dX7_judge_57 : decode cX7_judge 57 = .ok (.iconst 0, 1) := by decide +kernel
theorem dX7_judge_58 : decode cX7_judge 58 = .ok (.istore 4, 2) := by decide +kernel
theorem dX7_judge_60 : decode cX7_judge 60 = .ok (.iconst 0, 1) := by decide +kernel
theorem dX7_judge_61 : decode cX7_judge 61 = .ok (.istore 5, 2) := by decide +kernel
theorem dX7_judge_63 : decode cX7_judge 63 = .ok (.iload 5, 2) := by decide +kernel
theorem dX7_judge_65 : decode cX7_judge 65 = .ok (.iload_n 3, 1) := by decide +kernel
theorem dX7_judge_66 : decode cX7_judge 66 = .ok (.if_icmp .ge 87, 3) := by decide +kernel
theorem dX7_judge_69 : decode cX7_judge 69 = .ok (.aload_n 0, 1) := by decide +kernel
theorem dX7_judge_70 : decode cX7_judge 70 = .ok (.getfield 60, 3) := by decide +kernel
theorem dX7_judge_73 : decode cX7_judge 73 = .ok (.iload_n 1, 1) := by decide +kernel
theorem dX7_judge_74 : decode cX7_judge 74 = .ok (.iload 5, 2) := by decide +kernel
theorem dX7_judge_76 : decode cX7_judge 76 = .ok (.invokevirtual 158, 3) := by decide +kernel
theorem dX7_judge_79 : decode cX7_judge 79 = .ok (.iconst (-1), 1) := by decide +kernel
theorem dX7_judge_80 : decode cX7_judge 80 = .ok (.istore 6, 2) := by decide +kernel
theorem dX7_judge_82 : decode cX7_judge 82 = .ok (.iconst 0, 1) := by decide +kernel
theorem dX7_judge_83 : decode cX7_judge 83 = .ok (.istore 7, 2) := by decide +kernel
theorem dX7_judge_85 : decode cX7_judge 85 = .ok (.iload 7, 2) := by decide +kernel
theorem dX7_judge_87 : decode cX7_judge 87 = .ok (.bipush 6, 2) := by decide +kernel
theorem dX7_judge_89 : decode cX7_judge 89 = .ok (.if_icmp .ge 46, 3) := by decide +kernel
theorem dX7_judge_92 : decode cX7_judge 92 = .ok (.iload 6, 2) := by decide +kernel
theorem dX7_judge_94 : decode cX7_judge 94 = .ok (.iconst (-1), 1) := by decide +kernel
theorem dX7_judge_95 : decode cX7_judge 95 = .ok (.if_icmp .ne 40, 3) := by decide +kernel
theorem dX7_judge_98 : decode cX7_judge 98 = .ok (.iload_n 2, 1) := by decide +kernel
theorem dX7_judge_99 : decode cX7_judge 99 = .ok (.iload 7, 2) := by decide +kernel
theorem dX7_judge_101 : decode cX7_judge 101 = .ok (.ishr, 1) := by decide +kernel
theorem dX7_judge_102 : decode cX7_judge 102 = .ok (.iconst 1, 1) := by decide +kernel
theorem dX7_judge_103 : decode cX7_judge 103 = .ok (.iand, 1) := by decide +kernel
theorem dX7_judge_104 : decode cX7_judge 104 = .ok (.iconst 1, 1) := by decide +kernel
theorem dX7_judge_105 : decode cX7_judge 105 = .ok (.if_icmp .ne 24, 3) := by decide +kernel
theorem dX7_judge_108 : decode cX7_judge 108 = .ok (.aload_n 0, 1) := by decide +kernel
theorem dX7_judge_109 : decode cX7_judge 109 = .ok (.getfield 51, 3) := by decide +kernel
theorem dX7_judge_112 : decode cX7_judge 112 = .ok (.iload 7, 2) := by decide +kernel
theorem dX7_judge_114 : decode cX7_judge 114 = .ok (.iconst 0, 1) := by decide +kernel
theorem dX7_judge_115 : decode cX7_judge 115 = .ok (.invokevirtual 134, 3) := by decide +kernel
theorem dX7_judge_118 : decode cX7_judge 118 = .ok (.iconst (-1), 1) := by decide +kernel
theorem dX7_judge_119 : decode cX7_judge 119 = .ok (.if_icmp .eq 10, 3) := by decide +kernel
theorem dX7_judge_122 : decode cX7_judge 122 = .ok (.iload 7, 2) := by decide +kernel
theorem dX7_judge_124 : decode cX7_judge 124 = .ok (.istore 6, 2) := by decide +kernel
theorem dX7_judge_126 : decode cX7_judge 126 = .ok (.iinc 4 1, 3) := by decide +kernel
theorem dX7_judge_129 : decode cX7_judge 129 = .ok (.iinc 7 1, 3) := by decide +kernel
theorem dX7_judge_132 : decode cX7_judge 132 = .ok (.goto (-47), 3) := by decide +kernel
theorem dX7_judge_135 : decode cX7_judge 135 = .ok (.aload_n 0, 1) := by decide +kernel
theorem dX7_judge_136 : decode cX7_judge 136 = .ok (.getfield 60, 3) := by decide +kernel
theorem dX7_judge_139 : decode cX7_judge 139 = .ok (.iload_n 1, 1) := by decide +kernel
theorem dX7_judge_140 : decode cX7_judge 140 = .ok (.iload 5, 2) := by decide +kernel
theorem dX7_judge_142 : decode cX7_judge 142 = .ok (.iload 6, 2) := by decide +kernel
theorem dX7_judge_144 : decode cX7_judge 144 = .ok (.invokevirtual 161, 3) := by decide +kernel
theorem dX7_judge_147 : decode cX7_judge 147 = .ok (.iinc 5 1, 3) := by decide +kernel
theorem dX7_judge_150 : decode cX7_judge 150 = .ok (.goto (-87), 3) := by decide +kernel
theorem dX7_judge_153 : decode cX7_judge 153 = .ok (.iload 4, 2) := by decide +kernel
theorem dX7_judge_155 : decode cX7_judge 155 = .ok (.ireturn, 1) := by decide +kernel
theorem dX7_killer_0 : decode cX7_killer 0 = .ok (.aload_n 0, 1) := by decide +kernel
theorem dX7_killer_1 : decode cX7_killer 1 = .ok (.getfield 60, 3) := by decide +kernel
theorem dX7_killer_4 : decode cX7_killer 4 = .ok (.iload_n 1, 1) := by decide +kernel
theorem dX7_killer_5 : decode cX7_killer 5 = .ok (.iload_n 2, 1) := by decide +kernel
theorem dX7_killer_6 : decode cX7_killer 6 = .ok (.invokevirtual 165, 3) := by decide +kernel
theorem dX7_killer_9 : decode cX7_killer 9 = .ok (.ireturn, 1) := by decide +kernel
theorem dX7_shrink_0 : decode cX7_shrink 0 = .ok (.iload_n 1, 1) := by decide +kernel
theorem dX7_shrink_1 : decode cX7_shrink 1 = .ok (.invokestatic 124, 3) := by decide +kernel
theorem dX7_shrink_4 : decode cX7_shrink 4 = .ok (.ifCond .ne 6, 3) := by decide +kernel
theorem dX7_shrink_7 : decode cX7_shrink 7 = .ok (.bipush (-2), 2) := by decide +kernel
theorem dX7_shrink_9 : decode cX7_shrink 9 = .ok (.ireturn, 1) := by decide +kernel
theorem dX7_shrink_10 : decode cX7_shrink 10 = .ok (.aload_n 0, 1) := by decide +kernel
theorem dX7_shrink_11 : decode cX7_shrink 11 = .ok (.getfield 51, 3) := by decide +kernel
theorem dX7_shrink_14 : decode cX7_shrink 14 = .ok (.iload_n 1, 1) := by decide +kernel
theorem dX7_shrink_15 : decode cX7_shrink 15 = .ok (.iconst 0, 1) := by decide +kernel
theorem dX7_shrink_16 : decode cX7_shrink 16 = .ok (.invokevirtual 134, 3) := by decide +kernel
theorem dX7_shrink_19 : decode cX7_shrink 19 = .ok (.istore_n 2, 1) := by decide +kernel
theorem dX7_shrink_20 : decode cX7_shrink 20 = .ok (.iload_n 2, 1) := by decide +kernel
theorem dX7_shrink_21 : decode cX7_shrink 21 = .ok (.iconst (-1), 1) := by decide +kernel
theorem dX7_shrink_22 : decode cX7_shrink 22 = .ok (.if_icmp .ne 5, 3) := by decide +kernel
theorem dX7_shrink_25 : decode cX7_shrink 25 = .ok (.iconst (-1), 1) := by decide +kernel
theorem dX7_shrink_26 : decode cX7_shrink 26 = .ok (.ireturn, 1) := by decide +kernel
theorem dX7_shrink_27 : decode cX7_shrink 27 = .ok (.aload_n 0, 1) := by decide +kernel
theorem dX7_shrink_28 : decode cX7_shrink 28 = .ok (.getfield 42, 3) := by decide +kernel
theorem dX7_shrink_31 : decode cX7_shrink 31 = .ok (.iload_n 1, 1) := by decide +kernel
theorem dX7_shrink_32 : decode cX7_shrink 32 = .ok (.invokevirtual 168, 3) := by decide +kernel
theorem dX7_shrink_35 : decode cX7_shrink 35 = .ok (.istore_n 3, 1) := by decide +kernel
theorem dX7_shrink_36 : decode cX7_shrink 36 = .ok (.iconst 0, 1) := by decide +kernel
theorem dX7_shrink_37 : decode cX7_shrink 37 = .ok (.istore 4, 2) := by decide +kernel
theorem dX7_shrink_39 : decode cX7_shrink 39 = .ok (.iconst 1, 1) := by decide +kernel
theorem dX7_shrink_40 : decode cX7_shrink 40 = .ok (.istore 5, 2) := by decide +kernel
theorem dX7_shrink_42 : decode cX7_shrink 42 = .ok (.iconst 0, 1) := by decide +kernel
theorem dX7_shrink_43 : decode cX7_shrink 43 = .ok (.istore 6, 2) := by decide +kernel
theorem dX7_shrink_45 : decode cX7_shrink 45 = .ok (.iload 5, 2) := by decide +kernel
theorem dX7_shrink_47 : decode cX7_shrink 47 = .ok (.ifCond .eq 70, 3) := by decide +kernel
theorem dX7_shrink_50 : decode cX7_shrink 50 = .ok (.iload 6, 2) := by decide +kernel
theorem dX7_shrink_52 : decode cX7_shrink 52 = .ok (.iload_n 3, 1) := by decide +kernel
theorem dX7_shrink_53 : decode cX7_shrink 53 = .ok (.if_icmp .gt 64, 3) := by decide +kernel
theorem dX7_shrink_56 : decode cX7_shrink 56 = .ok (.iconst 0, 1) := by decide +kernel
theorem dX7_shrink_57 : decode cX7_shrink 57 = .ok (.istore 5, 2) := by decide +kernel
theorem dX7_shrink_59 : decode cX7_shrink 59 = .ok (.iconst 0, 1) := by decide +kernel
theorem dX7_shrink_60 : decode cX7_shrink 60 = .ok (.istore 7, 2) := by decide +kernel
theorem dX7_shrink_62 : decode cX7_shrink 62 = .ok (.iload 7, 2) := by decide +kernel
theorem dX7_shrink_64 : decode cX7_shrink 64 = .ok (.iload_n 3, 1) := by decide +kernel
theorem dX7_shrink_65 : decode cX7_shrink 65 = .ok (.if_icmp .ge 46, 3) := by decide +kernel
theorem dX7_shrink_68 : decode cX7_shrink 68 = .ok (.iload 4, 2) := by decide +kernel
theorem dX7_shrink_70 : decode cX7_shrink 70 = .ok (.iconst 1, 1) := by decide +kernel
theorem dX7_shrink_71 : decode cX7_shrink 71 = .ok (.iload 7, 2) := by decide +kernel
theorem dX7_shrink_73 : decode cX7_shrink 73 = .ok (.ishl, 1) := by decide +kernel
theorem dX7_shrink_74 : decode cX7_shrink 74 = .ok (.ior, 1) := by decide +kernel
theorem dX7_shrink_75 : decode cX7_shrink 75 = .ok (.istore 8, 2) := by decide +kernel
theorem dX7_shrink_77 : decode cX7_shrink 77 = .ok (.iload 8, 2) := by decide +kernel
theorem dX7_shrink_79 : decode cX7_shrink 79 = .ok (.iload 4, 2) := by decide +kernel
theorem dX7_shrink_81 : decode cX7_shrink 81 = .ok (.if_icmp .eq 24, 3) := by decide +kernel
theorem dX7_shrink_84 : decode cX7_shrink 84 = .ok (.aload_n 0, 1) := by decide +kernel
theorem dX7_shrink_85 : decode cX7_shrink 85 = .ok (.getfield 51, 3) := by decide +kernel
theorem dX7_shrink_88 : decode cX7_shrink 88 = .ok (.iload_n 1, 1) := by decide +kernel
theorem dX7_shrink_89 : decode cX7_shrink 89 = .ok (.iload 8, 2) := by decide +kernel
theorem dX7_shrink_91 : decode cX7_shrink 91 = .ok (.invokevirtual 134, 3) := by decide +kernel
theorem dX7_shrink_94 : decode cX7_shrink 94 = .ok (.iload_n 2, 1) := by decide +kernel
theorem dX7_shrink_95 : decode cX7_shrink 95 = .ok (.if_icmp .ne 10, 3) := by decide +kernel
theorem dX7_shrink_98 : decode cX7_shrink 98 = .ok (.iload 8, 2) := by decide +kernel
theorem dX7_shrink_100 : decode cX7_shrink 100 = .ok (.istore 4, 2) := by decide +kernel
theorem dX7_shrink_102 : decode cX7_shrink 102 = .ok (.iconst 1, 1) := by decide +kernel
theorem dX7_shrink_103 : decode cX7_shrink 103 = .ok (.istore 5, 2) := by decide +kernel
theorem dX7_shrink_105 : decode cX7_shrink 105 = .ok (.iinc 7 1, 3) := by decide +kernel
theorem dX7_shrink_108 : decode cX7_shrink 108 = .ok (.goto (-46), 3) := by decide +kernel
theorem dX7_shrink_111 : decode cX7_shrink 111 = .ok (.iinc 6 1, 3) := by decide +kernel
theorem dX7_shrink_114 : decode cX7_shrink 114 = .ok (.goto (-69), 3) := by decide +kernel
theorem dX7_shrink_117 : decode cX7_shrink 117 = .ok (.aload_n 0, 1) := by decide +kernel
theorem dX7_shrink_118 : decode cX7_shrink 118 = .ok (.getfield 42, 3) := by decide +kernel
theorem dX7_shrink_121 : decode cX7_shrink 121 = .ok (.iload_n 1, 1) := by decide +kernel
theorem dX7_shrink_122 : decode cX7_shrink 122 = .ok (.iload 4, 2) := by decide +kernel
theorem dX7_shrink_124 : decode cX7_shrink 124 = .ok (.invokevirtual 171, 3) := by decide +kernel
theorem dX7_shrink_127 : decode cX7_shrink 127 = .ok (.ireturn, 1) := by decide +kernel
theorem dX7_lineOf_0 : decode cX7_lineOf 0 = .ok (.aload_n 0, 1) := by decide +kernel
theorem dX7_lineOf_1 : decode cX7_lineOf 1 = .ok (.getfield 42, 3) := by decide +kernel
theorem dX7_lineOf_4 : decode cX7_lineOf 4 = .ok (.iload_n 1, 1) := by decide +kernel
theorem dX7_lineOf_5 : decode cX7_lineOf 5 = .ok (.iload_n 2, 1) := by decide +kernel
theorem dX7_lineOf_6 : decode cX7_lineOf 6 = .ok (.invokevirtual 174, 3) := by decide +kernel
theorem dX7_lineOf_9 : decode cX7_lineOf 9 = .ok (.istore 4, 2) := by decide +kernel
theorem dX7_lineOf_11 : decode cX7_lineOf 11 = .ok (.iload 4, 2) := by decide +kernel
theorem dX7_lineOf_13 : decode cX7_lineOf 13 = .ok (.ifCond .ge 5, 3) := by decide +kernel
theorem dX7_lineOf_16 : decode cX7_lineOf 16 = .ok (.iconst 0, 1) := by decide +kernel
theorem dX7_lineOf_17 : decode cX7_lineOf 17 = .ok (.ireturn, 1) := by decide +kernel
theorem dX7_lineOf_18 : decode cX7_lineOf 18 = .ok (.iload_n 3, 1) := by decide +kernel
theorem dX7_lineOf_19 : decode cX7_lineOf 19 = .ok (.tableswitch 69 0 3 #[29, 39, 49, 59], 29) := by decide +kernel
theorem dX7_lineOf_48 : decode cX7_lineOf 48 = .ok (.aload_n 0, 1) := by decide +kernel
theorem dX7_lineOf_49 : decode cX7_lineOf 49 = .ok (.getfield 42, 3) := by decide +kernel
theorem dX7_lineOf_52 : decode cX7_lineOf 52 = .ok (.iload 4, 2) := by decide +kernel
theorem dX7_lineOf_54 : decode cX7_lineOf 54 = .ok (.invokevirtual 177, 3) := by decide +kernel
theorem dX7_lineOf_57 : decode cX7_lineOf 57 = .ok (.ireturn, 1) := by decide +kernel
theorem dX7_lineOf_58 : decode cX7_lineOf 58 = .ok (.aload_n 0, 1) := by decide +kernel
theorem dX7_lineOf_59 : decode cX7_lineOf 59 = .ok (.getfield 42, 3) := by decide +kernel
theorem dX7_lineOf_62 : decode cX7_lineOf 62 = .ok (.iload 4, 2) := by decide +kernel
theorem dX7_lineOf_64 : decode cX7_lineOf 64 = .ok (.invokevirtual 180, 3) := by decide +kernel
theorem dX7_lineOf_67 : decode cX7_lineOf 67 = .ok (.ireturn, 1) := by decide +kernel
theorem dX7_lineOf_68 : decode cX7_lineOf 68 = .ok (.aload_n 0, 1) := by decide +kernel
theorem dX7_lineOf_69 : decode cX7_lineOf 69 = .ok (.getfield 42, 3) := by decide +kernel
theorem dX7_lineOf_72 : decode cX7_lineOf 72 = .ok (.iload 4, 2) := by decide +kernel
theorem dX7_lineOf_74 : decode cX7_lineOf 74 = .ok (.invokevirtual 183, 3) := by decide +kernel
theorem dX7_lineOf_77 : decode cX7_lineOf 77 = .ok (.ireturn, 1) := by decide +kernel
theorem dX7_lineOf_78 : decode cX7_lineOf 78 = .ok (.aload_n 0, 1) := by decide +kernel
theorem dX7_lineOf_79 : decode cX7_lineOf 79 = .ok (.getfield 42, 3) := by decide +kernel
theorem dX7_lineOf_82 : decode cX7_lineOf 82 = .ok (.iload 4, 2) := by decide +kernel
theorem dX7_lineOf_84 : decode cX7_lineOf 84 = .ok (.invokevirtual 186, 3) := by decide +kernel
theorem dX7_lineOf_87 : decode cX7_lineOf 87 = .ok (.ireturn, 1) := by decide +kernel
theorem dX7_lineOf_88 : decode cX7_lineOf 88 = .ok (.iconst 0, 1) := by decide +kernel
theorem dX7_lineOf_89 : decode cX7_lineOf 89 = .ok (.ireturn, 1) := by decide +kernel
theorem dX7_covered_0 : decode cX7_covered 0 = .ok (.aload_n 0, 1) := by decide +kernel
theorem dX7_covered_1 : decode cX7_covered 1 = .ok (.getfield 19, 3) := by decide +kernel
theorem dX7_covered_4 : decode cX7_covered 4 = .ok (.iload_n 1, 1) := by decide +kernel
theorem dX7_covered_5 : decode cX7_covered 5 = .ok (.iload_n 2, 1) := by decide +kernel
theorem dX7_covered_6 : decode cX7_covered 6 = .ok (.invokevirtual 72, 3) := by decide +kernel
theorem dX7_covered_9 : decode cX7_covered 9 = .ok (.istore_n 3, 1) := by decide +kernel
theorem dX7_covered_10 : decode cX7_covered 10 = .ok (.iload_n 3, 1) := by decide +kernel
theorem dX7_covered_11 : decode cX7_covered 11 = .ok (.ifCond .ge 7, 3) := by decide +kernel
theorem dX7_covered_14 : decode cX7_covered 14 = .ok (.iconst (-1), 1) := by decide +kernel
theorem dX7_covered_15 : decode cX7_covered 15 = .ok (.goto 11, 3) := by decide +kernel
theorem dX7_covered_18 : decode cX7_covered 18 = .ok (.aload_n 0, 1) := by decide +kernel
theorem dX7_covered_19 : decode cX7_covered 19 = .ok (.getfield 19, 3) := by decide +kernel
theorem dX7_covered_22 : decode cX7_covered 22 = .ok (.iload_n 3, 1) := by decide +kernel
theorem dX7_covered_23 : decode cX7_covered 23 = .ok (.invokevirtual 189, 3) := by decide +kernel
theorem dX7_covered_26 : decode cX7_covered 26 = .ok (.ireturn, 1) := by decide +kernel
theorem dX7_coins_0 : decode cX7_coins 0 = .ok (.iload_n 1, 1) := by decide +kernel
theorem dX7_coins_1 : decode cX7_coins 1 = .ok (.invokestatic 97, 3) := by decide +kernel
theorem dX7_coins_4 : decode cX7_coins 4 = .ok (.ifCond .eq 14, 3) := by decide +kernel
theorem dX7_coins_7 : decode cX7_coins 7 = .ok (.aload_n 0, 1) := by decide +kernel
theorem dX7_coins_8 : decode cX7_coins 8 = .ok (.getfield 10, 3) := by decide +kernel
theorem dX7_coins_11 : decode cX7_coins 11 = .ok (.iload_n 1, 1) := by decide +kernel
theorem dX7_coins_12 : decode cX7_coins 12 = .ok (.invokevirtual 192, 3) := by decide +kernel
theorem dX7_coins_15 : decode cX7_coins 15 = .ok (.goto 4, 3) := by decide +kernel
theorem dX7_coins_18 : decode cX7_coins 18 = .ok (.iconst (-1), 1) := by decide +kernel
theorem dX7_coins_19 : decode cX7_coins 19 = .ok (.ireturn, 1) := by decide +kernel
theorem dX7_cell_0 : decode cX7_cell 0 = .ok (.aload_n 0, 1) := by decide +kernel
theorem dX7_cell_1 : decode cX7_cell 1 = .ok (.getfield 19, 3) := by decide +kernel
theorem dX7_cell_4 : decode cX7_cell 4 = .ok (.iload_n 1, 1) := by decide +kernel
theorem dX7_cell_5 : decode cX7_cell 5 = .ok (.invokevirtual 137, 3) := by decide +kernel
theorem dX7_cell_8 : decode cX7_cell 8 = .ok (.ifCond .eq 22, 3) := by decide +kernel
theorem dX7_cell_11 : decode cX7_cell 11 = .ok (.iload_n 2, 1) := by decide +kernel
theorem dX7_cell_12 : decode cX7_cell 12 = .ok (.invokestatic 195, 3) := by decide +kernel
theorem dX7_cell_15 : decode cX7_cell 15 = .ok (.ifCond .eq 15, 3) := by decide +kernel
theorem dX7_cell_18 : decode cX7_cell 18 = .ok (.aload_n 0, 1) := by decide +kernel
theorem dX7_cell_19 : decode cX7_cell 19 = .ok (.getfield 10, 3) := by decide +kernel
theorem dX7_cell_22 : decode cX7_cell 22 = .ok (.iload_n 1, 1) := by decide +kernel
theorem dX7_cell_23 : decode cX7_cell 23 = .ok (.iload_n 2, 1) := by decide +kernel
theorem dX7_cell_24 : decode cX7_cell 24 = .ok (.invokevirtual 198, 3) := by decide +kernel
theorem dX7_cell_27 : decode cX7_cell 27 = .ok (.goto 4, 3) := by decide +kernel
theorem dX7_cell_30 : decode cX7_cell 30 = .ok (.iconst 0, 1) := by decide +kernel
theorem dX7_cell_31 : decode cX7_cell 31 = .ok (.ireturn, 1) := by decide +kernel
theorem dX7_event_0 : decode cX7_event 0 = .ok (.aload_n 0, 1) := by decide +kernel
theorem dX7_event_1 : decode cX7_event 1 = .ok (.getfield 10, 3) := by decide +kernel
theorem dX7_event_4 : decode cX7_event 4 = .ok (.iload_n 1, 1) := by decide +kernel
theorem dX7_event_5 : decode cX7_event 5 = .ok (.invokevirtual 201, 3) := by decide +kernel
theorem dX7_event_8 : decode cX7_event 8 = .ok (.ireturn, 1) := by decide +kernel
theorem dX7_count_0 : decode cX7_count 0 = .ok (.iload_n 1, 1) := by decide +kernel
theorem dX7_count_1 : decode cX7_count 1 = .ok (.tableswitch 99 0 10 #[59, 67, 75, 83, 99, 99, 99, 99, 99, 99, 91], 59) := by decide +kernel
theorem dX7_count_60 : decode cX7_count 60 = .ok (.aload_n 0, 1) := by decide +kernel
theorem dX7_count_61 : decode cX7_count 61 = .ok (.getfield 10, 3) := by decide +kernel
theorem dX7_count_64 : decode cX7_count 64 = .ok (.invokevirtual 94, 3) := by decide +kernel
theorem dX7_count_67 : decode cX7_count 67 = .ok (.ireturn, 1) := by decide +kernel
theorem dX7_count_68 : decode cX7_count 68 = .ok (.aload_n 0, 1) := by decide +kernel
theorem dX7_count_69 : decode cX7_count 69 = .ok (.getfield 10, 3) := by decide +kernel
theorem dX7_count_72 : decode cX7_count 72 = .ok (.invokevirtual 204, 3) := by decide +kernel
theorem dX7_count_75 : decode cX7_count 75 = .ok (.ireturn, 1) := by decide +kernel
theorem dX7_count_76 : decode cX7_count 76 = .ok (.aload_n 0, 1) := by decide +kernel
theorem dX7_count_77 : decode cX7_count 77 = .ok (.getfield 19, 3) := by decide +kernel
theorem dX7_count_80 : decode cX7_count 80 = .ok (.invokevirtual 207, 3) := by decide +kernel
theorem dX7_count_83 : decode cX7_count 83 = .ok (.ireturn, 1) := by decide +kernel
theorem dX7_count_84 : decode cX7_count 84 = .ok (.aload_n 0, 1) := by decide +kernel
theorem dX7_count_85 : decode cX7_count 85 = .ok (.getfield 35, 3) := by decide +kernel
theorem dX7_count_88 : decode cX7_count 88 = .ok (.invokevirtual 210, 3) := by decide +kernel
theorem dX7_count_91 : decode cX7_count 91 = .ok (.ireturn, 1) := by decide +kernel
theorem dX7_count_92 : decode cX7_count 92 = .ok (.aload_n 0, 1) := by decide +kernel
theorem dX7_count_93 : decode cX7_count 93 = .ok (.getfield 26, 3) := by decide +kernel
theorem dX7_count_96 : decode cX7_count 96 = .ok (.invokevirtual 213, 3) := by decide +kernel
theorem dX7_count_99 : decode cX7_count 99 = .ok (.ireturn, 1) := by decide +kernel
theorem dX7_count_100 : decode cX7_count 100 = .ok (.iload_n 1, 1) := by decide +kernel
theorem dX7_count_101 : decode cX7_count 101 = .ok (.iconst 4, 1) := by decide +kernel
theorem dX7_count_102 : decode cX7_count 102 = .ok (.isub, 1) := by decide +kernel
theorem dX7_count_103 : decode cX7_count 103 = .ok (.invokestatic 124, 3) := by decide +kernel
theorem dX7_count_106 : decode cX7_count 106 = .ok (.ifCond .eq 16, 3) := by decide +kernel
theorem dX7_count_109 : decode cX7_count 109 = .ok (.aload_n 0, 1) := by decide +kernel
theorem dX7_count_110 : decode cX7_count 110 = .ok (.getfield 42, 3) := by decide +kernel
theorem dX7_count_113 : decode cX7_count 113 = .ok (.iload_n 1, 1) := by decide +kernel
theorem dX7_count_114 : decode cX7_count 114 = .ok (.iconst 4, 1) := by decide +kernel
theorem dX7_count_115 : decode cX7_count 115 = .ok (.isub, 1) := by decide +kernel
theorem dX7_count_116 : decode cX7_count 116 = .ok (.invokevirtual 168, 3) := by decide +kernel
theorem dX7_count_119 : decode cX7_count 119 = .ok (.goto 4, 3) := by decide +kernel
theorem dX7_count_122 : decode cX7_count 122 = .ok (.iconst (-1), 1) := by decide +kernel
theorem dX7_count_123 : decode cX7_count 123 = .ok (.ireturn, 1) := by decide +kernel
