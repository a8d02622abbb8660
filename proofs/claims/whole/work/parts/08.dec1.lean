/-! DECODE ROWS: out of the printed names. -/
theorem dX0_init_0 : decode cX0_init 0 = .ok (.aload_n 0, 1) := by decide +kernel
theorem dX0_init_1 : decode cX0_init 1 = .ok (.invokespecial 5, 3) := by decide +kernel
theorem dX0_init_4 : decode cX0_init 4 = .ok (.aload_n 0, 1) := by decide +kernel
theorem dX0_init_5 : decode cX0_init 5 = .ok (.iconst 0, 1) := by decide +kernel
theorem dX0_init_6 : decode cX0_init 6 = .ok (.putfield 11, 3) := by decide +kernel
theorem dX0_init_9 : decode cX0_init 9 = .ok (.aload_n 0, 1) := by decide +kernel
theorem dX0_init_10 : decode cX0_init 10 = .ok (.bipush 12, 2) := by decide +kernel
theorem dX0_init_12 : decode cX0_init 12 = .ok (.newarray .int, 2) := by decide +kernel
theorem dX0_init_14 : decode cX0_init 14 = .ok (.putfield 15, 3) := by decide +kernel
theorem dX0_init_17 : decode cX0_init 17 = .ok (.aload_n 0, 1) := by decide +kernel
theorem dX0_init_18 : decode cX0_init 18 = .ok (.bipush 12, 2) := by decide +kernel
theorem dX0_init_20 : decode cX0_init 20 = .ok (.newarray .int, 2) := by decide +kernel
theorem dX0_init_22 : decode cX0_init 22 = .ok (.putfield 19, 3) := by decide +kernel
theorem dX0_init_25 : decode cX0_init 25 = .ok (.aload_n 0, 1) := by decide +kernel
theorem dX0_init_26 : decode cX0_init 26 = .ok (.bipush 96, 2) := by decide +kernel
theorem dX0_init_28 : decode cX0_init 28 = .ok (.newarray .int, 2) := by decide +kernel
theorem dX0_init_30 : decode cX0_init 30 = .ok (.putfield 22, 3) := by decide +kernel
theorem dX0_init_33 : decode cX0_init 33 = .ok (.aload_n 0, 1) := by decide +kernel
theorem dX0_init_34 : decode cX0_init 34 = .ok (.bipush 96, 2) := by decide +kernel
theorem dX0_init_36 : decode cX0_init 36 = .ok (.newarray .int, 2) := by decide +kernel
theorem dX0_init_38 : decode cX0_init 38 = .ok (.putfield 25, 3) := by decide +kernel
theorem dX0_init_41 : decode cX0_init 41 = .ok (.aload_n 0, 1) := by decide +kernel
theorem dX0_init_42 : decode cX0_init 42 = .ok (.bipush 96, 2) := by decide +kernel
theorem dX0_init_44 : decode cX0_init 44 = .ok (.newarray .int, 2) := by decide +kernel
theorem dX0_init_46 : decode cX0_init 46 = .ok (.putfield 28, 3) := by decide +kernel
theorem dX0_init_49 : decode cX0_init 49 = .ok (.return_, 1) := by decide +kernel
theorem dX0_fits_0 : decode cX0_fits 0 = .ok (.iload_n 0, 1) := by decide +kernel
theorem dX0_fits_1 : decode cX0_fits 1 = .ok (.tableswitch 113 0 11 #[63, 63, 111, 63, 68, 84, 111, 89, 106, 89, 111, 63], 63) := by decide +kernel
theorem dX0_fits_64 : decode cX0_fits 64 = .ok (.iload_n 1, 1) := by decide +kernel
theorem dX0_fits_65 : decode cX0_fits 65 = .ok (.invokestatic 31, 3) := by decide +kernel
theorem dX0_fits_68 : decode cX0_fits 68 = .ok (.ireturn, 1) := by decide +kernel
theorem dX0_fits_69 : decode cX0_fits 69 = .ok (.iload_n 1, 1) := by decide +kernel
theorem dX0_fits_70 : decode cX0_fits 70 = .ok (.ifCond .lt 13, 3) := by decide +kernel
theorem dX0_fits_73 : decode cX0_fits 73 = .ok (.iload_n 1, 1) := by decide +kernel
theorem dX0_fits_74 : decode cX0_fits 74 = .ok (.bipush 9, 2) := by decide +kernel
theorem dX0_fits_76 : decode cX0_fits 76 = .ok (.if_icmp .gt 7, 3) := by decide +kernel
theorem dX0_fits_79 : decode cX0_fits 79 = .ok (.iconst 1, 1) := by decide +kernel
theorem dX0_fits_80 : decode cX0_fits 80 = .ok (.goto 4, 3) := by decide +kernel
theorem dX0_fits_83 : decode cX0_fits 83 = .ok (.iconst 0, 1) := by decide +kernel
theorem dX0_fits_84 : decode cX0_fits 84 = .ok (.ireturn, 1) := by decide +kernel
theorem dX0_fits_85 : decode cX0_fits 85 = .ok (.iload_n 1, 1) := by decide +kernel
theorem dX0_fits_86 : decode cX0_fits 86 = .ok (.invokestatic 37, 3) := by decide +kernel
theorem dX0_fits_89 : decode cX0_fits 89 = .ok (.ireturn, 1) := by decide +kernel
theorem dX0_fits_90 : decode cX0_fits 90 = .ok (.iload_n 1, 1) := by decide +kernel
theorem dX0_fits_91 : decode cX0_fits 91 = .ok (.iconst 1, 1) := by decide +kernel
theorem dX0_fits_92 : decode cX0_fits 92 = .ok (.if_icmp .lt 13, 3) := by decide +kernel
theorem dX0_fits_95 : decode cX0_fits 95 = .ok (.iload_n 1, 1) := by decide +kernel
theorem dX0_fits_96 : decode cX0_fits 96 = .ok (.bipush 7, 2) := by decide +kernel
theorem dX0_fits_98 : decode cX0_fits 98 = .ok (.if_icmp .gt 7, 3) := by decide +kernel
theorem dX0_fits_101 : decode cX0_fits 101 = .ok (.iconst 1, 1) := by decide +kernel
theorem dX0_fits_102 : decode cX0_fits 102 = .ok (.goto 4, 3) := by decide +kernel
theorem dX0_fits_105 : decode cX0_fits 105 = .ok (.iconst 0, 1) := by decide +kernel
theorem dX0_fits_106 : decode cX0_fits 106 = .ok (.ireturn, 1) := by decide +kernel
theorem dX0_fits_107 : decode cX0_fits 107 = .ok (.iload_n 1, 1) := by decide +kernel
theorem dX0_fits_108 : decode cX0_fits 108 = .ok (.invokestatic 40, 3) := by decide +kernel
theorem dX0_fits_111 : decode cX0_fits 111 = .ok (.ireturn, 1) := by decide +kernel
theorem dX0_fits_112 : decode cX0_fits 112 = .ok (.iconst 1, 1) := by decide +kernel
theorem dX0_fits_113 : decode cX0_fits 113 = .ok (.ireturn, 1) := by decide +kernel
theorem dX0_fits_114 : decode cX0_fits 114 = .ok (.iconst 0, 1) := by decide +kernel
theorem dX0_fits_115 : decode cX0_fits 115 = .ok (.ireturn, 1) := by decide +kernel
theorem dX0_isContract_0 : decode cX0_isContract 0 = .ok (.iload_n 1, 1) := by decide +kernel
theorem dX0_isContract_1 : decode cX0_isContract 1 = .ok (.ifCond .lt 15, 3) := by decide +kernel
theorem dX0_isContract_4 : decode cX0_isContract 4 = .ok (.iload_n 1, 1) := by decide +kernel
theorem dX0_isContract_5 : decode cX0_isContract 5 = .ok (.aload_n 0, 1) := by decide +kernel
theorem dX0_isContract_6 : decode cX0_isContract 6 = .ok (.getfield 11, 3) := by decide +kernel
theorem dX0_isContract_9 : decode cX0_isContract 9 = .ok (.if_icmp .ge 7, 3) := by decide +kernel
theorem dX0_isContract_12 : decode cX0_isContract 12 = .ok (.iconst 1, 1) := by decide +kernel
theorem dX0_isContract_13 : decode cX0_isContract 13 = .ok (.goto 4, 3) := by decide +kernel
theorem dX0_isContract_16 : decode cX0_isContract 16 = .ok (.iconst 0, 1) := by decide +kernel
theorem dX0_isContract_17 : decode cX0_isContract 17 = .ok (.ireturn, 1) := by decide +kernel
theorem dX0_contractCount_0 : decode cX0_contractCount 0 = .ok (.aload_n 0, 1) := by decide +kernel
theorem dX0_contractCount_1 : decode cX0_contractCount 1 = .ok (.getfield 11, 3) := by decide +kernel
theorem dX0_contractCount_4 : decode cX0_contractCount 4 = .ok (.ireturn, 1) := by decide +kernel
theorem dX0_newContract_0 : decode cX0_newContract 0 = .ok (.aload_n 0, 1) := by decide +kernel
theorem dX0_newContract_1 : decode cX0_newContract 1 = .ok (.getfield 11, 3) := by decide +kernel
theorem dX0_newContract_4 : decode cX0_newContract 4 = .ok (.iconst 4, 1) := by decide +kernel
theorem dX0_newContract_5 : decode cX0_newContract 5 = .ok (.if_icmp .lt 6, 3) := by decide +kernel
theorem dX0_newContract_8 : decode cX0_newContract 8 = .ok (.bipush (-2), 2) := by decide +kernel
theorem dX0_newContract_10 : decode cX0_newContract 10 = .ok (.ireturn, 1) := by decide +kernel
theorem dX0_newContract_11 : decode cX0_newContract 11 = .ok (.aload_n 0, 1) := by decide +kernel
theorem dX0_newContract_12 : decode cX0_newContract 12 = .ok (.dup, 1) := by decide +kernel
theorem dX0_newContract_13 : decode cX0_newContract 13 = .ok (.getfield 11, 3) := by decide +kernel
theorem dX0_newContract_16 : decode cX0_newContract 16 = .ok (.iconst 1, 1) := by decide +kernel
theorem dX0_newContract_17 : decode cX0_newContract 17 = .ok (.iadd, 1) := by decide +kernel
theorem dX0_newContract_18 : decode cX0_newContract 18 = .ok (.putfield 11, 3) := by decide +kernel
theorem dX0_newContract_21 : decode cX0_newContract 21 = .ok (.aload_n 0, 1) := by decide +kernel
theorem dX0_newContract_22 : decode cX0_newContract 22 = .ok (.getfield 11, 3) := by decide +kernel
theorem dX0_newContract_25 : decode cX0_newContract 25 = .ok (.iconst 1, 1) := by decide +kernel
theorem dX0_newContract_26 : decode cX0_newContract 26 = .ok (.isub, 1) := by decide +kernel
theorem dX0_newContract_27 : decode cX0_newContract 27 = .ok (.ireturn, 1) := by decide +kernel
theorem dX0_placeOf_0 : decode cX0_placeOf 0 = .ok (.iload_n 1, 1) := by decide +kernel
theorem dX0_placeOf_1 : decode cX0_placeOf 1 = .ok (.ifCond .lt 24, 3) := by decide +kernel
theorem dX0_placeOf_4 : decode cX0_placeOf 4 = .ok (.iload_n 1, 1) := by decide +kernel
theorem dX0_placeOf_5 : decode cX0_placeOf 5 = .ok (.aload_n 0, 1) := by decide +kernel
theorem dX0_placeOf_6 : decode cX0_placeOf 6 = .ok (.getfield 11, 3) := by decide +kernel
theorem dX0_placeOf_9 : decode cX0_placeOf 9 = .ok (.if_icmp .ge 16, 3) := by decide +kernel
theorem dX0_placeOf_12 : decode cX0_placeOf 12 = .ok (.iload_n 2, 1) := by decide +kernel
theorem dX0_placeOf_13 : decode cX0_placeOf 13 = .ok (.ifCond .lt 12, 3) := by decide +kernel
theorem dX0_placeOf_16 : decode cX0_placeOf 16 = .ok (.iload_n 2, 1) := by decide +kernel
theorem dX0_placeOf_17 : decode cX0_placeOf 17 = .ok (.iconst 3, 1) := by decide +kernel
theorem dX0_placeOf_18 : decode cX0_placeOf 18 = .ok (.if_icmp .ge 7, 3) := by decide +kernel
theorem dX0_placeOf_21 : decode cX0_placeOf 21 = .ok (.iconst 1, 1) := by decide +kernel
theorem dX0_placeOf_22 : decode cX0_placeOf 22 = .ok (.goto 4, 3) := by decide +kernel
theorem dX0_placeOf_25 : decode cX0_placeOf 25 = .ok (.iconst 0, 1) := by decide +kernel
theorem dX0_placeOf_26 : decode cX0_placeOf 26 = .ok (.istore_n 3, 1) := by decide +kernel
theorem dX0_placeOf_27 : decode cX0_placeOf 27 = .ok (.iload_n 3, 1) := by decide +kernel
theorem dX0_placeOf_28 : decode cX0_placeOf 28 = .ok (.ifCond .eq 11, 3) := by decide +kernel
theorem dX0_placeOf_31 : decode cX0_placeOf 31 = .ok (.iload_n 1, 1) := by decide +kernel
theorem dX0_placeOf_32 : decode cX0_placeOf 32 = .ok (.iconst 3, 1) := by decide +kernel
theorem dX0_placeOf_33 : decode cX0_placeOf 33 = .ok (.imul, 1) := by decide +kernel
theorem dX0_placeOf_34 : decode cX0_placeOf 34 = .ok (.iload_n 2, 1) := by decide +kernel
theorem dX0_placeOf_35 : decode cX0_placeOf 35 = .ok (.iadd, 1) := by decide +kernel
theorem dX0_placeOf_36 : decode cX0_placeOf 36 = .ok (.goto 4, 3) := by decide +kernel
theorem dX0_placeOf_39 : decode cX0_placeOf 39 = .ok (.iconst (-1), 1) := by decide +kernel
theorem dX0_placeOf_40 : decode cX0_placeOf 40 = .ok (.ireturn, 1) := by decide +kernel
theorem dX0_size_0 : decode cX0_size 0 = .ok (.iload_n 1, 1) := by decide +kernel
theorem dX0_size_1 : decode cX0_size 1 = .ok (.ifCond .lt 18, 3) := by decide +kernel
theorem dX0_size_4 : decode cX0_size 4 = .ok (.iload_n 1, 1) := by decide +kernel
theorem dX0_size_5 : decode cX0_size 5 = .ok (.bipush 12, 2) := by decide +kernel
theorem dX0_size_7 : decode cX0_size 7 = .ok (.if_icmp .ge 12, 3) := by decide +kernel
theorem dX0_size_10 : decode cX0_size 10 = .ok (.aload_n 0, 1) := by decide +kernel
theorem dX0_size_11 : decode cX0_size 11 = .ok (.getfield 15, 3) := by decide +kernel
theorem dX0_size_14 : decode cX0_size 14 = .ok (.iload_n 1, 1) := by decide +kernel
theorem dX0_size_15 : decode cX0_size 15 = .ok (.iaload, 1) := by decide +kernel
theorem dX0_size_16 : decode cX0_size 16 = .ok (.goto 4, 3) := by decide +kernel
theorem dX0_size_19 : decode cX0_size 19 = .ok (.iconst 0, 1) := by decide +kernel
theorem dX0_size_20 : decode cX0_size 20 = .ok (.ireturn, 1) := by decide +kernel
theorem dX0_append_0 : decode cX0_append 0 = .ok (.iload_n 1, 1) := by decide +kernel
theorem dX0_append_1 : decode cX0_append 1 = .ok (.ifCond .lt 20, 3) := by decide +kernel
theorem dX0_append_4 : decode cX0_append 4 = .ok (.iload_n 1, 1) := by decide +kernel
theorem dX0_append_5 : decode cX0_append 5 = .ok (.bipush 12, 2) := by decide +kernel
theorem dX0_append_7 : decode cX0_append 7 = .ok (.if_icmp .ge 14, 3) := by decide +kernel
theorem dX0_append_10 : decode cX0_append 10 = .ok (.aload_n 0, 1) := by decide +kernel
theorem dX0_append_11 : decode cX0_append 11 = .ok (.getfield 15, 3) := by decide +kernel
theorem dX0_append_14 : decode cX0_append 14 = .ok (.iload_n 1, 1) := by decide +kernel
theorem dX0_append_15 : decode cX0_append 15 = .ok (.iaload, 1) := by decide +kernel
theorem dX0_append_16 : decode cX0_append 16 = .ok (.bipush 8, 2) := by decide +kernel
theorem dX0_append_18 : decode cX0_append 18 = .ok (.if_icmp .lt 6, 3) := by decide +kernel
theorem dX0_append_21 : decode cX0_append 21 = .ok (.bipush (-2), 2) := by decide +kernel
theorem dX0_append_23 : decode cX0_append 23 = .ok (.ireturn, 1) := by decide +kernel
theorem dX0_append_24 : decode cX0_append 24 = .ok (.aload_n 0, 1) := by decide +kernel
theorem dX0_append_25 : decode cX0_append 25 = .ok (.iload_n 1, 1) := by decide +kernel
theorem dX0_append_26 : decode cX0_append 26 = .ok (.bipush 8, 2) := by decide +kernel
theorem dX0_append_28 : decode cX0_append 28 = .ok (.imul, 1) := by decide +kernel
theorem dX0_append_29 : decode cX0_append 29 = .ok (.aload_n 0, 1) := by decide +kernel
theorem dX0_append_30 : decode cX0_append 30 = .ok (.getfield 15, 3) := by decide +kernel
theorem dX0_append_33 : decode cX0_append 33 = .ok (.iload_n 1, 1) := by decide +kernel
theorem dX0_append_34 : decode cX0_append 34 = .ok (.iaload, 1) := by decide +kernel
theorem dX0_append_35 : decode cX0_append 35 = .ok (.iadd, 1) := by decide +kernel
theorem dX0_append_36 : decode cX0_append 36 = .ok (.iload_n 2, 1) := by decide +kernel
theorem dX0_append_37 : decode cX0_append 37 = .ok (.iload_n 3, 1) := by decide +kernel
theorem dX0_append_38 : decode cX0_append 38 = .ok (.iload 4, 2) := by decide +kernel
theorem dX0_append_40 : decode cX0_append 40 = .ok (.invokevirtual 45, 3) := by decide +kernel
theorem dX0_append_43 : decode cX0_append 43 = .ok (.aload_n 0, 1) := by decide +kernel
theorem dX0_append_44 : decode cX0_append 44 = .ok (.getfield 15, 3) := by decide +kernel
theorem dX0_append_47 : decode cX0_append 47 = .ok (.iload_n 1, 1) := by decide +kernel
theorem dX0_append_48 : decode cX0_append 48 = .ok (.dup2, 1) := by decide +kernel
theorem dX0_append_49 : decode cX0_append 49 = .ok (.iaload, 1) := by decide +kernel
theorem dX0_append_50 : decode cX0_append 50 = .ok (.iconst 1, 1) := by decide +kernel
theorem dX0_append_51 : decode cX0_append 51 = .ok (.iadd, 1) := by decide +kernel
theorem dX0_append_52 : decode cX0_append 52 = .ok (.iastore, 1) := by decide +kernel
theorem dX0_append_53 : decode cX0_append 53 = .ok (.aload_n 0, 1) := by decide +kernel
theorem dX0_append_54 : decode cX0_append 54 = .ok (.getfield 15, 3) := by decide +kernel
theorem dX0_append_57 : decode cX0_append 57 = .ok (.iload_n 1, 1) := by decide +kernel
theorem dX0_append_58 : decode cX0_append 58 = .ok (.iaload, 1) := by decide +kernel
theorem dX0_append_59 : decode cX0_append 59 = .ok (.ireturn, 1) := by decide +kernel
theorem dX0_replace_0 : decode cX0_replace 0 = .ok (.iload_n 1, 1) := by decide +kernel
theorem dX0_replace_1 : decode cX0_replace 1 = .ok (.ifCond .lt 31, 3) := by decide +kernel
theorem dX0_replace_4 : decode cX0_replace 4 = .ok (.iload_n 1, 1) := by decide +kernel
theorem dX0_replace_5 : decode cX0_replace 5 = .ok (.bipush 96, 2) := by decide +kernel
theorem dX0_replace_7 : decode cX0_replace 7 = .ok (.if_icmp .ge 25, 3) := by decide +kernel
theorem dX0_replace_10 : decode cX0_replace 10 = .ok (.aload_n 0, 1) := by decide +kernel
theorem dX0_replace_11 : decode cX0_replace 11 = .ok (.getfield 22, 3) := by decide +kernel
theorem dX0_replace_14 : decode cX0_replace 14 = .ok (.iload_n 1, 1) := by decide +kernel
theorem dX0_replace_15 : decode cX0_replace 15 = .ok (.iload_n 2, 1) := by decide +kernel
theorem dX0_replace_16 : decode cX0_replace 16 = .ok (.iastore, 1) := by decide +kernel
theorem dX0_replace_17 : decode cX0_replace 17 = .ok (.aload_n 0, 1) := by decide +kernel
theorem dX0_replace_18 : decode cX0_replace 18 = .ok (.getfield 25, 3) := by decide +kernel
theorem dX0_replace_21 : decode cX0_replace 21 = .ok (.iload_n 1, 1) := by decide +kernel
theorem dX0_replace_22 : decode cX0_replace 22 = .ok (.iload_n 3, 1) := by decide +kernel
theorem dX0_replace_23 : decode cX0_replace 23 = .ok (.iastore, 1) := by decide +kernel
theorem dX0_replace_24 : decode cX0_replace 24 = .ok (.aload_n 0, 1) := by decide +kernel
theorem dX0_replace_25 : decode cX0_replace 25 = .ok (.getfield 28, 3) := by decide +kernel
theorem dX0_replace_28 : decode cX0_replace 28 = .ok (.iload_n 1, 1) := by decide +kernel
theorem dX0_replace_29 : decode cX0_replace 29 = .ok (.iload 4, 2) := by decide +kernel
theorem dX0_replace_31 : decode cX0_replace 31 = .ok (.iastore, 1) := by decide +kernel
theorem dX0_replace_32 : decode cX0_replace 32 = .ok (.return_, 1) := by decide +kernel
theorem dX0_kind_0 : decode cX0_kind 0 = .ok (.iload_n 1, 1) := by decide +kernel
theorem dX0_kind_1 : decode cX0_kind 1 = .ok (.ifCond .lt 18, 3) := by decide +kernel
theorem dX0_kind_4 : decode cX0_kind 4 = .ok (.iload_n 1, 1) := by decide +kernel
theorem dX0_kind_5 : decode cX0_kind 5 = .ok (.bipush 96, 2) := by decide +kernel
theorem dX0_kind_7 : decode cX0_kind 7 = .ok (.if_icmp .ge 12, 3) := by decide +kernel
theorem dX0_kind_10 : decode cX0_kind 10 = .ok (.aload_n 0, 1) := by decide +kernel
theorem dX0_kind_11 : decode cX0_kind 11 = .ok (.getfield 22, 3) := by decide +kernel
theorem dX0_kind_14 : decode cX0_kind 14 = .ok (.iload_n 1, 1) := by decide +kernel
theorem dX0_kind_15 : decode cX0_kind 15 = .ok (.iaload, 1) := by decide +kernel
theorem dX0_kind_16 : decode cX0_kind 16 = .ok (.goto 5, 3) := by decide +kernel
theorem dX0_kind_19 : decode cX0_kind 19 = .ok (.bipush 12, 2) := by decide +kernel
theorem dX0_kind_21 : decode cX0_kind 21 = .ok (.ireturn, 1) := by decide +kernel
theorem dX0_a_0 : decode cX0_a 0 = .ok (.iload_n 1, 1) := by decide +kernel
theorem dX0_a_1 : decode cX0_a 1 = .ok (.ifCond .lt 18, 3) := by decide +kernel
theorem dX0_a_4 : decode cX0_a 4 = .ok (.iload_n 1, 1) := by decide +kernel
theorem dX0_a_5 : decode cX0_a 5 = .ok (.bipush 96, 2) := by decide +kernel
theorem dX0_a_7 : decode cX0_a 7 = .ok (.if_icmp .ge 12, 3) := by decide +kernel
theorem dX0_a_10 : decode cX0_a 10 = .ok (.aload_n 0, 1) := by decide +kernel
theorem dX0_a_11 : decode cX0_a 11 = .ok (.getfield 25, 3) := by decide +kernel
theorem dX0_a_14 : decode cX0_a 14 = .ok (.iload_n 1, 1) := by decide +kernel
theorem dX0_a_15 : decode cX0_a 15 = .ok (.iaload, 1) := by decide +kernel
theorem dX0_a_16 : decode cX0_a 16 = .ok (.goto 4, 3) := by decide +kernel
theorem dX0_a_19 : decode cX0_a 19 = .ok (.iconst 0, 1) := by decide +kernel
theorem dX0_a_20 : decode cX0_a 20 = .ok (.ireturn, 1) := by decide +kernel
theorem dX0_b_0 : decode cX0_b 0 = .ok (.iload_n 1, 1) := by decide +kernel
theorem dX0_b_1 : decode cX0_b 1 = .ok (.ifCond .lt 18, 3) := by decide +kernel
theorem dX0_b_4 : decode cX0_b 4 = .ok (.iload_n 1, 1) := by decide +kernel
theorem dX0_b_5 : decode cX0_b 5 = .ok (.bipush 96, 2) := by decide +kernel
theorem dX0_b_7 : decode cX0_b 7 = .ok (.if_icmp .ge 12, 3) := by decide +kernel
theorem dX0_b_10 : decode cX0_b 10 = .ok (.aload_n 0, 1) := by decide +kernel
theorem dX0_b_11 : decode cX0_b 11 = .ok (.getfield 28, 3) := by decide +kernel
theorem dX0_b_14 : decode cX0_b 14 = .ok (.iload_n 1, 1) := by decide +kernel
theorem dX0_b_15 : decode cX0_b 15 = .ok (.iaload, 1) := by decide +kernel
theorem dX0_b_16 : decode cX0_b 16 = .ok (.goto 4, 3) := by decide +kernel
theorem dX0_b_19 : decode cX0_b 19 = .ok (.iconst 0, 1) := by decide +kernel
theorem dX0_b_20 : decode cX0_b 20 = .ok (.ireturn, 1) := by decide +kernel
theorem dX0_coveredBits_0 : decode cX0_coveredBits 0 = .ok (.iload_n 1, 1) := by decide +kernel
theorem dX0_coveredBits_1 : decode cX0_coveredBits 1 = .ok (.ifCond .lt 18, 3) := by decide +kernel
theorem dX0_coveredBits_4 : decode cX0_coveredBits 4 = .ok (.iload_n 1, 1) := by decide +kernel
theorem dX0_coveredBits_5 : decode cX0_coveredBits 5 = .ok (.bipush 12, 2) := by decide +kernel
theorem dX0_coveredBits_7 : decode cX0_coveredBits 7 = .ok (.if_icmp .ge 12, 3) := by decide +kernel
theorem dX0_coveredBits_10 : decode cX0_coveredBits 10 = .ok (.aload_n 0, 1) := by decide +kernel
theorem dX0_coveredBits_11 : decode cX0_coveredBits 11 = .ok (.getfield 19, 3) := by decide +kernel
theorem dX0_coveredBits_14 : decode cX0_coveredBits 14 = .ok (.iload_n 1, 1) := by decide +kernel
theorem dX0_coveredBits_15 : decode cX0_coveredBits 15 = .ok (.iaload, 1) := by decide +kernel
theorem dX0_coveredBits_16 : decode cX0_coveredBits 16 = .ok (.goto 4, 3) := by decide +kernel
theorem dX0_coveredBits_19 : decode cX0_coveredBits 19 = .ok (.iconst 0, 1) := by decide +kernel
theorem dX0_coveredBits_20 : decode cX0_coveredBits 20 = .ok (.ireturn, 1) := by decide +kernel
theorem dX0_cover_0 : decode cX0_cover 0 = .ok (.iload_n 1, 1) := by decide +kernel
theorem dX0_cover_1 : decode cX0_cover 1 = .ok (.ifCond .lt 21, 3) := by decide +kernel
theorem dX0_cover_4 : decode cX0_cover 4 = .ok (.iload_n 1, 1) := by decide +kernel
theorem dX0_cover_5 : decode cX0_cover 5 = .ok (.bipush 12, 2) := by decide +kernel
theorem dX0_cover_7 : decode cX0_cover 7 = .ok (.if_icmp .ge 15, 3) := by decide +kernel
theorem dX0_cover_10 : decode cX0_cover 10 = .ok (.aload_n 0, 1) := by decide +kernel
theorem dX0_cover_11 : decode cX0_cover 11 = .ok (.getfield 19, 3) := by decide +kernel
theorem dX0_cover_14 : decode cX0_cover 14 = .ok (.iload_n 1, 1) := by decide +kernel
theorem dX0_cover_15 : decode cX0_cover 15 = .ok (.dup2, 1) := by decide +kernel
theorem dX0_cover_16 : decode cX0_cover 16 = .ok (.iaload, 1) := by decide +kernel
theorem dX0_cover_17 : decode cX0_cover 17 = .ok (.iconst 1, 1) := by decide +kernel
theorem dX0_cover_18 : decode cX0_cover 18 = .ok (.iload_n 2, 1) := by decide +kernel
theorem dX0_cover_19 : decode cX0_cover 19 = .ok (.ishl, 1) := by decide +kernel
theorem dX0_cover_20 : decode cX0_cover 20 = .ok (.ior, 1) := by decide +kernel
theorem dX0_cover_21 : decode cX0_cover 21 = .ok (.iastore, 1) := by decide +kernel
theorem dX0_cover_22 : decode cX0_cover 22 = .ok (.return_, 1) := by decide +kernel
theorem dX1_init_0 : decode cX1_init 0 = .ok (.aload_n 0, 1) := by decide +kernel
theorem dX1_init_1 : decode cX1_init 1 = .ok (.invokespecial 1, 3) := by decide +kernel
theorem dX1_init_4 : decode cX1_init 4 = .ok (.aload_n 0, 1) := by decide +kernel
theorem dX1_init_5 : decode cX1_init 5 = .ok (.iconst 4, 1) := by decide +kernel
theorem dX1_init_6 : decode cX1_init 6 = .ok (.newarray .int, 2) := by decide +kernel
theorem dX1_init_8 : decode cX1_init 8 = .ok (.putfield 9, 3) := by decide +kernel
theorem dX1_init_11 : decode cX1_init 11 = .ok (.aload_n 0, 1) := by decide +kernel
theorem dX1_init_12 : decode cX1_init 12 = .ok (.iconst 4, 1) := by decide +kernel
theorem dX1_init_13 : decode cX1_init 13 = .ok (.newarray .int, 2) := by decide +kernel
theorem dX1_init_15 : decode cX1_init 15 = .ok (.putfield 13, 3) := by decide +kernel
theorem dX1_init_18 : decode cX1_init 18 = .ok (.aload_n 0, 1) := by decide +kernel
theorem dX1_init_19 : decode cX1_init 19 = .ok (.iconst 4, 1) := by decide +kernel
theorem dX1_init_20 : decode cX1_init 20 = .ok (.newarray .int, 2) := by decide +kernel
theorem dX1_init_22 : decode cX1_init 22 = .ok (.putfield 16, 3) := by decide +kernel
theorem dX1_init_25 : decode cX1_init 25 = .ok (.iconst 0, 1) := by decide +kernel
theorem dX1_init_26 : decode cX1_init 26 = .ok (.istore_n 1, 1) := by decide +kernel
theorem dX1_init_27 : decode cX1_init 27 = .ok (.iload_n 1, 1) := by decide +kernel
theorem dX1_init_28 : decode cX1_init 28 = .ok (.iconst 4, 1) := by decide +kernel
theorem dX1_init_29 : decode cX1_init 29 = .ok (.if_icmp .ge 16, 3) := by decide +kernel
theorem dX1_init_32 : decode cX1_init 32 = .ok (.aload_n 0, 1) := by decide +kernel
theorem dX1_init_33 : decode cX1_init 33 = .ok (.getfield 9, 3) := by decide +kernel
theorem dX1_init_36 : decode cX1_init 36 = .ok (.iload_n 1, 1) := by decide +kernel
theorem dX1_init_37 : decode cX1_init 37 = .ok (.iconst (-1), 1) := by decide +kernel
theorem dX1_init_38 : decode cX1_init 38 = .ok (.iastore, 1) := by decide +kernel
theorem dX1_init_39 : decode cX1_init 39 = .ok (.iinc 1 1, 3) := by decide +kernel
theorem dX1_init_42 : decode cX1_init 42 = .ok (.goto (-15), 3) := by decide +kernel
theorem dX1_init_45 : decode cX1_init 45 = .ok (.return_, 1) := by decide +kernel
theorem dX1_isFace_0 : decode cX1_isFace 0 = .ok (.iload_n 0, 1) := by decide +kernel
theorem dX1_isFace_1 : decode cX1_isFace 1 = .ok (.ifCond .lt 12, 3) := by decide +kernel
theorem dX1_isFace_4 : decode cX1_isFace 4 = .ok (.iload_n 0, 1) := by decide +kernel
theorem dX1_isFace_5 : decode cX1_isFace 5 = .ok (.iconst 4, 1) := by decide +kernel
theorem dX1_isFace_6 : decode cX1_isFace 6 = .ok (.if_icmp .ge 7, 3) := by decide +kernel
theorem dX1_isFace_9 : decode cX1_isFace 9 = .ok (.iconst 1, 1) := by decide +kernel
theorem dX1_isFace_10 : decode cX1_isFace 10 = .ok (.goto 4, 3) := by decide +kernel
theorem dX1_isFace_13 : decode cX1_isFace 13 = .ok (.iconst 0, 1) := by decide +kernel
theorem dX1_isFace_14 : decode cX1_isFace 14 = .ok (.ireturn, 1) := by decide +kernel
theorem dX1_bindTo_0 : decode cX1_bindTo 0 = .ok (.iload_n 1, 1) := by decide +kernel
theorem dX1_bindTo_1 : decode cX1_bindTo 1 = .ok (.ifCond .lt 15, 3) := by decide +kernel
theorem dX1_bindTo_4 : decode cX1_bindTo 4 = .ok (.iload_n 1, 1) := by decide +kernel
theorem dX1_bindTo_5 : decode cX1_bindTo 5 = .ok (.iconst 4, 1) := by decide +kernel
theorem dX1_bindTo_6 : decode cX1_bindTo 6 = .ok (.if_icmp .ge 10, 3) := by decide +kernel
theorem dX1_bindTo_9 : decode cX1_bindTo 9 = .ok (.aload_n 0, 1) := by decide +kernel
theorem dX1_bindTo_10 : decode cX1_bindTo 10 = .ok (.getfield 9, 3) := by decide +kernel
theorem dX1_bindTo_13 : decode cX1_bindTo 13 = .ok (.iload_n 1, 1) := by decide +kernel
theorem dX1_bindTo_14 : decode cX1_bindTo 14 = .ok (.iload_n 2, 1) := by decide +kernel
theorem dX1_bindTo_15 : decode cX1_bindTo 15 = .ok (.iastore, 1) := by decide +kernel
theorem dX1_bindTo_16 : decode cX1_bindTo 16 = .ok (.return_, 1) := by decide +kernel
theorem dX1_boundTo_0 : decode cX1_boundTo 0 = .ok (.iload_n 1, 1) := by decide +kernel
theorem dX1_boundTo_1 : decode cX1_boundTo 1 = .ok (.ifCond .lt 17, 3) := by decide +kernel
theorem dX1_boundTo_4 : decode cX1_boundTo 4 = .ok (.iload_n 1, 1) := by decide +kernel
theorem dX1_boundTo_5 : decode cX1_boundTo 5 = .ok (.iconst 4, 1) := by decide +kernel
theorem dX1_boundTo_6 : decode cX1_boundTo 6 = .ok (.if_icmp .ge 12, 3) := by decide +kernel
theorem dX1_boundTo_9 : decode cX1_boundTo 9 = .ok (.aload_n 0, 1) := by decide +kernel
theorem dX1_boundTo_10 : decode cX1_boundTo 10 = .ok (.getfield 9, 3) := by decide +kernel
theorem dX1_boundTo_13 : decode cX1_boundTo 13 = .ok (.iload_n 1, 1) := by decide +kernel
theorem dX1_boundTo_14 : decode cX1_boundTo 14 = .ok (.iaload, 1) := by decide +kernel
theorem dX1_boundTo_15 : decode cX1_boundTo 15 = .ok (.goto 4, 3) := by decide +kernel
theorem dX1_boundTo_18 : decode cX1_boundTo 18 = .ok (.iconst (-1), 1) := by decide +kernel
theorem dX1_boundTo_19 : decode cX1_boundTo 19 = .ok (.ireturn, 1) := by decide +kernel
theorem dX1_boundCount_0 : decode cX1_boundCount 0 = .ok (.iconst 0, 1) := by decide +kernel
theorem dX1_boundCount_1 : decode cX1_boundCount 1 = .ok (.istore_n 1, 1) := by decide +kernel
theorem dX1_boundCount_2 : decode cX1_boundCount 2 = .ok (.iconst 0, 1) := by decide +kernel
theorem dX1_boundCount_3 : decode cX1_boundCount 3 = .ok (.istore_n 2, 1) := by decide +kernel
theorem dX1_boundCount_4 : decode cX1_boundCount 4 = .ok (.iload_n 2, 1) := by decide +kernel
theorem dX1_boundCount_5 : decode cX1_boundCount 5 = .ok (.iconst 4, 1) := by decide +kernel
theorem dX1_boundCount_6 : decode cX1_boundCount 6 = .ok (.if_icmp .ge 22, 3) := by decide +kernel
theorem dX1_boundCount_9 : decode cX1_boundCount 9 = .ok (.aload_n 0, 1) := by decide +kernel
theorem dX1_boundCount_10 : decode cX1_boundCount 10 = .ok (.getfield 9, 3) := by decide +kernel
theorem dX1_boundCount_13 : decode cX1_boundCount 13 = .ok (.iload_n 2, 1) := by decide +kernel
theorem dX1_boundCount_14 : decode cX1_boundCount 14 = .ok (.iaload, 1) := by decide +kernel
theorem dX1_boundCount_15 : decode cX1_boundCount 15 = .ok (.iconst (-1), 1) := by decide +kernel
theorem dX1_boundCount_16 : decode cX1_boundCount 16 = .ok (.if_icmp .eq 6, 3) := by decide +kernel
theorem dX1_boundCount_19 : decode cX1_boundCount 19 = .ok (.iinc 1 1, 3) := by decide +kernel
theorem dX1_boundCount_22 : decode cX1_boundCount 22 = .ok (.iinc 2 1, 3) := by decide +kernel
theorem dX1_boundCount_25 : decode cX1_boundCount 25 = .ok (.goto (-21), 3) := by decide +kernel
theorem dX1_boundCount_28 : decode cX1_boundCount 28 = .ok (.iload_n 1, 1) := by decide +kernel
theorem dX1_boundCount_29 : decode cX1_boundCount 29 = .ok (.ireturn, 1) := by decide +kernel
theorem dX1_putDouble_0 : decode cX1_putDouble 0 = .ok (.iload_n 1, 1) := by decide +kernel
theorem dX1_putDouble_1 : decode cX1_putDouble 1 = .ok (.ifCond .lt 8, 3) := by decide +kernel
theorem dX1_putDouble_4 : decode cX1_putDouble 4 = .ok (.iload_n 1, 1) := by decide +kernel
theorem dX1_putDouble_5 : decode cX1_putDouble 5 = .ok (.iconst 4, 1) := by decide +kernel
theorem dX1_putDouble_6 : decode cX1_putDouble 6 = .ok (.if_icmp .lt 5, 3) := by decide +kernel
theorem dX1_putDouble_9 : decode cX1_putDouble 9 = .ok (.iconst 0, 1) := by decide +kernel
theorem dX1_putDouble_10 : decode cX1_putDouble 10 = .ok (.ireturn, 1) := by decide +kernel
theorem dX1_putDouble_11 : decode cX1_putDouble 11 = .ok (.aload_n 0, 1) := by decide +kernel
theorem dX1_putDouble_12 : decode cX1_putDouble 12 = .ok (.getfield 13, 3) := by decide +kernel
theorem dX1_putDouble_15 : decode cX1_putDouble 15 = .ok (.iload_n 1, 1) := by decide +kernel
theorem dX1_putDouble_16 : decode cX1_putDouble 16 = .ok (.iload_n 2, 1) := by decide +kernel
theorem dX1_putDouble_17 : decode cX1_putDouble 17 = .ok (.iastore, 1) := by decide +kernel
theorem dX1_putDouble_18 : decode cX1_putDouble 18 = .ok (.aload_n 0, 1) := by decide +kernel
theorem dX1_putDouble_19 : decode cX1_putDouble 19 = .ok (.getfield 16, 3) := by decide +kernel
theorem dX1_putDouble_22 : decode cX1_putDouble 22 = .ok (.iload_n 1, 1) := by decide +kernel
theorem dX1_putDouble_23 : decode cX1_putDouble 23 = .ok (.iload_n 3, 1) := by decide +kernel
theorem dX1_putDouble_24 : decode cX1_putDouble 24 = .ok (.iastore, 1) := by decide +kernel
theorem dX1_putDouble_25 : decode cX1_putDouble 25 = .ok (.iconst 1, 1) := by decide +kernel
theorem dX1_putDouble_26 : decode cX1_putDouble 26 = .ok (.ireturn, 1) := by decide +kernel
theorem dX1_dropDoubles_0 : decode cX1_dropDoubles 0 = .ok (.iconst 0, 1) := by decide +kernel
theorem dX1_dropDoubles_1 : decode cX1_dropDoubles 1 = .ok (.istore_n 1, 1) := by decide +kernel
theorem dX1_dropDoubles_2 : decode cX1_dropDoubles 2 = .ok (.iload_n 1, 1) := by decide +kernel
theorem dX1_dropDoubles_3 : decode cX1_dropDoubles 3 = .ok (.iconst 4, 1) := by decide +kernel
theorem dX1_dropDoubles_4 : decode cX1_dropDoubles 4 = .ok (.if_icmp .ge 16, 3) := by decide +kernel
theorem dX1_dropDoubles_7 : decode cX1_dropDoubles 7 = .ok (.aload_n 0, 1) := by decide +kernel
theorem dX1_dropDoubles_8 : decode cX1_dropDoubles 8 = .ok (.getfield 13, 3) := by decide +kernel
theorem dX1_dropDoubles_11 : decode cX1_dropDoubles 11 = .ok (.iload_n 1, 1) := by decide +kernel
theorem dX1_dropDoubles_12 : decode cX1_dropDoubles 12 = .ok (.iconst 0, 1) := by decide +kernel
theorem dX1_dropDoubles_13 : decode cX1_dropDoubles 13 = .ok (.iastore, 1) := by decide +kernel
theorem dX1_dropDoubles_14 : decode cX1_dropDoubles 14 = .ok (.iinc 1 1, 3) := by decide +kernel
theorem dX1_dropDoubles_17 : decode cX1_dropDoubles 17 = .ok (.goto (-15), 3) := by decide +kernel
theorem dX1_dropDoubles_20 : decode cX1_dropDoubles 20 = .ok (.return_, 1) := by decide +kernel
theorem dX1_doubleOf_0 : decode cX1_doubleOf 0 = .ok (.iload_n 1, 1) := by decide +kernel
theorem dX1_doubleOf_1 : decode cX1_doubleOf 1 = .ok (.ifCond .lt 17, 3) := by decide +kernel
theorem dX1_doubleOf_4 : decode cX1_doubleOf 4 = .ok (.iload_n 1, 1) := by decide +kernel
theorem dX1_doubleOf_5 : decode cX1_doubleOf 5 = .ok (.iconst 4, 1) := by decide +kernel
theorem dX1_doubleOf_6 : decode cX1_doubleOf 6 = .ok (.if_icmp .ge 12, 3) := by decide +kernel
theorem dX1_doubleOf_9 : decode cX1_doubleOf 9 = .ok (.aload_n 0, 1) := by decide +kernel
theorem dX1_doubleOf_10 : decode cX1_doubleOf 10 = .ok (.getfield 13, 3) := by decide +kernel
theorem dX1_doubleOf_13 : decode cX1_doubleOf 13 = .ok (.iload_n 1, 1) := by decide +kernel
theorem dX1_doubleOf_14 : decode cX1_doubleOf 14 = .ok (.iaload, 1) := by decide +kernel
theorem dX1_doubleOf_15 : decode cX1_doubleOf 15 = .ok (.goto 4, 3) := by decide +kernel
theorem dX1_doubleOf_18 : decode cX1_doubleOf 18 = .ok (.iconst 0, 1) := by decide +kernel
theorem dX1_doubleOf_19 : decode cX1_doubleOf 19 = .ok (.ireturn, 1) := by decide +kernel
theorem dX1_numberOf_0 : decode cX1_numberOf 0 = .ok (.iload_n 1, 1) := by decide +kernel
theorem dX1_numberOf_1 : decode cX1_numberOf 1 = .ok (.ifCond .lt 17, 3) := by decide +kernel
theorem dX1_numberOf_4 : decode cX1_numberOf 4 = .ok (.iload_n 1, 1) := by decide +kernel
theorem dX1_numberOf_5 : decode cX1_numberOf 5 = .ok (.iconst 4, 1) := by decide +kernel
theorem dX1_numberOf_6 : decode cX1_numberOf 6 = .ok (.if_icmp .ge 12, 3) := by decide +kernel
theorem dX1_numberOf_9 : decode cX1_numberOf 9 = .ok (.aload_n 0, 1) := by decide +kernel
theorem dX1_numberOf_10 : decode cX1_numberOf 10 = .ok (.getfield 16, 3) := by decide +kernel
theorem dX1_numberOf_13 : decode cX1_numberOf 13 = .ok (.iload_n 1, 1) := by decide +kernel
theorem dX1_numberOf_14 : decode cX1_numberOf 14 = .ok (.iaload, 1) := by decide +kernel
theorem dX1_numberOf_15 : decode cX1_numberOf 15 = .ok (.goto 4, 3) := by decide +kernel
theorem dX1_numberOf_18 : decode cX1_numberOf 18 = .ok (.iconst 0, 1) := by decide +kernel
theorem dX1_numberOf_19 : decode cX1_numberOf 19 = .ok (.ireturn, 1) := by decide +kernel
theorem dX2_init_0 : decode cX2_init 0 = .ok (.aload_n 0, 1) := by decide +kernel
theorem dX2_init_1 : decode cX2_init 1 = .ok (.invokespecial 5, 3) := by decide +kernel
theorem dX2_init_4 : decode cX2_init 4 = .ok (.aload_n 0, 1) := by decide +kernel
theorem dX2_init_5 : decode cX2_init 5 = .ok (.sipush 2520, 3) := by decide +kernel
theorem dX2_init_8 : decode cX2_init 8 = .ok (.newarray .int, 2) := by decide +kernel
theorem dX2_init_10 : decode cX2_init 10 = .ok (.putfield 13, 3) := by decide +kernel
theorem dX2_init_13 : decode cX2_init 13 = .ok (.aload_n 0, 1) := by decide +kernel
theorem dX2_init_14 : decode cX2_init 14 = .ok (.iconst 0, 1) := by decide +kernel
theorem dX2_init_15 : decode cX2_init 15 = .ok (.putfield 17, 3) := by decide +kernel
theorem dX2_init_18 : decode cX2_init 18 = .ok (.aload_n 0, 1) := by decide +kernel
theorem dX2_init_19 : decode cX2_init 19 = .ok (.iconst 0, 1) := by decide +kernel
theorem dX2_init_20 : decode cX2_init 20 = .ok (.putfield 21, 3) := by decide +kernel
theorem dX2_init_23 : decode cX2_init 23 = .ok (.aload_n 0, 1) := by decide +kernel
theorem dX2_init_24 : decode cX2_init 24 = .ok (.iconst 0, 1) := by decide +kernel
theorem dX2_init_25 : decode cX2_init 25 = .ok (.putfield 24, 3) := by decide +kernel
theorem dX2_init_28 : decode cX2_init 28 = .ok (.aload_n 0, 1) := by decide +kernel
theorem dX2_init_29 : decode cX2_init 29 = .ok (.iconst 0, 1) := by decide +kernel
theorem dX2_init_30 : decode cX2_init 30 = .ok (.putfield 27, 3) := by decide +kernel
theorem dX2_init_33 : decode cX2_init 33 = .ok (.aload_n 0, 1) := by decide +kernel
theorem dX2_init_34 : decode cX2_init 34 = .ok (.iconst 0, 1) := by decide +kernel
theorem dX2_init_35 : decode cX2_init 35 = .ok (.putfield 30, 3) := by decide +kernel
theorem dX2_init_38 : decode cX2_init 38 = .ok (.aload_n 0, 1) := by decide +kernel
theorem dX2_init_39 : decode cX2_init 39 = .ok (.aload_n 1, 1) := by decide +kernel
theorem dX2_init_40 : decode cX2_init 40 = .ok (.putfield 33, 3) := by decide +kernel
theorem dX2_init_43 : decode cX2_init 43 = .ok (.aload_n 0, 1) := by decide +kernel
theorem dX2_init_44 : decode cX2_init 44 = .ok (.aload_n 2, 1) := by decide +kernel
theorem dX2_init_45 : decode cX2_init 45 = .ok (.putfield 37, 3) := by decide +kernel
theorem dX2_init_48 : decode cX2_init 48 = .ok (.aload_n 0, 1) := by decide +kernel
theorem dX2_init_49 : decode cX2_init 49 = .ok (.aload_n 3, 1) := by decide +kernel
theorem dX2_init_50 : decode cX2_init 50 = .ok (.putfield 41, 3) := by decide +kernel
theorem dX2_init_53 : decode cX2_init 53 = .ok (.return_, 1) := by decide +kernel
theorem dX2_inAll_0 : decode cX2_inAll 0 = .ok (.aload_n 0, 1) := by decide +kernel
theorem dX2_inAll_1 : decode cX2_inAll 1 = .ok (.getfield 17, 3) := by decide +kernel
theorem dX2_inAll_4 : decode cX2_inAll 4 = .ok (.ireturn, 1) := by decide +kernel
theorem dX2_answered_0 : decode cX2_answered 0 = .ok (.aload_n 0, 1) := by decide +kernel
theorem dX2_answered_1 : decode cX2_answered 1 = .ok (.getfield 30, 3) := by decide +kernel
theorem dX2_answered_4 : decode cX2_answered 4 = .ok (.ireturn, 1) := by decide +kernel
theorem dX2_threw_0 : decode cX2_threw 0 = .ok (.aload_n 0, 1) := by decide +kernel
theorem dX2_threw_1 : decode cX2_threw 1 = .ok (.getfield 24, 3) := by decide +kernel
theorem dX2_threw_4 : decode cX2_threw 4 = .ok (.ifCond .eq 7, 3) := by decide +kernel
theorem dX2_threw_7 : decode cX2_threw 7 = .ok (.iconst 1, 1) := by decide +kernel
theorem dX2_threw_8 : decode cX2_threw 8 = .ok (.goto 4, 3) := by decide +kernel
theorem dX2_threw_11 : decode cX2_threw 11 = .ok (.iconst 0, 1) := by decide +kernel
theorem dX2_threw_12 : decode cX2_threw 12 = .ok (.ireturn, 1) := by decide +kernel
theorem dX2_thrown_0 : decode cX2_thrown 0 = .ok (.aload_n 0, 1) := by decide +kernel
theorem dX2_thrown_1 : decode cX2_thrown 1 = .ok (.getfield 24, 3) := by decide +kernel
theorem dX2_thrown_4 : decode cX2_thrown 4 = .ok (.ireturn, 1) := by decide +kernel
theorem dX2_lastCause_0 : decode cX2_lastCause 0 = .ok (.aload_n 0, 1) := by decide +kernel
theorem dX2_lastCause_1 : decode cX2_lastCause 1 = .ok (.getfield 27, 3) := by decide +kernel
theorem dX2_lastCause_4 : decode cX2_lastCause 4 = .ok (.ireturn, 1) := by decide +kernel
theorem dX2_stepsDone_0 : decode cX2_stepsDone 0 = .ok (.aload_n 0, 1) := by decide +kernel
theorem dX2_stepsDone_1 : decode cX2_stepsDone 1 = .ok (.getfield 21, 3) := by decide +kernel
theorem dX2_stepsDone_4 : decode cX2_stepsDone 4 = .ok (.ireturn, 1) := by decide +kernel
theorem dX2_callFromOutside_0 : decode cX2_callFromOutside 0 = .ok (.aload_n 0, 1) := by decide +kernel
theorem dX2_callFromOutside_1 : decode cX2_callFromOutside 1 = .ok (.iconst 0, 1) := by decide +kernel
theorem dX2_callFromOutside_2 : decode cX2_callFromOutside 2 = .ok (.putfield 21, 3) := by decide +kernel
theorem dX2_callFromOutside_5 : decode cX2_callFromOutside 5 = .ok (.aload_n 0, 1) := by decide +kernel
theorem dX2_callFromOutside_6 : decode cX2_callFromOutside 6 = .ok (.iconst 0, 1) := by decide +kernel
theorem dX2_callFromOutside_7 : decode cX2_callFromOutside 7 = .ok (.invokevirtual 45, 3) := by decide +kernel
theorem dX2_callFromOutside_10 : decode cX2_callFromOutside 10 = .ok (.aload_n 0, 1) := by decide +kernel
theorem dX2_callFromOutside_11 : decode cX2_callFromOutside 11 = .ok (.iload_n 1, 1) := by decide +kernel
theorem dX2_callFromOutside_12 : decode cX2_callFromOutside 12 = .ok (.iload_n 2, 1) := by decide +kernel
theorem dX2_callFromOutside_13 : decode cX2_callFromOutside 13 = .ok (.iload_n 3, 1) := by decide +kernel
theorem dX2_callFromOutside_14 : decode cX2_callFromOutside 14 = .ok (.iload 4, 2) := by decide +kernel
theorem dX2_callFromOutside_16 : decode cX2_callFromOutside 16 = .ok (.iconst 1, 1) := by decide +kernel
theorem dX2_callFromOutside_17 : decode cX2_callFromOutside 17 = .ok (.iconst 0, 1) := by decide +kernel
theorem dX2_callFromOutside_18 : decode cX2_callFromOutside 18 = .ok (.invokevirtual 49, 3) := by decide +kernel
theorem dX2_callFromOutside_21 : decode cX2_callFromOutside 21 = .ok (.istore 5, 2) := by decide +kernel
theorem dX2_callFromOutside_23 : decode cX2_callFromOutside 23 = .ok (.aload_n 0, 1) := by decide +kernel
theorem dX2_callFromOutside_24 : decode cX2_callFromOutside 24 = .ok (.aload_n 0, 1) := by decide +kernel
theorem dX2_callFromOutside_25 : decode cX2_callFromOutside 25 = .ok (.invokevirtual 53, 3) := by decide +kernel
theorem dX2_callFromOutside_28 : decode cX2_callFromOutside 28 = .ok (.ifCond .eq 7, 3) := by decide +kernel
theorem dX2_callFromOutside_31 : decode cX2_callFromOutside 31 = .ok (.iconst 0, 1) := by decide +kernel
theorem dX2_callFromOutside_32 : decode cX2_callFromOutside 32 = .ok (.goto 5, 3) := by decide +kernel
theorem dX2_callFromOutside_35 : decode cX2_callFromOutside 35 = .ok (.iload 5, 2) := by decide +kernel
theorem dX2_callFromOutside_37 : decode cX2_callFromOutside 37 = .ok (.putfield 30, 3) := by decide +kernel
theorem dX2_callFromOutside_40 : decode cX2_callFromOutside 40 = .ok (.return_, 1) := by decide +kernel
theorem dX2_raise_0 : decode cX2_raise 0 = .ok (.aload_n 0, 1) := by decide +kernel
theorem dX2_raise_1 : decode cX2_raise 1 = .ok (.iload_n 1, 1) := by decide +kernel
theorem dX2_raise_2 : decode cX2_raise 2 = .ok (.putfield 24, 3) := by decide +kernel
theorem dX2_raise_5 : decode cX2_raise 5 = .ok (.aload_n 0, 1) := by decide +kernel
theorem dX2_raise_6 : decode cX2_raise 6 = .ok (.iload_n 1, 1) := by decide +kernel
theorem dX2_raise_7 : decode cX2_raise 7 = .ok (.putfield 27, 3) := by decide +kernel
theorem dX2_raise_10 : decode cX2_raise 10 = .ok (.return_, 1) := by decide +kernel
theorem dX2_oneCall_0 : decode cX2_oneCall 0 = .ok (.aload_n 0, 1) := by decide +kernel
theorem dX2_oneCall_1 : decode cX2_oneCall 1 = .ok (.getfield 17, 3) := by decide +kernel
theorem dX2_oneCall_4 : decode cX2_oneCall 4 = .ok (.sipush 20000, 3) := by decide +kernel
theorem dX2_oneCall_7 : decode cX2_oneCall 7 = .ok (.if_icmp .ge 25, 3) := by decide +kernel
theorem dX2_oneCall_10 : decode cX2_oneCall 10 = .ok (.iload 5, 2) := by decide +kernel
theorem dX2_oneCall_12 : decode cX2_oneCall 12 = .ok (.iconst 4, 1) := by decide +kernel
theorem dX2_oneCall_13 : decode cX2_oneCall 13 = .ok (.if_icmp .gt 19, 3) := by decide +kernel
theorem dX2_oneCall_16 : decode cX2_oneCall 16 = .ok (.aload_n 0, 1) := by decide +kernel
theorem dX2_oneCall_17 : decode cX2_oneCall 17 = .ok (.getfield 33, 3) := by decide +kernel
theorem dX2_oneCall_20 : decode cX2_oneCall 20 = .ok (.aload_n 0, 1) := by decide +kernel
theorem dX2_oneCall_21 : decode cX2_oneCall 21 = .ok (.getfield 13, 3) := by decide +kernel
theorem dX2_oneCall_24 : decode cX2_oneCall 24 = .ok (.iload 6, 2) := by decide +kernel
theorem dX2_oneCall_26 : decode cX2_oneCall 26 = .ok (.invokevirtual 57, 3) := by decide +kernel
theorem dX2_oneCall_29 : decode cX2_oneCall 29 = .ok (.ifCond .ne 11, 3) := by decide +kernel
theorem dX2_oneCall_32 : decode cX2_oneCall 32 = .ok (.aload_n 0, 1) := by decide +kernel
theorem dX2_oneCall_33 : decode cX2_oneCall 33 = .ok (.bipush 7, 2) := by decide +kernel
theorem dX2_oneCall_35 : decode cX2_oneCall 35 = .ok (.invokevirtual 45, 3) := by decide +kernel
theorem dX2_oneCall_38 : decode cX2_oneCall 38 = .ok (.iconst 0, 1) := by decide +kernel
theorem dX2_oneCall_39 : decode cX2_oneCall 39 = .ok (.ireturn, 1) := by decide +kernel
theorem dX2_oneCall_40 : decode cX2_oneCall 40 = .ok (.aload_n 0, 1) := by decide +kernel
theorem dX2_oneCall_41 : decode cX2_oneCall 41 = .ok (.dup, 1) := by decide +kernel
theorem dX2_oneCall_42 : decode cX2_oneCall 42 = .ok (.getfield 17, 3) := by decide +kernel
theorem dX2_oneCall_45 : decode cX2_oneCall 45 = .ok (.iconst 1, 1) := by decide +kernel
theorem dX2_oneCall_46 : decode cX2_oneCall 46 = .ok (.iadd, 1) := by decide +kernel
theorem dX2_oneCall_47 : decode cX2_oneCall 47 = .ok (.putfield 17, 3) := by decide +kernel
theorem dX2_oneCall_50 : decode cX2_oneCall 50 = .ok (.aload_n 0, 1) := by decide +kernel
theorem dX2_oneCall_51 : decode cX2_oneCall 51 = .ok (.aload_n 0, 1) := by decide +kernel
theorem dX2_oneCall_52 : decode cX2_oneCall 52 = .ok (.getfield 33, 3) := by decide +kernel
theorem dX2_oneCall_55 : decode cX2_oneCall 55 = .ok (.iload_n 1, 1) := by decide +kernel
theorem dX2_oneCall_56 : decode cX2_oneCall 56 = .ok (.iload_n 2, 1) := by decide +kernel
theorem dX2_oneCall_57 : decode cX2_oneCall 57 = .ok (.invokestatic 61, 3) := by decide +kernel
theorem dX2_oneCall_60 : decode cX2_oneCall 60 = .ok (.iload 4, 2) := by decide +kernel
theorem dX2_oneCall_62 : decode cX2_oneCall 62 = .ok (.invokevirtual 65, 3) := by decide +kernel
theorem dX2_oneCall_65 : decode cX2_oneCall 65 = .ok (.invokevirtual 45, 3) := by decide +kernel
theorem dX2_oneCall_68 : decode cX2_oneCall 68 = .ok (.aload_n 0, 1) := by decide +kernel
theorem dX2_oneCall_69 : decode cX2_oneCall 69 = .ok (.iload_n 2, 1) := by decide +kernel
theorem dX2_oneCall_70 : decode cX2_oneCall 70 = .ok (.iconst 0, 1) := by decide +kernel
theorem dX2_oneCall_71 : decode cX2_oneCall 71 = .ok (.aload_n 0, 1) := by decide +kernel
theorem dX2_oneCall_72 : decode cX2_oneCall 72 = .ok (.getfield 37, 3) := by decide +kernel
theorem dX2_oneCall_75 : decode cX2_oneCall 75 = .ok (.iload_n 2, 1) := by decide +kernel
theorem dX2_oneCall_76 : decode cX2_oneCall 76 = .ok (.invokevirtual 69, 3) := by decide +kernel
theorem dX2_oneCall_79 : decode cX2_oneCall 79 = .ok (.iload_n 3, 1) := by decide +kernel
theorem dX2_oneCall_80 : decode cX2_oneCall 80 = .ok (.iload 5, 2) := by decide +kernel
theorem dX2_oneCall_82 : decode cX2_oneCall 82 = .ok (.iload 6, 2) := by decide +kernel
theorem dX2_oneCall_84 : decode cX2_oneCall 84 = .ok (.iconst 1, 1) := by decide +kernel
theorem dX2_oneCall_85 : decode cX2_oneCall 85 = .ok (.iadd, 1) := by decide +kernel
theorem dX2_oneCall_86 : decode cX2_oneCall 86 = .ok (.invokevirtual 72, 3) := by decide +kernel
theorem dX2_oneCall_89 : decode cX2_oneCall 89 = .ok (.istore 7, 2) := by decide +kernel
theorem dX2_oneCall_91 : decode cX2_oneCall 91 = .ok (.aload_n 0, 1) := by decide +kernel
theorem dX2_oneCall_92 : decode cX2_oneCall 92 = .ok (.invokevirtual 53, 3) := by decide +kernel
theorem dX2_oneCall_95 : decode cX2_oneCall 95 = .ok (.ifCond .eq 17, 3) := by decide +kernel
theorem dX2_oneCall_98 : decode cX2_oneCall 98 = .ok (.aload_n 0, 1) := by decide +kernel
theorem dX2_oneCall_99 : decode cX2_oneCall 99 = .ok (.getfield 33, 3) := by decide +kernel
theorem dX2_oneCall_102 : decode cX2_oneCall 102 = .ok (.aload_n 0, 1) := by decide +kernel
theorem dX2_oneCall_103 : decode cX2_oneCall 103 = .ok (.getfield 13, 3) := by decide +kernel
theorem dX2_oneCall_106 : decode cX2_oneCall 106 = .ok (.iload 6, 2) := by decide +kernel
theorem dX2_oneCall_108 : decode cX2_oneCall 108 = .ok (.invokevirtual 75, 3) := by decide +kernel
theorem dX2_oneCall_111 : decode cX2_oneCall 111 = .ok (.pop, 1) := by decide +kernel
theorem dX2_oneCall_112 : decode cX2_oneCall 112 = .ok (.iload 7, 2) := by decide +kernel
theorem dX2_oneCall_114 : decode cX2_oneCall 114 = .ok (.ireturn, 1) := by decide +kernel
theorem dX2_accountOf_0 : decode cX2_accountOf 0 = .ok (.bipush 8, 2) := by decide +kernel
theorem dX2_accountOf_2 : decode cX2_accountOf 2 = .ok (.iload_n 0, 1) := by decide +kernel
theorem dX2_accountOf_3 : decode cX2_accountOf 3 = .ok (.iconst 3, 1) := by decide +kernel
theorem dX2_accountOf_4 : decode cX2_accountOf 4 = .ok (.idiv, 1) := by decide +kernel
theorem dX2_accountOf_5 : decode cX2_accountOf 5 = .ok (.iadd, 1) := by decide +kernel
theorem dX2_accountOf_6 : decode cX2_accountOf 6 = .ok (.ireturn, 1) := by decide +kernel
theorem dX2_block_0 : decode cX2_block 0 = .ok (.iload 4, 2) := by decide +kernel
theorem dX2_block_2 : decode cX2_block 2 = .ok (.istore 7, 2) := by decide +kernel
theorem dX2_block_4 : decode cX2_block 4 = .ok (.iload_n 2, 1) := by decide +kernel
theorem dX2_block_5 : decode cX2_block 5 = .ok (.istore 8, 2) := by decide +kernel
theorem dX2_block_7 : decode cX2_block 7 = .ok (.iload_n 2, 1) := by decide +kernel
theorem dX2_block_8 : decode cX2_block 8 = .ok (.istore 9, 2) := by decide +kernel
theorem dX2_block_10 : decode cX2_block 10 = .ok (.iload 9, 2) := by decide +kernel
theorem dX2_block_12 : decode cX2_block 12 = .ok (.iload_n 3, 1) := by decide +kernel
theorem dX2_block_13 : decode cX2_block 13 = .ok (.if_icmp .ge 184, 3) := by decide +kernel
theorem dX2_block_16 : decode cX2_block 16 = .ok (.iload 9, 2) := by decide +kernel
theorem dX2_block_18 : decode cX2_block 18 = .ok (.iload 8, 2) := by decide +kernel
theorem dX2_block_20 : decode cX2_block 20 = .ok (.if_icmp .lt 171, 3) := by decide +kernel
theorem dX2_block_23 : decode cX2_block 23 = .ok (.aload_n 0, 1) := by decide +kernel
theorem dX2_block_24 : decode cX2_block 24 = .ok (.invokevirtual 53, 3) := by decide +kernel
theorem dX2_block_27 : decode cX2_block 27 = .ok (.ifCond .ne 164, 3) := by decide +kernel
theorem dX2_block_30 : decode cX2_block 30 = .ok (.aload_n 0, 1) := by decide +kernel
theorem dX2_block_31 : decode cX2_block 31 = .ok (.iload_n 1, 1) := by decide +kernel
theorem dX2_block_32 : decode cX2_block 32 = .ok (.iload 9, 2) := by decide +kernel
theorem dX2_block_34 : decode cX2_block 34 = .ok (.invokevirtual 78, 3) := by decide +kernel
theorem dX2_block_37 : decode cX2_block 37 = .ok (.ifCond .ne 6, 3) := by decide +kernel
theorem dX2_block_40 : decode cX2_block 40 = .ok (.goto 151, 3) := by decide +kernel
theorem dX2_block_43 : decode cX2_block 43 = .ok (.iload_n 1, 1) := by decide +kernel
theorem dX2_block_44 : decode cX2_block 44 = .ok (.bipush 8, 2) := by decide +kernel
theorem dX2_block_46 : decode cX2_block 46 = .ok (.imul, 1) := by decide +kernel
theorem dX2_block_47 : decode cX2_block 47 = .ok (.iload 9, 2) := by decide +kernel
theorem dX2_block_49 : decode cX2_block 49 = .ok (.iadd, 1) := by decide +kernel
theorem dX2_block_50 : decode cX2_block 50 = .ok (.istore 10, 2) := by decide +kernel
theorem dX2_block_52 : decode cX2_block 52 = .ok (.aload_n 0, 1) := by decide +kernel
theorem dX2_block_53 : decode cX2_block 53 = .ok (.getfield 37, 3) := by decide +kernel
theorem dX2_block_56 : decode cX2_block 56 = .ok (.iload 10, 2) := by decide +kernel
theorem dX2_block_58 : decode cX2_block 58 = .ok (.invokevirtual 82, 3) := by decide +kernel
theorem dX2_block_61 : decode cX2_block 61 = .ok (.istore 11, 2) := by decide +kernel
theorem dX2_block_63 : decode cX2_block 63 = .ok (.iload 11, 2) := by decide +kernel
theorem dX2_block_65 : decode cX2_block 65 = .ok (.bipush 9, 2) := by decide +kernel
theorem dX2_block_67 : decode cX2_block 67 = .ok (.if_icmp .ne 45, 3) := by decide +kernel
theorem dX2_block_70 : decode cX2_block 70 = .ok (.iload_n 3, 1) := by decide +kernel
theorem dX2_block_71 : decode cX2_block 71 = .ok (.iload 9, 2) := by decide +kernel
theorem dX2_block_73 : decode cX2_block 73 = .ok (.iconst 1, 1) := by decide +kernel
theorem dX2_block_74 : decode cX2_block 74 = .ok (.iadd, 1) := by decide +kernel
theorem dX2_block_75 : decode cX2_block 75 = .ok (.aload_n 0, 1) := by decide +kernel
theorem dX2_block_76 : decode cX2_block 76 = .ok (.getfield 37, 3) := by decide +kernel
theorem dX2_block_79 : decode cX2_block 79 = .ok (.iload 10, 2) := by decide +kernel
theorem dX2_block_81 : decode cX2_block 81 = .ok (.invokevirtual 85, 3) := by decide +kernel
theorem dX2_block_84 : decode cX2_block 84 = .ok (.iadd, 1) := by decide +kernel
theorem dX2_block_85 : decode cX2_block 85 = .ok (.invokestatic 88, 3) := by decide +kernel
theorem dX2_block_88 : decode cX2_block 88 = .ok (.istore 8, 2) := by decide +kernel
theorem dX2_block_90 : decode cX2_block 90 = .ok (.aload_n 0, 1) := by decide +kernel
theorem dX2_block_91 : decode cX2_block 91 = .ok (.iload_n 1, 1) := by decide +kernel
theorem dX2_block_92 : decode cX2_block 92 = .ok (.iload 9, 2) := by decide +kernel
theorem dX2_block_94 : decode cX2_block 94 = .ok (.iconst 1, 1) := by decide +kernel
theorem dX2_block_95 : decode cX2_block 95 = .ok (.iadd, 1) := by decide +kernel
theorem dX2_block_96 : decode cX2_block 96 = .ok (.iload 8, 2) := by decide +kernel
theorem dX2_block_98 : decode cX2_block 98 = .ok (.iload 7, 2) := by decide +kernel
theorem dX2_block_100 : decode cX2_block 100 = .ok (.iload 5, 2) := by decide +kernel
theorem dX2_block_102 : decode cX2_block 102 = .ok (.iload 6, 2) := by decide +kernel
theorem dX2_block_104 : decode cX2_block 104 = .ok (.invokevirtual 94, 3) := by decide +kernel
theorem dX2_block_107 : decode cX2_block 107 = .ok (.istore 7, 2) := by decide +kernel
theorem dX2_block_109 : decode cX2_block 109 = .ok (.goto 82, 3) := by decide +kernel
theorem dX2_block_112 : decode cX2_block 112 = .ok (.iload 11, 2) := by decide +kernel
theorem dX2_block_114 : decode cX2_block 114 = .ok (.bipush 7, 2) := by decide +kernel
theorem dX2_block_116 : decode cX2_block 116 = .ok (.if_icmp .eq 10, 3) := by decide +kernel
theorem dX2_block_119 : decode cX2_block 119 = .ok (.iload 11, 2) := by decide +kernel
theorem dX2_block_121 : decode cX2_block 121 = .ok (.bipush 13, 2) := by decide +kernel
theorem dX2_block_123 : decode cX2_block 123 = .ok (.if_icmp .ne 22, 3) := by decide +kernel
theorem dX2_block_126 : decode cX2_block 126 = .ok (.iload 9, 2) := by decide +kernel
theorem dX2_block_128 : decode cX2_block 128 = .ok (.iconst 1, 1) := by decide +kernel
theorem dX2_block_129 : decode cX2_block 129 = .ok (.iadd, 1) := by decide +kernel
theorem dX2_block_130 : decode cX2_block 130 = .ok (.aload_n 0, 1) := by decide +kernel
theorem dX2_block_131 : decode cX2_block 131 = .ok (.iload_n 1, 1) := by decide +kernel
theorem dX2_block_132 : decode cX2_block 132 = .ok (.iload 9, 2) := by decide +kernel
theorem dX2_block_134 : decode cX2_block 134 = .ok (.iload 7, 2) := by decide +kernel
theorem dX2_block_136 : decode cX2_block 136 = .ok (.invokevirtual 97, 3) := by decide +kernel
theorem dX2_block_139 : decode cX2_block 139 = .ok (.iadd, 1) := by decide +kernel
theorem dX2_block_140 : decode cX2_block 140 = .ok (.istore 8, 2) := by decide +kernel
theorem dX2_block_142 : decode cX2_block 142 = .ok (.goto 49, 3) := by decide +kernel
theorem dX2_block_145 : decode cX2_block 145 = .ok (.iload 11, 2) := by decide +kernel
theorem dX2_block_147 : decode cX2_block 147 = .ok (.bipush 8, 2) := by decide +kernel
theorem dX2_block_149 : decode cX2_block 149 = .ok (.if_icmp .ne 31, 3) := by decide +kernel
theorem dX2_block_152 : decode cX2_block 152 = .ok (.aload_n 0, 1) := by decide +kernel
theorem dX2_block_153 : decode cX2_block 153 = .ok (.aload_n 0, 1) := by decide +kernel
theorem dX2_block_154 : decode cX2_block 154 = .ok (.getfield 37, 3) := by decide +kernel
theorem dX2_block_157 : decode cX2_block 157 = .ok (.iload 10, 2) := by decide +kernel
theorem dX2_block_159 : decode cX2_block 159 = .ok (.invokevirtual 85, 3) := by decide +kernel
theorem dX2_block_162 : decode cX2_block 162 = .ok (.iload_n 1, 1) := by decide +kernel
theorem dX2_block_163 : decode cX2_block 163 = .ok (.invokestatic 61, 3) := by decide +kernel
theorem dX2_block_166 : decode cX2_block 166 = .ok (.iload 7, 2) := by decide +kernel
theorem dX2_block_168 : decode cX2_block 168 = .ok (.iload 5, 2) := by decide +kernel
theorem dX2_block_170 : decode cX2_block 170 = .ok (.iload 6, 2) := by decide +kernel
theorem dX2_block_172 : decode cX2_block 172 = .ok (.invokevirtual 100, 3) := by decide +kernel
theorem dX2_block_175 : decode cX2_block 175 = .ok (.istore 7, 2) := by decide +kernel
theorem dX2_block_177 : decode cX2_block 177 = .ok (.goto 14, 3) := by decide +kernel
theorem dX2_block_180 : decode cX2_block 180 = .ok (.aload_n 0, 1) := by decide +kernel
theorem dX2_block_181 : decode cX2_block 181 = .ok (.iload_n 1, 1) := by decide +kernel
theorem dX2_block_182 : decode cX2_block 182 = .ok (.iload 10, 2) := by decide +kernel
theorem dX2_block_184 : decode cX2_block 184 = .ok (.iload 7, 2) := by decide +kernel
theorem dX2_block_186 : decode cX2_block 186 = .ok (.invokevirtual 104, 3) := by decide +kernel
theorem dX2_block_189 : decode cX2_block 189 = .ok (.istore 7, 2) := by decide +kernel
theorem dX2_block_191 : decode cX2_block 191 = .ok (.iinc 9 1, 3) := by decide +kernel
theorem dX2_block_194 : decode cX2_block 194 = .ok (.goto (-184), 3) := by decide +kernel
theorem dX2_block_197 : decode cX2_block 197 = .ok (.iload 7, 2) := by decide +kernel
theorem dX2_block_199 : decode cX2_block 199 = .ok (.ireturn, 1) := by decide +kernel
theorem dX2_begins_0 : decode cX2_begins 0 = .ok (.aload_n 0, 1) := by decide +kernel
theorem dX2_begins_1 : decode cX2_begins 1 = .ok (.getfield 21, 3) := by decide +kernel
theorem dX2_begins_4 : decode cX2_begins 4 = .ok (.bipush 100, 2) := by decide +kernel
theorem dX2_begins_6 : decode cX2_begins 6 = .ok (.if_icmp .ge 13, 3) := by decide +kernel
theorem dX2_begins_9 : decode cX2_begins 9 = .ok (.aload_n 0, 1) := by decide +kernel
theorem dX2_begins_10 : decode cX2_begins 10 = .ok (.getfield 17, 3) := by decide +kernel
theorem dX2_begins_13 : decode cX2_begins 13 = .ok (.sipush 20000, 3) := by decide +kernel
theorem dX2_begins_16 : decode cX2_begins 16 = .ok (.if_icmp .lt 11, 3) := by decide +kernel
theorem dX2_begins_19 : decode cX2_begins 19 = .ok (.aload_n 0, 1) := by decide +kernel
theorem dX2_begins_20 : decode cX2_begins 20 = .ok (.bipush 7, 2) := by decide +kernel
theorem dX2_begins_22 : decode cX2_begins 22 = .ok (.invokevirtual 45, 3) := by decide +kernel
theorem dX2_begins_25 : decode cX2_begins 25 = .ok (.iconst 0, 1) := by decide +kernel
theorem dX2_begins_26 : decode cX2_begins 26 = .ok (.ireturn, 1) := by decide +kernel
theorem dX2_begins_27 : decode cX2_begins 27 = .ok (.aload_n 0, 1) := by decide +kernel
theorem dX2_begins_28 : decode cX2_begins 28 = .ok (.dup, 1) := by decide +kernel
theorem dX2_begins_29 : decode cX2_begins 29 = .ok (.getfield 21, 3) := by decide +kernel
theorem dX2_begins_32 : decode cX2_begins 32 = .ok (.iconst 1, 1) := by decide +kernel
theorem dX2_begins_33 : decode cX2_begins 33 = .ok (.iadd, 1) := by decide +kernel
theorem dX2_begins_34 : decode cX2_begins 34 = .ok (.putfield 21, 3) := by decide +kernel
theorem dX2_begins_37 : decode cX2_begins 37 = .ok (.aload_n 0, 1) := by decide +kernel
theorem dX2_begins_38 : decode cX2_begins 38 = .ok (.dup, 1) := by decide +kernel
theorem dX2_begins_39 : decode cX2_begins 39 = .ok (.getfield 17, 3) := by decide +kernel
theorem dX2_begins_42 : decode cX2_begins 42 = .ok (.iconst 1, 1) := by decide +kernel
theorem dX2_begins_43 : decode cX2_begins 43 = .ok (.iadd, 1) := by decide +kernel
theorem dX2_begins_44 : decode cX2_begins 44 = .ok (.putfield 17, 3) := by decide +kernel
theorem dX2_begins_47 : decode cX2_begins 47 = .ok (.aload_n 0, 1) := by decide +kernel
theorem dX2_begins_48 : decode cX2_begins 48 = .ok (.getfield 37, 3) := by decide +kernel
theorem dX2_begins_51 : decode cX2_begins 51 = .ok (.iload_n 1, 1) := by decide +kernel
theorem dX2_begins_52 : decode cX2_begins 52 = .ok (.iload_n 2, 1) := by decide +kernel
theorem dX2_begins_53 : decode cX2_begins 53 = .ok (.invokevirtual 107, 3) := by decide +kernel
theorem dX2_begins_56 : decode cX2_begins 56 = .ok (.iconst 1, 1) := by decide +kernel
theorem dX2_begins_57 : decode cX2_begins 57 = .ok (.ireturn, 1) := by decide +kernel
theorem dX2_passedOver_0 : decode cX2_passedOver 0 = .ok (.iload_n 1, 1) := by decide +kernel
theorem dX2_passedOver_1 : decode cX2_passedOver 1 = .ok (.bipush 8, 2) := by decide +kernel
theorem dX2_passedOver_3 : decode cX2_passedOver 3 = .ok (.imul, 1) := by decide +kernel
theorem dX2_passedOver_4 : decode cX2_passedOver 4 = .ok (.iload_n 2, 1) := by decide +kernel
theorem dX2_passedOver_5 : decode cX2_passedOver 5 = .ok (.iadd, 1) := by decide +kernel
theorem dX2_passedOver_6 : decode cX2_passedOver 6 = .ok (.istore 4, 2) := by decide +kernel
theorem dX2_passedOver_8 : decode cX2_passedOver 8 = .ok (.iload_n 3, 1) := by decide +kernel
theorem dX2_passedOver_9 : decode cX2_passedOver 9 = .ok (.aload_n 0, 1) := by decide +kernel
theorem dX2_passedOver_10 : decode cX2_passedOver 10 = .ok (.getfield 37, 3) := by decide +kernel
theorem dX2_passedOver_13 : decode cX2_passedOver 13 = .ok (.iload 4, 2) := by decide +kernel
theorem dX2_passedOver_15 : decode cX2_passedOver 15 = .ok (.invokevirtual 111, 3) := by decide +kernel
theorem dX2_passedOver_18 : decode cX2_passedOver 18 = .ok (.if_icmp .ge 7, 3) := by decide +kernel
theorem dX2_passedOver_21 : decode cX2_passedOver 21 = .ok (.iconst 1, 1) := by decide +kernel
theorem dX2_passedOver_22 : decode cX2_passedOver 22 = .ok (.goto 4, 3) := by decide +kernel
theorem dX2_passedOver_25 : decode cX2_passedOver 25 = .ok (.iconst 0, 1) := by decide +kernel
theorem dX2_passedOver_26 : decode cX2_passedOver 26 = .ok (.istore 5, 2) := by decide +kernel
theorem dX2_passedOver_28 : decode cX2_passedOver 28 = .ok (.aload_n 0, 1) := by decide +kernel
theorem dX2_passedOver_29 : decode cX2_passedOver 29 = .ok (.getfield 37, 3) := by decide +kernel
theorem dX2_passedOver_32 : decode cX2_passedOver 32 = .ok (.iload 4, 2) := by decide +kernel
theorem dX2_passedOver_34 : decode cX2_passedOver 34 = .ok (.invokevirtual 82, 3) := by decide +kernel
theorem dX2_passedOver_37 : decode cX2_passedOver 37 = .ok (.bipush 13, 2) := by decide +kernel
theorem dX2_passedOver_39 : decode cX2_passedOver 39 = .ok (.if_icmp .ne 16, 3) := by decide +kernel
theorem dX2_passedOver_42 : decode cX2_passedOver 42 = .ok (.iload 5, 2) := by decide +kernel
theorem dX2_passedOver_44 : decode cX2_passedOver 44 = .ok (.ifCond .ne 7, 3) := by decide +kernel
theorem dX2_passedOver_47 : decode cX2_passedOver 47 = .ok (.iconst 1, 1) := by decide +kernel
theorem dX2_passedOver_48 : decode cX2_passedOver 48 = .ok (.goto 9, 3) := by decide +kernel
theorem dX2_passedOver_51 : decode cX2_passedOver 51 = .ok (.iconst 0, 1) := by decide +kernel
theorem dX2_passedOver_52 : decode cX2_passedOver 52 = .ok (.goto 5, 3) := by decide +kernel
theorem dX2_passedOver_55 : decode cX2_passedOver 55 = .ok (.iload 5, 2) := by decide +kernel
theorem dX2_passedOver_57 : decode cX2_passedOver 57 = .ok (.istore 6, 2) := by decide +kernel
theorem dX2_passedOver_59 : decode cX2_passedOver 59 = .ok (.aload_n 0, 1) := by decide +kernel
theorem dX2_passedOver_60 : decode cX2_passedOver 60 = .ok (.getfield 37, 3) := by decide +kernel
theorem dX2_passedOver_63 : decode cX2_passedOver 63 = .ok (.iload_n 1, 1) := by decide +kernel
theorem dX2_passedOver_64 : decode cX2_passedOver 64 = .ok (.iload_n 2, 1) := by decide +kernel
theorem dX2_passedOver_65 : decode cX2_passedOver 65 = .ok (.iload 6, 2) := by decide +kernel
theorem dX2_passedOver_67 : decode cX2_passedOver 67 = .ok (.ifCond .eq 8, 3) := by decide +kernel
theorem dX2_passedOver_70 : decode cX2_passedOver 70 = .ok (.bipush 8, 2) := by decide +kernel
theorem dX2_passedOver_72 : decode cX2_passedOver 72 = .ok (.goto 5, 3) := by decide +kernel
theorem dX2_passedOver_75 : decode cX2_passedOver 75 = .ok (.bipush 16, 2) := by decide +kernel
theorem dX2_passedOver_77 : decode cX2_passedOver 77 = .ok (.iadd, 1) := by decide +kernel
theorem dX2_passedOver_78 : decode cX2_passedOver 78 = .ok (.invokevirtual 107, 3) := by decide +kernel
theorem dX2_passedOver_81 : decode cX2_passedOver 81 = .ok (.iload 6, 2) := by decide +kernel
theorem dX2_passedOver_83 : decode cX2_passedOver 83 = .ok (.ifCond .eq 15, 3) := by decide +kernel
theorem dX2_passedOver_86 : decode cX2_passedOver 86 = .ok (.aload_n 0, 1) := by decide +kernel
theorem dX2_passedOver_87 : decode cX2_passedOver 87 = .ok (.getfield 37, 3) := by decide +kernel
theorem dX2_passedOver_90 : decode cX2_passedOver 90 = .ok (.iload 4, 2) := by decide +kernel
theorem dX2_passedOver_92 : decode cX2_passedOver 92 = .ok (.invokevirtual 85, 3) := by decide +kernel
theorem dX2_passedOver_95 : decode cX2_passedOver 95 = .ok (.goto 4, 3) := by decide +kernel
theorem dX2_passedOver_98 : decode cX2_passedOver 98 = .ok (.iconst 0, 1) := by decide +kernel
theorem dX2_passedOver_99 : decode cX2_passedOver 99 = .ok (.ireturn, 1) := by decide +kernel
theorem dX2_tried_0 : decode cX2_tried 0 = .ok (.aload_n 0, 1) := by decide +kernel
theorem dX2_tried_1 : decode cX2_tried 1 = .ok (.getfield 33, 3) := by decide +kernel
theorem dX2_tried_4 : decode cX2_tried 4 = .ok (.aload_n 0, 1) := by decide +kernel
theorem dX2_tried_5 : decode cX2_tried 5 = .ok (.getfield 13, 3) := by decide +kernel
theorem dX2_tried_8 : decode cX2_tried 8 = .ok (.iload 6, 2) := by decide +kernel
theorem dX2_tried_10 : decode cX2_tried 10 = .ok (.invokevirtual 57, 3) := by decide +kernel
theorem dX2_tried_13 : decode cX2_tried 13 = .ok (.ifCond .ne 12, 3) := by decide +kernel
theorem dX2_tried_16 : decode cX2_tried 16 = .ok (.aload_n 0, 1) := by decide +kernel
theorem dX2_tried_17 : decode cX2_tried 17 = .ok (.bipush 7, 2) := by decide +kernel
theorem dX2_tried_19 : decode cX2_tried 19 = .ok (.invokevirtual 45, 3) := by decide +kernel
theorem dX2_tried_22 : decode cX2_tried 22 = .ok (.iload 4, 2) := by decide +kernel
theorem dX2_tried_24 : decode cX2_tried 24 = .ok (.ireturn, 1) := by decide +kernel
theorem dX2_tried_25 : decode cX2_tried 25 = .ok (.aload_n 0, 1) := by decide +kernel
theorem dX2_tried_26 : decode cX2_tried 26 = .ok (.iload_n 1, 1) := by decide +kernel
theorem dX2_tried_27 : decode cX2_tried 27 = .ok (.iload_n 2, 1) := by decide +kernel
theorem dX2_tried_28 : decode cX2_tried 28 = .ok (.iload_n 3, 1) := by decide +kernel
theorem dX2_tried_29 : decode cX2_tried 29 = .ok (.iload 4, 2) := by decide +kernel
theorem dX2_tried_31 : decode cX2_tried 31 = .ok (.iload 5, 2) := by decide +kernel
theorem dX2_tried_33 : decode cX2_tried 33 = .ok (.iload 6, 2) := by decide +kernel
theorem dX2_tried_35 : decode cX2_tried 35 = .ok (.iconst 1, 1) := by decide +kernel
theorem dX2_tried_36 : decode cX2_tried 36 = .ok (.iadd, 1) := by decide +kernel
theorem dX2_tried_37 : decode cX2_tried 37 = .ok (.invokevirtual 72, 3) := by decide +kernel
theorem dX2_tried_40 : decode cX2_tried 40 = .ok (.istore 7, 2) := by decide +kernel
theorem dX2_tried_42 : decode cX2_tried 42 = .ok (.aload_n 0, 1) := by decide +kernel
theorem dX2_tried_43 : decode cX2_tried 43 = .ok (.invokevirtual 53, 3) := by decide +kernel
theorem dX2_tried_46 : decode cX2_tried 46 = .ok (.ifCond .eq 12, 3) := by decide +kernel
theorem dX2_tried_49 : decode cX2_tried 49 = .ok (.aload_n 0, 1) := by decide +kernel
theorem dX2_tried_50 : decode cX2_tried 50 = .ok (.getfield 24, 3) := by decide +kernel
theorem dX2_tried_53 : decode cX2_tried 53 = .ok (.bipush 7, 2) := by decide +kernel
theorem dX2_tried_55 : decode cX2_tried 55 = .ok (.if_icmp .ne 6, 3) := by decide +kernel
theorem dX2_tried_58 : decode cX2_tried 58 = .ok (.iload 7, 2) := by decide +kernel
theorem dX2_tried_60 : decode cX2_tried 60 = .ok (.ireturn, 1) := by decide +kernel
theorem dX2_tried_61 : decode cX2_tried 61 = .ok (.aload_n 0, 1) := by decide +kernel
theorem dX2_tried_62 : decode cX2_tried 62 = .ok (.getfield 24, 3) := by decide +kernel
theorem dX2_tried_65 : decode cX2_tried 65 = .ok (.istore 8, 2) := by decide +kernel
theorem dX2_tried_67 : decode cX2_tried 67 = .ok (.aload_n 0, 1) := by decide +kernel
theorem dX2_tried_68 : decode cX2_tried 68 = .ok (.iconst 0, 1) := by decide +kernel
theorem dX2_tried_69 : decode cX2_tried 69 = .ok (.invokevirtual 45, 3) := by decide +kernel
theorem dX2_tried_72 : decode cX2_tried 72 = .ok (.aload_n 0, 1) := by decide +kernel
theorem dX2_tried_73 : decode cX2_tried 73 = .ok (.getfield 33, 3) := by decide +kernel
theorem dX2_tried_76 : decode cX2_tried 76 = .ok (.aload_n 0, 1) := by decide +kernel
theorem dX2_tried_77 : decode cX2_tried 77 = .ok (.getfield 13, 3) := by decide +kernel
theorem dX2_tried_80 : decode cX2_tried 80 = .ok (.iload 6, 2) := by decide +kernel
theorem dX2_tried_82 : decode cX2_tried 82 = .ok (.invokevirtual 75, 3) := by decide +kernel
theorem dX2_tried_85 : decode cX2_tried 85 = .ok (.pop, 1) := by decide +kernel
theorem dX2_tried_86 : decode cX2_tried 86 = .ok (.iload 8, 2) := by decide +kernel
theorem dX2_tried_88 : decode cX2_tried 88 = .ok (.ireturn, 1) := by decide +kernel
theorem dX2_asked_0 : decode cX2_asked 0 = .ok (.iload_n 3, 1) := by decide +kernel
theorem dX2_asked_1 : decode cX2_asked 1 = .ok (.istore 6, 2) := by decide +kernel
theorem dX2_asked_3 : decode cX2_asked 3 = .ok (.aload_n 0, 1) := by decide +kernel
theorem dX2_asked_4 : decode cX2_asked 4 = .ok (.getfield 41, 3) := by decide +kernel
theorem dX2_asked_7 : decode cX2_asked 7 = .ok (.iload_n 1, 1) := by decide +kernel
theorem dX2_asked_8 : decode cX2_asked 8 = .ok (.invokevirtual 114, 3) := by decide +kernel
theorem dX2_asked_11 : decode cX2_asked 11 = .ok (.istore 7, 2) := by decide +kernel
theorem dX2_asked_13 : decode cX2_asked 13 = .ok (.aload_n 0, 1) := by decide +kernel
theorem dX2_asked_14 : decode cX2_asked 14 = .ok (.getfield 41, 3) := by decide +kernel
theorem dX2_asked_17 : decode cX2_asked 17 = .ok (.iload_n 1, 1) := by decide +kernel
theorem dX2_asked_18 : decode cX2_asked 18 = .ok (.invokevirtual 119, 3) := by decide +kernel
theorem dX2_asked_21 : decode cX2_asked 21 = .ok (.iconst 1, 1) := by decide +kernel
theorem dX2_asked_22 : decode cX2_asked 22 = .ok (.if_icmp .ne 16, 3) := by decide +kernel
theorem dX2_asked_25 : decode cX2_asked 25 = .ok (.aload_n 0, 1) := by decide +kernel
theorem dX2_asked_26 : decode cX2_asked 26 = .ok (.getfield 41, 3) := by decide +kernel
theorem dX2_asked_29 : decode cX2_asked 29 = .ok (.iload_n 1, 1) := by decide +kernel
theorem dX2_asked_30 : decode cX2_asked 30 = .ok (.invokevirtual 122, 3) := by decide +kernel
theorem dX2_asked_33 : decode cX2_asked 33 = .ok (.istore 6, 2) := by decide +kernel
theorem dX2_asked_35 : decode cX2_asked 35 = .ok (.goto 78, 3) := by decide +kernel
theorem dX2_asked_38 : decode cX2_asked 38 = .ok (.aload_n 0, 1) := by decide +kernel
theorem dX2_asked_39 : decode cX2_asked 39 = .ok (.getfield 41, 3) := by decide +kernel
theorem dX2_asked_42 : decode cX2_asked 42 = .ok (.iload_n 1, 1) := by decide +kernel
theorem dX2_asked_43 : decode cX2_asked 43 = .ok (.invokevirtual 119, 3) := by decide +kernel
theorem dX2_asked_46 : decode cX2_asked 46 = .ok (.iconst 2, 1) := by decide +kernel
theorem dX2_asked_47 : decode cX2_asked 47 = .ok (.if_icmp .ne 21, 3) := by decide +kernel
theorem dX2_asked_50 : decode cX2_asked 50 = .ok (.aload_n 0, 1) := by decide +kernel
theorem dX2_asked_51 : decode cX2_asked 51 = .ok (.bipush 20, 2) := by decide +kernel
theorem dX2_asked_53 : decode cX2_asked 53 = .ok (.aload_n 0, 1) := by decide +kernel
theorem dX2_asked_54 : decode cX2_asked 54 = .ok (.getfield 41, 3) := by decide +kernel
theorem dX2_asked_57 : decode cX2_asked 57 = .ok (.iload_n 1, 1) := by decide +kernel
theorem dX2_asked_58 : decode cX2_asked 58 = .ok (.invokevirtual 122, 3) := by decide +kernel
theorem dX2_asked_61 : decode cX2_asked 61 = .ok (.iadd, 1) := by decide +kernel
theorem dX2_asked_62 : decode cX2_asked 62 = .ok (.invokevirtual 45, 3) := by decide +kernel
theorem dX2_asked_65 : decode cX2_asked 65 = .ok (.goto 48, 3) := by decide +kernel
theorem dX2_asked_68 : decode cX2_asked 68 = .ok (.iload 7, 2) := by decide +kernel
theorem dX2_asked_70 : decode cX2_asked 70 = .ok (.iconst (-1), 1) := by decide +kernel
theorem dX2_asked_71 : decode cX2_asked 71 = .ok (.if_icmp .ne 11, 3) := by decide +kernel
theorem dX2_asked_74 : decode cX2_asked 74 = .ok (.aload_n 0, 1) := by decide +kernel
theorem dX2_asked_75 : decode cX2_asked 75 = .ok (.iconst 3, 1) := by decide +kernel
theorem dX2_asked_76 : decode cX2_asked 76 = .ok (.invokevirtual 45, 3) := by decide +kernel
theorem dX2_asked_79 : decode cX2_asked 79 = .ok (.goto 34, 3) := by decide +kernel
theorem dX2_asked_82 : decode cX2_asked 82 = .ok (.iload 4, 2) := by decide +kernel
theorem dX2_asked_84 : decode cX2_asked 84 = .ok (.iconst 4, 1) := by decide +kernel
theorem dX2_asked_85 : decode cX2_asked 85 = .ok (.if_icmp .lt 11, 3) := by decide +kernel
theorem dX2_asked_88 : decode cX2_asked 88 = .ok (.aload_n 0, 1) := by decide +kernel
theorem dX2_asked_89 : decode cX2_asked 89 = .ok (.iconst 4, 1) := by decide +kernel
theorem dX2_asked_90 : decode cX2_asked 90 = .ok (.invokevirtual 45, 3) := by decide +kernel
theorem dX2_asked_93 : decode cX2_asked 93 = .ok (.goto 20, 3) := by decide +kernel
theorem dX2_asked_96 : decode cX2_asked 96 = .ok (.aload_n 0, 1) := by decide +kernel
theorem dX2_asked_97 : decode cX2_asked 97 = .ok (.iload_n 2, 1) := by decide +kernel
theorem dX2_asked_98 : decode cX2_asked 98 = .ok (.iload 7, 2) := by decide +kernel
theorem dX2_asked_100 : decode cX2_asked 100 = .ok (.iload_n 3, 1) := by decide +kernel
theorem dX2_asked_101 : decode cX2_asked 101 = .ok (.iconst 0, 1) := by decide +kernel
theorem dX2_asked_102 : decode cX2_asked 102 = .ok (.iload 4, 2) := by decide +kernel
theorem dX2_asked_104 : decode cX2_asked 104 = .ok (.iconst 1, 1) := by decide +kernel
theorem dX2_asked_105 : decode cX2_asked 105 = .ok (.iadd, 1) := by decide +kernel
theorem dX2_asked_106 : decode cX2_asked 106 = .ok (.iload 5, 2) := by decide +kernel
theorem dX2_asked_108 : decode cX2_asked 108 = .ok (.invokevirtual 49, 3) := by decide +kernel
theorem dX2_asked_111 : decode cX2_asked 111 = .ok (.istore 6, 2) := by decide +kernel
theorem dX2_asked_113 : decode cX2_asked 113 = .ok (.aload_n 0, 1) := by decide +kernel
theorem dX2_asked_114 : decode cX2_asked 114 = .ok (.invokevirtual 53, 3) := by decide +kernel
theorem dX2_asked_117 : decode cX2_asked 117 = .ok (.ifCond .eq 17, 3) := by decide +kernel
theorem dX2_asked_120 : decode cX2_asked 120 = .ok (.aload_n 0, 1) := by decide +kernel
theorem dX2_asked_121 : decode cX2_asked 121 = .ok (.getfield 24, 3) := by decide +kernel
theorem dX2_asked_124 : decode cX2_asked 124 = .ok (.bipush 7, 2) := by decide +kernel
theorem dX2_asked_126 : decode cX2_asked 126 = .ok (.if_icmp .eq 8, 3) := by decide +kernel
theorem dX2_asked_129 : decode cX2_asked 129 = .ok (.aload_n 0, 1) := by decide +kernel
theorem dX2_asked_130 : decode cX2_asked 130 = .ok (.iconst 5, 1) := by decide +kernel
theorem dX2_asked_131 : decode cX2_asked 131 = .ok (.putfield 24, 3) := by decide +kernel
theorem dX2_asked_134 : decode cX2_asked 134 = .ok (.iload 6, 2) := by decide +kernel
theorem dX2_asked_136 : decode cX2_asked 136 = .ok (.ireturn, 1) := by decide +kernel
theorem dX2_plainStep_0 : decode cX2_plainStep 0 = .ok (.iload_n 1, 1) := by decide +kernel
theorem dX2_plainStep_1 : decode cX2_plainStep 1 = .ok (.iconst 3, 1) := by decide +kernel
theorem dX2_plainStep_2 : decode cX2_plainStep 2 = .ok (.idiv, 1) := by decide +kernel
theorem dX2_plainStep_3 : decode cX2_plainStep 3 = .ok (.istore 4, 2) := by decide +kernel
theorem dX2_plainStep_5 : decode cX2_plainStep 5 = .ok (.aload_n 0, 1) := by decide +kernel
theorem dX2_plainStep_6 : decode cX2_plainStep 6 = .ok (.getfield 37, 3) := by decide +kernel
theorem dX2_plainStep_9 : decode cX2_plainStep 9 = .ok (.iload_n 2, 1) := by decide +kernel
theorem dX2_plainStep_10 : decode cX2_plainStep 10 = .ok (.invokevirtual 85, 3) := by decide +kernel
theorem dX2_plainStep_13 : decode cX2_plainStep 13 = .ok (.istore 5, 2) := by decide +kernel
theorem dX2_plainStep_15 : decode cX2_plainStep 15 = .ok (.aload_n 0, 1) := by decide +kernel
theorem dX2_plainStep_16 : decode cX2_plainStep 16 = .ok (.getfield 37, 3) := by decide +kernel
theorem dX2_plainStep_19 : decode cX2_plainStep 19 = .ok (.iload_n 2, 1) := by decide +kernel
theorem dX2_plainStep_20 : decode cX2_plainStep 20 = .ok (.invokevirtual 111, 3) := by decide +kernel
theorem dX2_plainStep_23 : decode cX2_plainStep 23 = .ok (.istore 6, 2) := by decide +kernel
theorem dX2_plainStep_25 : decode cX2_plainStep 25 = .ok (.aload_n 0, 1) := by decide +kernel
theorem dX2_plainStep_26 : decode cX2_plainStep 26 = .ok (.getfield 37, 3) := by decide +kernel
theorem dX2_plainStep_29 : decode cX2_plainStep 29 = .ok (.iload_n 2, 1) := by decide +kernel
theorem dX2_plainStep_30 : decode cX2_plainStep 30 = .ok (.invokevirtual 82, 3) := by decide +kernel
theorem dX2_plainStep_33 : decode cX2_plainStep 33 = .ok (.tableswitch 198 0 11 #[63, 77, 89, 94, 108, 129, 149, 198, 198, 198, 159, 167], 63) := by decide +kernel
theorem dX2_plainStep_96 : decode cX2_plainStep 96 = .ok (.aload_n 0, 1) := by decide +kernel
theorem dX2_plainStep_97 : decode cX2_plainStep 97 = .ok (.getfield 33, 3) := by decide +kernel
theorem dX2_plainStep_100 : decode cX2_plainStep 100 = .ok (.iload 4, 2) := by decide +kernel
theorem dX2_plainStep_102 : decode cX2_plainStep 102 = .ok (.iload 5, 2) := by decide +kernel
theorem dX2_plainStep_104 : decode cX2_plainStep 104 = .ok (.iload_n 3, 1) := by decide +kernel
theorem dX2_plainStep_105 : decode cX2_plainStep 105 = .ok (.invokevirtual 125, 3) := by decide +kernel
theorem dX2_plainStep_108 : decode cX2_plainStep 108 = .ok (.iload_n 3, 1) := by decide +kernel
theorem dX2_plainStep_109 : decode cX2_plainStep 109 = .ok (.ireturn, 1) := by decide +kernel
theorem dX2_plainStep_110 : decode cX2_plainStep 110 = .ok (.aload_n 0, 1) := by decide +kernel
theorem dX2_plainStep_111 : decode cX2_plainStep 111 = .ok (.getfield 33, 3) := by decide +kernel
theorem dX2_plainStep_114 : decode cX2_plainStep 114 = .ok (.iload 4, 2) := by decide +kernel
theorem dX2_plainStep_116 : decode cX2_plainStep 116 = .ok (.iload 5, 2) := by decide +kernel
theorem dX2_plainStep_118 : decode cX2_plainStep 118 = .ok (.invokevirtual 129, 3) := by decide +kernel
theorem dX2_plainStep_121 : decode cX2_plainStep 121 = .ok (.ireturn, 1) := by decide +kernel
theorem dX2_plainStep_122 : decode cX2_plainStep 122 = .ok (.iload_n 3, 1) := by decide +kernel
theorem dX2_plainStep_123 : decode cX2_plainStep 123 = .ok (.iload 6, 2) := by decide +kernel
theorem dX2_plainStep_125 : decode cX2_plainStep 125 = .ok (.iadd, 1) := by decide +kernel
theorem dX2_plainStep_126 : decode cX2_plainStep 126 = .ok (.ireturn, 1) := by decide +kernel
theorem dX2_plainStep_127 : decode cX2_plainStep 127 = .ok (.iload_n 3, 1) := by decide +kernel
theorem dX2_plainStep_128 : decode cX2_plainStep 128 = .ok (.aload_n 0, 1) := by decide +kernel
theorem dX2_plainStep_129 : decode cX2_plainStep 129 = .ok (.getfield 33, 3) := by decide +kernel
theorem dX2_plainStep_132 : decode cX2_plainStep 132 = .ok (.iload 4, 2) := by decide +kernel
theorem dX2_plainStep_134 : decode cX2_plainStep 134 = .ok (.iload 5, 2) := by decide +kernel
theorem dX2_plainStep_136 : decode cX2_plainStep 136 = .ok (.invokevirtual 129, 3) := by decide +kernel
theorem dX2_plainStep_139 : decode cX2_plainStep 139 = .ok (.isub, 1) := by decide +kernel
theorem dX2_plainStep_140 : decode cX2_plainStep 140 = .ok (.ireturn, 1) := by decide +kernel
theorem dX2_plainStep_141 : decode cX2_plainStep 141 = .ok (.aload_n 0, 1) := by decide +kernel
theorem dX2_plainStep_142 : decode cX2_plainStep 142 = .ok (.iload_n 3, 1) := by decide +kernel
theorem dX2_plainStep_143 : decode cX2_plainStep 143 = .ok (.iload 6, 2) := by decide +kernel
theorem dX2_plainStep_145 : decode cX2_plainStep 145 = .ok (.if_icmp .ge 11, 3) := by decide +kernel
theorem dX2_plainStep_148 : decode cX2_plainStep 148 = .ok (.bipush 10, 2) := by decide +kernel
theorem dX2_plainStep_150 : decode cX2_plainStep 150 = .ok (.iload 5, 2) := by decide +kernel
theorem dX2_plainStep_152 : decode cX2_plainStep 152 = .ok (.iadd, 1) := by decide +kernel
theorem dX2_plainStep_153 : decode cX2_plainStep 153 = .ok (.goto 4, 3) := by decide +kernel
theorem dX2_plainStep_156 : decode cX2_plainStep 156 = .ok (.iconst 0, 1) := by decide +kernel
theorem dX2_plainStep_157 : decode cX2_plainStep 157 = .ok (.invokevirtual 45, 3) := by decide +kernel
theorem dX2_plainStep_160 : decode cX2_plainStep 160 = .ok (.iload_n 3, 1) := by decide +kernel
theorem dX2_plainStep_161 : decode cX2_plainStep 161 = .ok (.ireturn, 1) := by decide +kernel
theorem dX2_plainStep_162 : decode cX2_plainStep 162 = .ok (.aload_n 0, 1) := by decide +kernel
theorem dX2_plainStep_163 : decode cX2_plainStep 163 = .ok (.aload_n 0, 1) := by decide +kernel
theorem dX2_plainStep_164 : decode cX2_plainStep 164 = .ok (.getfield 33, 3) := by decide +kernel
theorem dX2_plainStep_167 : decode cX2_plainStep 167 = .ok (.iload_n 1, 1) := by decide +kernel
theorem dX2_plainStep_168 : decode cX2_plainStep 168 = .ok (.invokestatic 61, 3) := by decide +kernel
theorem dX2_plainStep_171 : decode cX2_plainStep 171 = .ok (.iload 5, 2) := by decide +kernel
theorem dX2_plainStep_173 : decode cX2_plainStep 173 = .ok (.iload_n 3, 1) := by decide +kernel
theorem dX2_plainStep_174 : decode cX2_plainStep 174 = .ok (.invokevirtual 65, 3) := by decide +kernel
theorem dX2_plainStep_177 : decode cX2_plainStep 177 = .ok (.invokevirtual 45, 3) := by decide +kernel
theorem dX2_plainStep_180 : decode cX2_plainStep 180 = .ok (.iload_n 3, 1) := by decide +kernel
theorem dX2_plainStep_181 : decode cX2_plainStep 181 = .ok (.ireturn, 1) := by decide +kernel
theorem dX2_plainStep_182 : decode cX2_plainStep 182 = .ok (.aload_n 0, 1) := by decide +kernel
theorem dX2_plainStep_183 : decode cX2_plainStep 183 = .ok (.getfield 33, 3) := by decide +kernel
theorem dX2_plainStep_186 : decode cX2_plainStep 186 = .ok (.iload_n 3, 1) := by decide +kernel
theorem dX2_plainStep_187 : decode cX2_plainStep 187 = .ok (.invokevirtual 132, 3) := by decide +kernel
theorem dX2_plainStep_190 : decode cX2_plainStep 190 = .ok (.iload_n 3, 1) := by decide +kernel
theorem dX2_plainStep_191 : decode cX2_plainStep 191 = .ok (.ireturn, 1) := by decide +kernel
theorem dX2_plainStep_192 : decode cX2_plainStep 192 = .ok (.aload_n 0, 1) := by decide +kernel
theorem dX2_plainStep_193 : decode cX2_plainStep 193 = .ok (.getfield 33, 3) := by decide +kernel
theorem dX2_plainStep_196 : decode cX2_plainStep 196 = .ok (.invokevirtual 135, 3) := by decide +kernel
theorem dX2_plainStep_199 : decode cX2_plainStep 199 = .ok (.ireturn, 1) := by decide +kernel
theorem dX2_plainStep_200 : decode cX2_plainStep 200 = .ok (.aload_n 0, 1) := by decide +kernel
theorem dX2_plainStep_201 : decode cX2_plainStep 201 = .ok (.getfield 33, 3) := by decide +kernel
theorem dX2_plainStep_204 : decode cX2_plainStep 204 = .ok (.iload 4, 2) := by decide +kernel
theorem dX2_plainStep_206 : decode cX2_plainStep 206 = .ok (.iload 5, 2) := by decide +kernel
theorem dX2_plainStep_208 : decode cX2_plainStep 208 = .ok (.invokevirtual 129, 3) := by decide +kernel
theorem dX2_plainStep_211 : decode cX2_plainStep 211 = .ok (.istore 7, 2) := by decide +kernel
theorem dX2_plainStep_213 : decode cX2_plainStep 213 = .ok (.iload 7, 2) := by decide +kernel
theorem dX2_plainStep_215 : decode cX2_plainStep 215 = .ok (.ifCond .ne 11, 3) := by decide +kernel
theorem dX2_plainStep_218 : decode cX2_plainStep 218 = .ok (.aload_n 0, 1) := by decide +kernel
theorem dX2_plainStep_219 : decode cX2_plainStep 219 = .ok (.bipush 6, 2) := by decide +kernel
theorem dX2_plainStep_221 : decode cX2_plainStep 221 = .ok (.invokevirtual 45, 3) := by decide +kernel
theorem dX2_plainStep_224 : decode cX2_plainStep 224 = .ok (.iload_n 3, 1) := by decide +kernel
theorem dX2_plainStep_225 : decode cX2_plainStep 225 = .ok (.ireturn, 1) := by decide +kernel
theorem dX2_plainStep_226 : decode cX2_plainStep 226 = .ok (.iload_n 3, 1) := by decide +kernel
theorem dX2_plainStep_227 : decode cX2_plainStep 227 = .ok (.iload 7, 2) := by decide +kernel
theorem dX2_plainStep_229 : decode cX2_plainStep 229 = .ok (.idiv, 1) := by decide +kernel
theorem dX2_plainStep_230 : decode cX2_plainStep 230 = .ok (.ireturn, 1) := by decide +kernel
theorem dX2_plainStep_231 : decode cX2_plainStep 231 = .ok (.iload_n 3, 1) := by decide +kernel
theorem dX2_plainStep_232 : decode cX2_plainStep 232 = .ok (.ireturn, 1) := by decide +kernel
theorem dX3_init_0 : decode cX3_init 0 = .ok (.aload_n 0, 1) := by decide +kernel
theorem dX3_init_1 : decode cX3_init 1 = .ok (.invokespecial 3, 3) := by decide +kernel
theorem dX3_init_4 : decode cX3_init 4 = .ok (.aload_n 0, 1) := by decide +kernel
theorem dX3_init_5 : decode cX3_init 5 = .ok (.iconst 4, 1) := by decide +kernel
theorem dX3_init_6 : decode cX3_init 6 = .ok (.newarray .int, 2) := by decide +kernel
theorem dX3_init_8 : decode cX3_init 8 = .ok (.putfield 9, 3) := by decide +kernel
theorem dX3_init_11 : decode cX3_init 11 = .ok (.aload_n 0, 1) := by decide +kernel
theorem dX3_init_12 : decode cX3_init 12 = .ok (.sipush 192, 3) := by decide +kernel
theorem dX3_init_15 : decode cX3_init 15 = .ok (.newarray .int, 2) := by decide +kernel
theorem dX3_init_17 : decode cX3_init 17 = .ok (.putfield 15, 3) := by decide +kernel
theorem dX3_init_20 : decode cX3_init 20 = .ok (.aload_n 0, 1) := by decide +kernel
theorem dX3_init_21 : decode cX3_init 21 = .ok (.iconst (-1), 1) := by decide +kernel
theorem dX3_init_22 : decode cX3_init 22 = .ok (.putfield 18, 3) := by decide +kernel
theorem dX3_init_25 : decode cX3_init 25 = .ok (.aload_n 0, 1) := by decide +kernel
theorem dX3_init_26 : decode cX3_init 26 = .ok (.iconst 0, 1) := by decide +kernel
theorem dX3_init_27 : decode cX3_init 27 = .ok (.putfield 22, 3) := by decide +kernel
theorem dX3_init_30 : decode cX3_init 30 = .ok (.aload_n 0, 1) := by decide +kernel
theorem dX3_init_31 : decode cX3_init 31 = .ok (.iconst 0, 1) := by decide +kernel
theorem dX3_init_32 : decode cX3_init 32 = .ok (.putfield 25, 3) := by decide +kernel
theorem dX3_init_35 : decode cX3_init 35 = .ok (.aload_n 0, 1) := by decide +kernel
theorem dX3_init_36 : decode cX3_init 36 = .ok (.iconst 0, 1) := by decide +kernel
theorem dX3_init_37 : decode cX3_init 37 = .ok (.putfield 28, 3) := by decide +kernel
theorem dX3_init_40 : decode cX3_init 40 = .ok (.aload_n 0, 1) := by decide +kernel
theorem dX3_init_41 : decode cX3_init 41 = .ok (.aload_n 1, 1) := by decide +kernel
theorem dX3_init_42 : decode cX3_init 42 = .ok (.putfield 31, 3) := by decide +kernel
theorem dX3_init_45 : decode cX3_init 45 = .ok (.return_, 1) := by decide +kernel
theorem dX3_memberOf_0 : decode cX3_memberOf 0 = .ok (.iload_n 0, 1) := by decide +kernel
theorem dX3_memberOf_1 : decode cX3_memberOf 1 = .ok (.bipush 16, 2) := by decide +kernel
theorem dX3_memberOf_3 : decode cX3_memberOf 3 = .ok (.idiv, 1) := by decide +kernel
theorem dX3_memberOf_4 : decode cX3_memberOf 4 = .ok (.ireturn, 1) := by decide +kernel
theorem dX3_stepOf_0 : decode cX3_stepOf 0 = .ok (.iload_n 0, 1) := by decide +kernel
theorem dX3_stepOf_1 : decode cX3_stepOf 1 = .ok (.iconst 2, 1) := by decide +kernel
theorem dX3_stepOf_2 : decode cX3_stepOf 2 = .ok (.idiv, 1) := by decide +kernel
theorem dX3_stepOf_3 : decode cX3_stepOf 3 = .ok (.bipush 8, 2) := by decide +kernel
theorem dX3_stepOf_5 : decode cX3_stepOf 5 = .ok (.irem, 1) := by decide +kernel
theorem dX3_stepOf_6 : decode cX3_stepOf 6 = .ok (.ireturn, 1) := by decide +kernel
theorem dX3_isSecond_0 : decode cX3_isSecond 0 = .ok (.iload_n 0, 1) := by decide +kernel
theorem dX3_isSecond_1 : decode cX3_isSecond 1 = .ok (.iconst 2, 1) := by decide +kernel
theorem dX3_isSecond_2 : decode cX3_isSecond 2 = .ok (.irem, 1) := by decide +kernel
theorem dX3_isSecond_3 : decode cX3_isSecond 3 = .ok (.iconst 1, 1) := by decide +kernel
theorem dX3_isSecond_4 : decode cX3_isSecond 4 = .ok (.if_icmp .ne 7, 3) := by decide +kernel
theorem dX3_isSecond_7 : decode cX3_isSecond 7 = .ok (.iconst 1, 1) := by decide +kernel
theorem dX3_isSecond_8 : decode cX3_isSecond 8 = .ok (.goto 4, 3) := by decide +kernel
theorem dX3_isSecond_11 : decode cX3_isSecond 11 = .ok (.iconst 0, 1) := by decide +kernel
theorem dX3_isSecond_12 : decode cX3_isSecond 12 = .ok (.ireturn, 1) := by decide +kernel
theorem dX3_perStep_0 : decode cX3_perStep 0 = .ok (.iload_n 0, 1) := by decide +kernel
theorem dX3_perStep_1 : decode cX3_perStep 1 = .ok (.iconst 2, 1) := by decide +kernel
theorem dX3_perStep_2 : decode cX3_perStep 2 = .ok (.if_icmp .eq 14, 3) := by decide +kernel
theorem dX3_perStep_5 : decode cX3_perStep 5 = .ok (.iload_n 0, 1) := by decide +kernel
theorem dX3_perStep_6 : decode cX3_perStep 6 = .ok (.iconst 4, 1) := by decide +kernel
theorem dX3_perStep_7 : decode cX3_perStep 7 = .ok (.if_icmp .eq 9, 3) := by decide +kernel
theorem dX3_perStep_10 : decode cX3_perStep 10 = .ok (.iload_n 0, 1) := by decide +kernel
theorem dX3_perStep_11 : decode cX3_perStep 11 = .ok (.bipush 7, 2) := by decide +kernel
theorem dX3_perStep_13 : decode cX3_perStep 13 = .ok (.if_icmp .ne 7, 3) := by decide +kernel
theorem dX3_perStep_16 : decode cX3_perStep 16 = .ok (.iconst 2, 1) := by decide +kernel
theorem dX3_perStep_17 : decode cX3_perStep 17 = .ok (.goto 4, 3) := by decide +kernel
theorem dX3_perStep_20 : decode cX3_perStep 20 = .ok (.iconst 1, 1) := by decide +kernel
theorem dX3_perStep_21 : decode cX3_perStep 21 = .ok (.ireturn, 1) := by decide +kernel
theorem dX3_howMany_0 : decode cX3_howMany 0 = .ok (.iconst 0, 1) := by decide +kernel
theorem dX3_howMany_1 : decode cX3_howMany 1 = .ok (.istore_n 2, 1) := by decide +kernel
theorem dX3_howMany_2 : decode cX3_howMany 2 = .ok (.iconst 0, 1) := by decide +kernel
theorem dX3_howMany_3 : decode cX3_howMany 3 = .ok (.istore_n 3, 1) := by decide +kernel
theorem dX3_howMany_4 : decode cX3_howMany 4 = .ok (.iload_n 3, 1) := by decide +kernel
theorem dX3_howMany_5 : decode cX3_howMany 5 = .ok (.iconst 3, 1) := by decide +kernel
theorem dX3_howMany_6 : decode cX3_howMany 6 = .ok (.if_icmp .ge 68, 3) := by decide +kernel
theorem dX3_howMany_9 : decode cX3_howMany 9 = .ok (.aload_n 0, 1) := by decide +kernel
theorem dX3_howMany_10 : decode cX3_howMany 10 = .ok (.getfield 31, 3) := by decide +kernel
theorem dX3_howMany_13 : decode cX3_howMany 13 = .ok (.iload_n 1, 1) := by decide +kernel
theorem dX3_howMany_14 : decode cX3_howMany 14 = .ok (.iload_n 3, 1) := by decide +kernel
theorem dX3_howMany_15 : decode cX3_howMany 15 = .ok (.invokevirtual 35, 3) := by decide +kernel
theorem dX3_howMany_18 : decode cX3_howMany 18 = .ok (.istore 4, 2) := by decide +kernel
theorem dX3_howMany_20 : decode cX3_howMany 20 = .ok (.aload_n 0, 1) := by decide +kernel
theorem dX3_howMany_21 : decode cX3_howMany 21 = .ok (.getfield 31, 3) := by decide +kernel
theorem dX3_howMany_24 : decode cX3_howMany 24 = .ok (.iload 4, 2) := by decide +kernel
theorem dX3_howMany_26 : decode cX3_howMany 26 = .ok (.invokevirtual 39, 3) := by decide +kernel
theorem dX3_howMany_29 : decode cX3_howMany 29 = .ok (.istore 5, 2) := by decide +kernel
theorem dX3_howMany_31 : decode cX3_howMany 31 = .ok (.iconst 0, 1) := by decide +kernel
theorem dX3_howMany_32 : decode cX3_howMany 32 = .ok (.istore 6, 2) := by decide +kernel
theorem dX3_howMany_34 : decode cX3_howMany 34 = .ok (.iload 6, 2) := by decide +kernel
theorem dX3_howMany_36 : decode cX3_howMany 36 = .ok (.iload 5, 2) := by decide +kernel
theorem dX3_howMany_38 : decode cX3_howMany 38 = .ok (.if_icmp .ge 30, 3) := by decide +kernel
theorem dX3_howMany_41 : decode cX3_howMany 41 = .ok (.iload_n 2, 1) := by decide +kernel
theorem dX3_howMany_42 : decode cX3_howMany 42 = .ok (.aload_n 0, 1) := by decide +kernel
theorem dX3_howMany_43 : decode cX3_howMany 43 = .ok (.getfield 31, 3) := by decide +kernel
theorem dX3_howMany_46 : decode cX3_howMany 46 = .ok (.iload 4, 2) := by decide +kernel
theorem dX3_howMany_48 : decode cX3_howMany 48 = .ok (.bipush 8, 2) := by decide +kernel
theorem dX3_howMany_50 : decode cX3_howMany 50 = .ok (.imul, 1) := by decide +kernel
theorem dX3_howMany_51 : decode cX3_howMany 51 = .ok (.iload 6, 2) := by decide +kernel
theorem dX3_howMany_53 : decode cX3_howMany 53 = .ok (.iadd, 1) := by decide +kernel
theorem dX3_howMany_54 : decode cX3_howMany 54 = .ok (.invokevirtual 43, 3) := by decide +kernel
theorem dX3_howMany_57 : decode cX3_howMany 57 = .ok (.invokestatic 45, 3) := by decide +kernel
theorem dX3_howMany_60 : decode cX3_howMany 60 = .ok (.iadd, 1) := by decide +kernel
theorem dX3_howMany_61 : decode cX3_howMany 61 = .ok (.istore_n 2, 1) := by decide +kernel
theorem dX3_howMany_62 : decode cX3_howMany 62 = .ok (.iinc 6 1, 3) := by decide +kernel
theorem dX3_howMany_65 : decode cX3_howMany 65 = .ok (.goto (-31), 3) := by decide +kernel
theorem dX3_howMany_68 : decode cX3_howMany 68 = .ok (.iinc 3 1, 3) := by decide +kernel
theorem dX3_howMany_71 : decode cX3_howMany 71 = .ok (.goto (-67), 3) := by decide +kernel
theorem dX3_howMany_74 : decode cX3_howMany 74 = .ok (.iload_n 2, 1) := by decide +kernel
theorem dX3_howMany_75 : decode cX3_howMany 75 = .ok (.ireturn, 1) := by decide +kernel
theorem dX3_find_0 : decode cX3_find 0 = .ok (.iload_n 2, 1) := by decide +kernel
theorem dX3_find_1 : decode cX3_find 1 = .ok (.ifCond .ge 5, 3) := by decide +kernel
theorem dX3_find_4 : decode cX3_find 4 = .ok (.iconst (-1), 1) := by decide +kernel
theorem dX3_find_5 : decode cX3_find 5 = .ok (.ireturn, 1) := by decide +kernel
theorem dX3_find_6 : decode cX3_find 6 = .ok (.iload_n 2, 1) := by decide +kernel
theorem dX3_find_7 : decode cX3_find 7 = .ok (.istore_n 3, 1) := by decide +kernel
theorem dX3_find_8 : decode cX3_find 8 = .ok (.iconst 0, 1) := by decide +kernel
theorem dX3_find_9 : decode cX3_find 9 = .ok (.istore 4, 2) := by decide +kernel
theorem dX3_find_11 : decode cX3_find 11 = .ok (.iload 4, 2) := by decide +kernel
theorem dX3_find_13 : decode cX3_find 13 = .ok (.iconst 3, 1) := by decide +kernel
theorem dX3_find_14 : decode cX3_find 14 = .ok (.if_icmp .ge 92, 3) := by decide +kernel
theorem dX3_find_17 : decode cX3_find 17 = .ok (.aload_n 0, 1) := by decide +kernel
theorem dX3_find_18 : decode cX3_find 18 = .ok (.getfield 31, 3) := by decide +kernel
theorem dX3_find_21 : decode cX3_find 21 = .ok (.iload_n 1, 1) := by decide +kernel
theorem dX3_find_22 : decode cX3_find 22 = .ok (.iload 4, 2) := by decide +kernel
theorem dX3_find_24 : decode cX3_find 24 = .ok (.invokevirtual 35, 3) := by decide +kernel
theorem dX3_find_27 : decode cX3_find 27 = .ok (.istore 5, 2) := by decide +kernel
theorem dX3_find_29 : decode cX3_find 29 = .ok (.aload_n 0, 1) := by decide +kernel
theorem dX3_find_30 : decode cX3_find 30 = .ok (.getfield 31, 3) := by decide +kernel
theorem dX3_find_33 : decode cX3_find 33 = .ok (.iload 5, 2) := by decide +kernel
theorem dX3_find_35 : decode cX3_find 35 = .ok (.invokevirtual 39, 3) := by decide +kernel
theorem dX3_find_38 : decode cX3_find 38 = .ok (.istore 6, 2) := by decide +kernel
theorem dX3_find_40 : decode cX3_find 40 = .ok (.iconst 0, 1) := by decide +kernel
theorem dX3_find_41 : decode cX3_find 41 = .ok (.istore 7, 2) := by decide +kernel
theorem dX3_find_43 : decode cX3_find 43 = .ok (.iload 7, 2) := by decide +kernel
theorem dX3_find_45 : decode cX3_find 45 = .ok (.iload 6, 2) := by decide +kernel
theorem dX3_find_47 : decode cX3_find 47 = .ok (.if_icmp .ge 53, 3) := by decide +kernel
theorem dX3_find_50 : decode cX3_find 50 = .ok (.aload_n 0, 1) := by decide +kernel
theorem dX3_find_51 : decode cX3_find 51 = .ok (.getfield 31, 3) := by decide +kernel
theorem dX3_find_54 : decode cX3_find 54 = .ok (.iload 5, 2) := by decide +kernel
theorem dX3_find_56 : decode cX3_find 56 = .ok (.bipush 8, 2) := by decide +kernel
theorem dX3_find_58 : decode cX3_find 58 = .ok (.imul, 1) := by decide +kernel
theorem dX3_find_59 : decode cX3_find 59 = .ok (.iload 7, 2) := by decide +kernel
theorem dX3_find_61 : decode cX3_find 61 = .ok (.iadd, 1) := by decide +kernel
theorem dX3_find_62 : decode cX3_find 62 = .ok (.invokevirtual 43, 3) := by decide +kernel
theorem dX3_find_65 : decode cX3_find 65 = .ok (.invokestatic 45, 3) := by decide +kernel
theorem dX3_find_68 : decode cX3_find 68 = .ok (.istore 8, 2) := by decide +kernel
theorem dX3_find_70 : decode cX3_find 70 = .ok (.iload_n 3, 1) := by decide +kernel
theorem dX3_find_71 : decode cX3_find 71 = .ok (.iload 8, 2) := by decide +kernel
theorem dX3_find_73 : decode cX3_find 73 = .ok (.if_icmp .ge 16, 3) := by decide +kernel
theorem dX3_find_76 : decode cX3_find 76 = .ok (.iload 4, 2) := by decide +kernel
theorem dX3_find_78 : decode cX3_find 78 = .ok (.bipush 8, 2) := by decide +kernel
theorem dX3_find_80 : decode cX3_find 80 = .ok (.imul, 1) := by decide +kernel
theorem dX3_find_81 : decode cX3_find 81 = .ok (.iload 7, 2) := by decide +kernel
theorem dX3_find_83 : decode cX3_find 83 = .ok (.iadd, 1) := by decide +kernel
theorem dX3_find_84 : decode cX3_find 84 = .ok (.iconst 2, 1) := by decide +kernel
theorem dX3_find_85 : decode cX3_find 85 = .ok (.imul, 1) := by decide +kernel
theorem dX3_find_86 : decode cX3_find 86 = .ok (.iload_n 3, 1) := by decide +kernel
theorem dX3_find_87 : decode cX3_find 87 = .ok (.iadd, 1) := by decide +kernel
theorem dX3_find_88 : decode cX3_find 88 = .ok (.ireturn, 1) := by decide +kernel
theorem dX3_find_89 : decode cX3_find 89 = .ok (.iload_n 3, 1) := by decide +kernel
theorem dX3_find_90 : decode cX3_find 90 = .ok (.iload 8, 2) := by decide +kernel
theorem dX3_find_92 : decode cX3_find 92 = .ok (.isub, 1) := by decide +kernel
theorem dX3_find_93 : decode cX3_find 93 = .ok (.istore_n 3, 1) := by decide +kernel
theorem dX3_find_94 : decode cX3_find 94 = .ok (.iinc 7 1, 3) := by decide +kernel
theorem dX3_find_97 : decode cX3_find 97 = .ok (.goto (-54), 3) := by decide +kernel
theorem dX3_find_100 : decode cX3_find 100 = .ok (.iinc 4 1, 3) := by decide +kernel
theorem dX3_find_103 : decode cX3_find 103 = .ok (.goto (-92), 3) := by decide +kernel
theorem dX3_find_106 : decode cX3_find 106 = .ok (.iconst (-1), 1) := by decide +kernel
theorem dX3_find_107 : decode cX3_find 107 = .ok (.ireturn, 1) := by decide +kernel
theorem dX3_begin_0 : decode cX3_begin 0 = .ok (.aload_n 0, 1) := by decide +kernel
theorem dX3_begin_1 : decode cX3_begin 1 = .ok (.iload_n 1, 1) := by decide +kernel
theorem dX3_begin_2 : decode cX3_begin 2 = .ok (.invokevirtual 48, 3) := by decide +kernel
theorem dX3_begin_5 : decode cX3_begin 5 = .ok (.bipush 48, 2) := by decide +kernel
theorem dX3_begin_7 : decode cX3_begin 7 = .ok (.invokestatic 51, 3) := by decide +kernel
theorem dX3_begin_10 : decode cX3_begin 10 = .ok (.istore_n 2, 1) := by decide +kernel
theorem dX3_begin_11 : decode cX3_begin 11 = .ok (.iload_n 1, 1) := by decide +kernel
theorem dX3_begin_12 : decode cX3_begin 12 = .ok (.ifCond .lt 15, 3) := by decide +kernel
theorem dX3_begin_15 : decode cX3_begin 15 = .ok (.iload_n 1, 1) := by decide +kernel
theorem dX3_begin_16 : decode cX3_begin 16 = .ok (.iconst 4, 1) := by decide +kernel
theorem dX3_begin_17 : decode cX3_begin 17 = .ok (.if_icmp .ge 10, 3) := by decide +kernel
theorem dX3_begin_20 : decode cX3_begin 20 = .ok (.aload_n 0, 1) := by decide +kernel
theorem dX3_begin_21 : decode cX3_begin 21 = .ok (.getfield 9, 3) := by decide +kernel
theorem dX3_begin_24 : decode cX3_begin 24 = .ok (.iload_n 1, 1) := by decide +kernel
theorem dX3_begin_25 : decode cX3_begin 25 = .ok (.iload_n 2, 1) := by decide +kernel
theorem dX3_begin_26 : decode cX3_begin 26 = .ok (.iastore, 1) := by decide +kernel
theorem dX3_begin_27 : decode cX3_begin 27 = .ok (.iload_n 2, 1) := by decide +kernel
theorem dX3_begin_28 : decode cX3_begin 28 = .ok (.ireturn, 1) := by decide +kernel
theorem dX3_putIn_0 : decode cX3_putIn 0 = .ok (.aload_n 0, 1) := by decide +kernel
theorem dX3_putIn_1 : decode cX3_putIn 1 = .ok (.iload_n 1, 1) := by decide +kernel
theorem dX3_putIn_2 : decode cX3_putIn 2 = .ok (.iload_n 2, 1) := by decide +kernel
theorem dX3_putIn_3 : decode cX3_putIn 3 = .ok (.invokevirtual 56, 3) := by decide +kernel
theorem dX3_putIn_6 : decode cX3_putIn 6 = .ok (.istore_n 3, 1) := by decide +kernel
theorem dX3_putIn_7 : decode cX3_putIn 7 = .ok (.aload_n 0, 1) := by decide +kernel
theorem dX3_putIn_8 : decode cX3_putIn 8 = .ok (.iload_n 3, 1) := by decide +kernel
theorem dX3_putIn_9 : decode cX3_putIn 9 = .ok (.ifCond .ge 7, 3) := by decide +kernel
theorem dX3_putIn_12 : decode cX3_putIn 12 = .ok (.iconst (-1), 1) := by decide +kernel
theorem dX3_putIn_13 : decode cX3_putIn 13 = .ok (.goto 13, 3) := by decide +kernel
theorem dX3_putIn_16 : decode cX3_putIn 16 = .ok (.iload_n 1, 1) := by decide +kernel
theorem dX3_putIn_17 : decode cX3_putIn 17 = .ok (.iconst 3, 1) := by decide +kernel
theorem dX3_putIn_18 : decode cX3_putIn 18 = .ok (.imul, 1) := by decide +kernel
theorem dX3_putIn_19 : decode cX3_putIn 19 = .ok (.bipush 8, 2) := by decide +kernel
theorem dX3_putIn_21 : decode cX3_putIn 21 = .ok (.imul, 1) := by decide +kernel
theorem dX3_putIn_22 : decode cX3_putIn 22 = .ok (.iload_n 3, 1) := by decide +kernel
theorem dX3_putIn_23 : decode cX3_putIn 23 = .ok (.iconst 2, 1) := by decide +kernel
theorem dX3_putIn_24 : decode cX3_putIn 24 = .ok (.idiv, 1) := by decide +kernel
theorem dX3_putIn_25 : decode cX3_putIn 25 = .ok (.iadd, 1) := by decide +kernel
theorem dX3_putIn_26 : decode cX3_putIn 26 = .ok (.putfield 18, 3) := by decide +kernel
theorem dX3_putIn_29 : decode cX3_putIn 29 = .ok (.aload_n 0, 1) := by decide +kernel
theorem dX3_putIn_30 : decode cX3_putIn 30 = .ok (.aload_n 0, 1) := by decide +kernel
theorem dX3_putIn_31 : decode cX3_putIn 31 = .ok (.getfield 31, 3) := by decide +kernel
theorem dX3_putIn_34 : decode cX3_putIn 34 = .ok (.aload_n 0, 1) := by decide +kernel
theorem dX3_putIn_35 : decode cX3_putIn 35 = .ok (.getfield 18, 3) := by decide +kernel
theorem dX3_putIn_38 : decode cX3_putIn 38 = .ok (.invokevirtual 43, 3) := by decide +kernel
theorem dX3_putIn_41 : decode cX3_putIn 41 = .ok (.putfield 22, 3) := by decide +kernel
theorem dX3_putIn_44 : decode cX3_putIn 44 = .ok (.aload_n 0, 1) := by decide +kernel
theorem dX3_putIn_45 : decode cX3_putIn 45 = .ok (.aload_n 0, 1) := by decide +kernel
theorem dX3_putIn_46 : decode cX3_putIn 46 = .ok (.getfield 31, 3) := by decide +kernel
theorem dX3_putIn_49 : decode cX3_putIn 49 = .ok (.aload_n 0, 1) := by decide +kernel
theorem dX3_putIn_50 : decode cX3_putIn 50 = .ok (.getfield 18, 3) := by decide +kernel
theorem dX3_putIn_53 : decode cX3_putIn 53 = .ok (.invokevirtual 59, 3) := by decide +kernel
theorem dX3_putIn_56 : decode cX3_putIn 56 = .ok (.putfield 25, 3) := by decide +kernel
theorem dX3_putIn_59 : decode cX3_putIn 59 = .ok (.aload_n 0, 1) := by decide +kernel
theorem dX3_putIn_60 : decode cX3_putIn 60 = .ok (.aload_n 0, 1) := by decide +kernel
theorem dX3_putIn_61 : decode cX3_putIn 61 = .ok (.getfield 31, 3) := by decide +kernel
theorem dX3_putIn_64 : decode cX3_putIn 64 = .ok (.aload_n 0, 1) := by decide +kernel
theorem dX3_putIn_65 : decode cX3_putIn 65 = .ok (.getfield 18, 3) := by decide +kernel
theorem dX3_putIn_68 : decode cX3_putIn 68 = .ok (.invokevirtual 61, 3) := by decide +kernel
theorem dX3_putIn_71 : decode cX3_putIn 71 = .ok (.putfield 28, 3) := by decide +kernel
theorem dX3_putIn_74 : decode cX3_putIn 74 = .ok (.iload_n 3, 1) := by decide +kernel
theorem dX3_putIn_75 : decode cX3_putIn 75 = .ok (.invokestatic 63, 3) := by decide +kernel
theorem dX3_putIn_78 : decode cX3_putIn 78 = .ok (.ifCond .eq 10, 3) := by decide +kernel
theorem dX3_putIn_81 : decode cX3_putIn 81 = .ok (.aload_n 0, 1) := by decide +kernel
theorem dX3_putIn_82 : decode cX3_putIn 82 = .ok (.invokevirtual 67, 3) := by decide +kernel
theorem dX3_putIn_85 : decode cX3_putIn 85 = .ok (.goto 7, 3) := by decide +kernel
theorem dX3_putIn_88 : decode cX3_putIn 88 = .ok (.aload_n 0, 1) := by decide +kernel
theorem dX3_putIn_89 : decode cX3_putIn 89 = .ok (.invokevirtual 70, 3) := by decide +kernel
theorem dX3_putIn_92 : decode cX3_putIn 92 = .ok (.return_, 1) := by decide +kernel
theorem dX3_putFirst_0 : decode cX3_putFirst 0 = .ok (.aload_n 0, 1) := by decide +kernel
theorem dX3_putFirst_1 : decode cX3_putFirst 1 = .ok (.getfield 22, 3) := by decide +kernel
theorem dX3_putFirst_4 : decode cX3_putFirst 4 = .ok (.tableswitch 127 2 7 #[40, 127, 40, 96, 127, 68], 40) := by decide +kernel
theorem dX3_putFirst_44 : decode cX3_putFirst 44 = .ok (.aload_n 0, 1) := by decide +kernel
theorem dX3_putFirst_45 : decode cX3_putFirst 45 = .ok (.getfield 31, 3) := by decide +kernel
theorem dX3_putFirst_48 : decode cX3_putFirst 48 = .ok (.aload_n 0, 1) := by decide +kernel
theorem dX3_putFirst_49 : decode cX3_putFirst 49 = .ok (.getfield 18, 3) := by decide +kernel
theorem dX3_putFirst_52 : decode cX3_putFirst 52 = .ok (.aload_n 0, 1) := by decide +kernel
theorem dX3_putFirst_53 : decode cX3_putFirst 53 = .ok (.getfield 22, 3) := by decide +kernel
theorem dX3_putFirst_56 : decode cX3_putFirst 56 = .ok (.aload_n 0, 1) := by decide +kernel
theorem dX3_putFirst_57 : decode cX3_putFirst 57 = .ok (.getfield 25, 3) := by decide +kernel
theorem dX3_putFirst_60 : decode cX3_putFirst 60 = .ok (.aload_n 0, 1) := by decide +kernel
theorem dX3_putFirst_61 : decode cX3_putFirst 61 = .ok (.getfield 28, 3) := by decide +kernel
theorem dX3_putFirst_64 : decode cX3_putFirst 64 = .ok (.iconst 1, 1) := by decide +kernel
theorem dX3_putFirst_65 : decode cX3_putFirst 65 = .ok (.iadd, 1) := by decide +kernel
theorem dX3_putFirst_66 : decode cX3_putFirst 66 = .ok (.invokevirtual 73, 3) := by decide +kernel
theorem dX3_putFirst_69 : decode cX3_putFirst 69 = .ok (.goto 83, 3) := by decide +kernel
theorem dX3_putFirst_72 : decode cX3_putFirst 72 = .ok (.aload_n 0, 1) := by decide +kernel
theorem dX3_putFirst_73 : decode cX3_putFirst 73 = .ok (.getfield 31, 3) := by decide +kernel
theorem dX3_putFirst_76 : decode cX3_putFirst 76 = .ok (.aload_n 0, 1) := by decide +kernel
theorem dX3_putFirst_77 : decode cX3_putFirst 77 = .ok (.getfield 18, 3) := by decide +kernel
theorem dX3_putFirst_80 : decode cX3_putFirst 80 = .ok (.aload_n 0, 1) := by decide +kernel
theorem dX3_putFirst_81 : decode cX3_putFirst 81 = .ok (.getfield 22, 3) := by decide +kernel
theorem dX3_putFirst_84 : decode cX3_putFirst 84 = .ok (.aload_n 0, 1) := by decide +kernel
theorem dX3_putFirst_85 : decode cX3_putFirst 85 = .ok (.getfield 25, 3) := by decide +kernel
theorem dX3_putFirst_88 : decode cX3_putFirst 88 = .ok (.iconst 1, 1) := by decide +kernel
theorem dX3_putFirst_89 : decode cX3_putFirst 89 = .ok (.iadd, 1) := by decide +kernel
theorem dX3_putFirst_90 : decode cX3_putFirst 90 = .ok (.aload_n 0, 1) := by decide +kernel
theorem dX3_putFirst_91 : decode cX3_putFirst 91 = .ok (.getfield 28, 3) := by decide +kernel
theorem dX3_putFirst_94 : decode cX3_putFirst 94 = .ok (.invokevirtual 73, 3) := by decide +kernel
theorem dX3_putFirst_97 : decode cX3_putFirst 97 = .ok (.goto 55, 3) := by decide +kernel
theorem dX3_putFirst_100 : decode cX3_putFirst 100 = .ok (.aload_n 0, 1) := by decide +kernel
theorem dX3_putFirst_101 : decode cX3_putFirst 101 = .ok (.getfield 31, 3) := by decide +kernel
theorem dX3_putFirst_104 : decode cX3_putFirst 104 = .ok (.aload_n 0, 1) := by decide +kernel
theorem dX3_putFirst_105 : decode cX3_putFirst 105 = .ok (.getfield 18, 3) := by decide +kernel
theorem dX3_putFirst_108 : decode cX3_putFirst 108 = .ok (.aload_n 0, 1) := by decide +kernel
theorem dX3_putFirst_109 : decode cX3_putFirst 109 = .ok (.getfield 22, 3) := by decide +kernel
theorem dX3_putFirst_112 : decode cX3_putFirst 112 = .ok (.aload_n 0, 1) := by decide +kernel
theorem dX3_putFirst_113 : decode cX3_putFirst 113 = .ok (.getfield 25, 3) := by decide +kernel
theorem dX3_putFirst_116 : decode cX3_putFirst 116 = .ok (.iconst 1, 1) := by decide +kernel
theorem dX3_putFirst_117 : decode cX3_putFirst 117 = .ok (.iadd, 1) := by decide +kernel
theorem dX3_putFirst_118 : decode cX3_putFirst 118 = .ok (.bipush 12, 2) := by decide +kernel
theorem dX3_putFirst_120 : decode cX3_putFirst 120 = .ok (.irem, 1) := by decide +kernel
theorem dX3_putFirst_121 : decode cX3_putFirst 121 = .ok (.aload_n 0, 1) := by decide +kernel
theorem dX3_putFirst_122 : decode cX3_putFirst 122 = .ok (.getfield 28, 3) := by decide +kernel
theorem dX3_putFirst_125 : decode cX3_putFirst 125 = .ok (.invokevirtual 73, 3) := by decide +kernel
theorem dX3_putFirst_128 : decode cX3_putFirst 128 = .ok (.goto 24, 3) := by decide +kernel
theorem dX3_putFirst_131 : decode cX3_putFirst 131 = .ok (.aload_n 0, 1) := by decide +kernel
theorem dX3_putFirst_132 : decode cX3_putFirst 132 = .ok (.getfield 31, 3) := by decide +kernel
theorem dX3_putFirst_135 : decode cX3_putFirst 135 = .ok (.aload_n 0, 1) := by decide +kernel
theorem dX3_putFirst_136 : decode cX3_putFirst 136 = .ok (.getfield 18, 3) := by decide +kernel
theorem dX3_putFirst_139 : decode cX3_putFirst 139 = .ok (.bipush 12, 2) := by decide +kernel
theorem dX3_putFirst_141 : decode cX3_putFirst 141 = .ok (.aload_n 0, 1) := by decide +kernel
theorem dX3_putFirst_142 : decode cX3_putFirst 142 = .ok (.getfield 25, 3) := by decide +kernel
theorem dX3_putFirst_145 : decode cX3_putFirst 145 = .ok (.aload_n 0, 1) := by decide +kernel
theorem dX3_putFirst_146 : decode cX3_putFirst 146 = .ok (.getfield 28, 3) := by decide +kernel
theorem dX3_putFirst_149 : decode cX3_putFirst 149 = .ok (.invokevirtual 73, 3) := by decide +kernel
theorem dX3_putFirst_152 : decode cX3_putFirst 152 = .ok (.return_, 1) := by decide +kernel
theorem dX3_putSecond_0 : decode cX3_putSecond 0 = .ok (.aload_n 0, 1) := by decide +kernel
theorem dX3_putSecond_1 : decode cX3_putSecond 1 = .ok (.getfield 22, 3) := by decide +kernel
theorem dX3_putSecond_4 : decode cX3_putSecond 4 = .ok (.lookupswitch 79 #[(2, 28), (7, 55)], 28) := by decide +kernel
theorem dX3_putSecond_32 : decode cX3_putSecond 32 = .ok (.aload_n 0, 1) := by decide +kernel
theorem dX3_putSecond_33 : decode cX3_putSecond 33 = .ok (.getfield 31, 3) := by decide +kernel
theorem dX3_putSecond_36 : decode cX3_putSecond 36 = .ok (.aload_n 0, 1) := by decide +kernel
theorem dX3_putSecond_37 : decode cX3_putSecond 37 = .ok (.getfield 18, 3) := by decide +kernel
theorem dX3_putSecond_40 : decode cX3_putSecond 40 = .ok (.aload_n 0, 1) := by decide +kernel
theorem dX3_putSecond_41 : decode cX3_putSecond 41 = .ok (.getfield 22, 3) := by decide +kernel
theorem dX3_putSecond_44 : decode cX3_putSecond 44 = .ok (.aload_n 0, 1) := by decide +kernel
theorem dX3_putSecond_45 : decode cX3_putSecond 45 = .ok (.getfield 25, 3) := by decide +kernel
theorem dX3_putSecond_48 : decode cX3_putSecond 48 = .ok (.aload_n 0, 1) := by decide +kernel
theorem dX3_putSecond_49 : decode cX3_putSecond 49 = .ok (.getfield 28, 3) := by decide +kernel
theorem dX3_putSecond_52 : decode cX3_putSecond 52 = .ok (.ineg, 1) := by decide +kernel
theorem dX3_putSecond_53 : decode cX3_putSecond 53 = .ok (.invokevirtual 73, 3) := by decide +kernel
theorem dX3_putSecond_56 : decode cX3_putSecond 56 = .ok (.goto 48, 3) := by decide +kernel
theorem dX3_putSecond_59 : decode cX3_putSecond 59 = .ok (.aload_n 0, 1) := by decide +kernel
theorem dX3_putSecond_60 : decode cX3_putSecond 60 = .ok (.getfield 31, 3) := by decide +kernel
theorem dX3_putSecond_63 : decode cX3_putSecond 63 = .ok (.aload_n 0, 1) := by decide +kernel
theorem dX3_putSecond_64 : decode cX3_putSecond 64 = .ok (.getfield 18, 3) := by decide +kernel
theorem dX3_putSecond_67 : decode cX3_putSecond 67 = .ok (.bipush 13, 2) := by decide +kernel
theorem dX3_putSecond_69 : decode cX3_putSecond 69 = .ok (.aload_n 0, 1) := by decide +kernel
theorem dX3_putSecond_70 : decode cX3_putSecond 70 = .ok (.getfield 25, 3) := by decide +kernel
theorem dX3_putSecond_73 : decode cX3_putSecond 73 = .ok (.aload_n 0, 1) := by decide +kernel
theorem dX3_putSecond_74 : decode cX3_putSecond 74 = .ok (.getfield 28, 3) := by decide +kernel
theorem dX3_putSecond_77 : decode cX3_putSecond 77 = .ok (.invokevirtual 73, 3) := by decide +kernel
theorem dX3_putSecond_80 : decode cX3_putSecond 80 = .ok (.goto 24, 3) := by decide +kernel
theorem dX3_putSecond_83 : decode cX3_putSecond 83 = .ok (.aload_n 0, 1) := by decide +kernel
theorem dX3_putSecond_84 : decode cX3_putSecond 84 = .ok (.getfield 31, 3) := by decide +kernel
theorem dX3_putSecond_87 : decode cX3_putSecond 87 = .ok (.aload_n 0, 1) := by decide +kernel
theorem dX3_putSecond_88 : decode cX3_putSecond 88 = .ok (.getfield 18, 3) := by decide +kernel
theorem dX3_putSecond_91 : decode cX3_putSecond 91 = .ok (.bipush 12, 2) := by decide +kernel
theorem dX3_putSecond_93 : decode cX3_putSecond 93 = .ok (.aload_n 0, 1) := by decide +kernel
theorem dX3_putSecond_94 : decode cX3_putSecond 94 = .ok (.getfield 25, 3) := by decide +kernel
theorem dX3_putSecond_97 : decode cX3_putSecond 97 = .ok (.aload_n 0, 1) := by decide +kernel
theorem dX3_putSecond_98 : decode cX3_putSecond 98 = .ok (.getfield 28, 3) := by decide +kernel
theorem dX3_putSecond_101 : decode cX3_putSecond 101 = .ok (.invokevirtual 73, 3) := by decide +kernel
theorem dX3_putSecond_104 : decode cX3_putSecond 104 = .ok (.return_, 1) := by decide +kernel
theorem dX3_takeOut_0 : decode cX3_takeOut 0 = .ok (.aload_n 0, 1) := by decide +kernel
theorem dX3_takeOut_1 : decode cX3_takeOut 1 = .ok (.getfield 31, 3) := by decide +kernel
theorem dX3_takeOut_4 : decode cX3_takeOut 4 = .ok (.aload_n 0, 1) := by decide +kernel
theorem dX3_takeOut_5 : decode cX3_takeOut 5 = .ok (.getfield 18, 3) := by decide +kernel
theorem dX3_takeOut_8 : decode cX3_takeOut 8 = .ok (.aload_n 0, 1) := by decide +kernel
theorem dX3_takeOut_9 : decode cX3_takeOut 9 = .ok (.getfield 22, 3) := by decide +kernel
theorem dX3_takeOut_12 : decode cX3_takeOut 12 = .ok (.aload_n 0, 1) := by decide +kernel
theorem dX3_takeOut_13 : decode cX3_takeOut 13 = .ok (.getfield 25, 3) := by decide +kernel
theorem dX3_takeOut_16 : decode cX3_takeOut 16 = .ok (.aload_n 0, 1) := by decide +kernel
theorem dX3_takeOut_17 : decode cX3_takeOut 17 = .ok (.getfield 28, 3) := by decide +kernel
theorem dX3_takeOut_20 : decode cX3_takeOut 20 = .ok (.invokevirtual 73, 3) := by decide +kernel
theorem dX3_takeOut_23 : decode cX3_takeOut 23 = .ok (.iload_n 1, 1) := by decide +kernel
theorem dX3_takeOut_24 : decode cX3_takeOut 24 = .ok (.ifCond .lt 30, 3) := by decide +kernel
theorem dX3_takeOut_27 : decode cX3_takeOut 27 = .ok (.iload_n 1, 1) := by decide +kernel
theorem dX3_takeOut_28 : decode cX3_takeOut 28 = .ok (.iconst 4, 1) := by decide +kernel
theorem dX3_takeOut_29 : decode cX3_takeOut 29 = .ok (.if_icmp .ge 25, 3) := by decide +kernel
theorem dX3_takeOut_32 : decode cX3_takeOut 32 = .ok (.iload_n 2, 1) := by decide +kernel
theorem dX3_takeOut_33 : decode cX3_takeOut 33 = .ok (.ifCond .lt 21, 3) := by decide +kernel
theorem dX3_takeOut_36 : decode cX3_takeOut 36 = .ok (.iload_n 2, 1) := by decide +kernel
theorem dX3_takeOut_37 : decode cX3_takeOut 37 = .ok (.bipush 48, 2) := by decide +kernel
theorem dX3_takeOut_39 : decode cX3_takeOut 39 = .ok (.if_icmp .ge 15, 3) := by decide +kernel
theorem dX3_takeOut_42 : decode cX3_takeOut 42 = .ok (.aload_n 0, 1) := by decide +kernel
theorem dX3_takeOut_43 : decode cX3_takeOut 43 = .ok (.getfield 15, 3) := by decide +kernel
theorem dX3_takeOut_46 : decode cX3_takeOut 46 = .ok (.iload_n 1, 1) := by decide +kernel
theorem dX3_takeOut_47 : decode cX3_takeOut 47 = .ok (.bipush 48, 2) := by decide +kernel
theorem dX3_takeOut_49 : decode cX3_takeOut 49 = .ok (.imul, 1) := by decide +kernel
theorem dX3_takeOut_50 : decode cX3_takeOut 50 = .ok (.iload_n 2, 1) := by decide +kernel
theorem dX3_takeOut_51 : decode cX3_takeOut 51 = .ok (.iadd, 1) := by decide +kernel
theorem dX3_takeOut_52 : decode cX3_takeOut 52 = .ok (.iload_n 3, 1) := by decide +kernel
theorem dX3_takeOut_53 : decode cX3_takeOut 53 = .ok (.iastore, 1) := by decide +kernel
theorem dX3_takeOut_54 : decode cX3_takeOut 54 = .ok (.return_, 1) := by decide +kernel
theorem dX3_killerOf_0 : decode cX3_killerOf 0 = .ok (.iload_n 1, 1) := by decide +kernel
theorem dX3_killerOf_1 : decode cX3_killerOf 1 = .ok (.ifCond .lt 32, 3) := by decide +kernel
theorem dX3_killerOf_4 : decode cX3_killerOf 4 = .ok (.iload_n 1, 1) := by decide +kernel
theorem dX3_killerOf_5 : decode cX3_killerOf 5 = .ok (.iconst 4, 1) := by decide +kernel
theorem dX3_killerOf_6 : decode cX3_killerOf 6 = .ok (.if_icmp .ge 27, 3) := by decide +kernel
theorem dX3_killerOf_9 : decode cX3_killerOf 9 = .ok (.iload_n 2, 1) := by decide +kernel
theorem dX3_killerOf_10 : decode cX3_killerOf 10 = .ok (.ifCond .lt 23, 3) := by decide +kernel
theorem dX3_killerOf_13 : decode cX3_killerOf 13 = .ok (.iload_n 2, 1) := by decide +kernel
theorem dX3_killerOf_14 : decode cX3_killerOf 14 = .ok (.bipush 48, 2) := by decide +kernel
theorem dX3_killerOf_16 : decode cX3_killerOf 16 = .ok (.if_icmp .ge 17, 3) := by decide +kernel
theorem dX3_killerOf_19 : decode cX3_killerOf 19 = .ok (.iload_n 2, 1) := by decide +kernel
theorem dX3_killerOf_20 : decode cX3_killerOf 20 = .ok (.aload_n 0, 1) := by decide +kernel
theorem dX3_killerOf_21 : decode cX3_killerOf 21 = .ok (.getfield 9, 3) := by decide +kernel
theorem dX3_killerOf_24 : decode cX3_killerOf 24 = .ok (.iload_n 1, 1) := by decide +kernel
theorem dX3_killerOf_25 : decode cX3_killerOf 25 = .ok (.iaload, 1) := by decide +kernel
theorem dX3_killerOf_26 : decode cX3_killerOf 26 = .ok (.if_icmp .ge 7, 3) := by decide +kernel
theorem dX3_killerOf_29 : decode cX3_killerOf 29 = .ok (.iconst 1, 1) := by decide +kernel
theorem dX3_killerOf_30 : decode cX3_killerOf 30 = .ok (.goto 4, 3) := by decide +kernel
theorem dX3_killerOf_33 : decode cX3_killerOf 33 = .ok (.iconst 0, 1) := by decide +kernel
theorem dX3_killerOf_34 : decode cX3_killerOf 34 = .ok (.istore_n 3, 1) := by decide +kernel
theorem dX3_killerOf_35 : decode cX3_killerOf 35 = .ok (.iload_n 3, 1) := by decide +kernel
theorem dX3_killerOf_36 : decode cX3_killerOf 36 = .ok (.ifCond .eq 17, 3) := by decide +kernel
theorem dX3_killerOf_39 : decode cX3_killerOf 39 = .ok (.aload_n 0, 1) := by decide +kernel
theorem dX3_killerOf_40 : decode cX3_killerOf 40 = .ok (.getfield 15, 3) := by decide +kernel
theorem dX3_killerOf_43 : decode cX3_killerOf 43 = .ok (.iload_n 1, 1) := by decide +kernel
theorem dX3_killerOf_44 : decode cX3_killerOf 44 = .ok (.bipush 48, 2) := by decide +kernel
theorem dX3_killerOf_46 : decode cX3_killerOf 46 = .ok (.imul, 1) := by decide +kernel
theorem dX3_killerOf_47 : decode cX3_killerOf 47 = .ok (.iload_n 2, 1) := by decide +kernel
theorem dX3_killerOf_48 : decode cX3_killerOf 48 = .ok (.iadd, 1) := by decide +kernel
theorem dX3_killerOf_49 : decode cX3_killerOf 49 = .ok (.iaload, 1) := by decide +kernel
theorem dX3_killerOf_50 : decode cX3_killerOf 50 = .ok (.goto 5, 3) := by decide +kernel
theorem dX3_killerOf_53 : decode cX3_killerOf 53 = .ok (.bipush (-2), 2) := by decide +kernel
theorem dX3_killerOf_55 : decode cX3_killerOf 55 = .ok (.ireturn, 1) := by decide +kernel
