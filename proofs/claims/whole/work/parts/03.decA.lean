theorem dX0_init_0 : decode cX0_init 0 = .ok (.aload_n 0, 1) := by decide +kernel
theorem dX0_init_1 : decode cX0_init 1 = .ok (.invokespecial 3, 3) := by decide +kernel
theorem dX0_init_4 : decode cX0_init 4 = .ok (.aload_n 0, 1) := by decide +kernel
theorem dX0_init_5 : decode cX0_init 5 = .ok (.bipush 8, 2) := by decide +kernel
theorem dX0_init_7 : decode cX0_init 7 = .ok (.anewarray 9, 3) := by decide +kernel
theorem dX0_init_10 : decode cX0_init 10 = .ok (.putfield 11, 3) := by decide +kernel
theorem dX0_init_13 : decode cX0_init 13 = .ok (.aload_n 0, 1) := by decide +kernel
theorem dX0_init_14 : decode cX0_init 14 = .ok (.new 9, 3) := by decide +kernel
theorem dX0_init_17 : decode cX0_init 17 = .ok (.dup, 1) := by decide +kernel
theorem dX0_init_18 : decode cX0_init 18 = .ok (.iconst 1, 1) := by decide +kernel
theorem dX0_init_19 : decode cX0_init 19 = .ok (.invokespecial 17, 3) := by decide +kernel
theorem dX0_init_22 : decode cX0_init 22 = .ok (.putfield 20, 3) := by decide +kernel
theorem dX0_init_25 : decode cX0_init 25 = .ok (.aload_n 0, 1) := by decide +kernel
theorem dX0_init_26 : decode cX0_init 26 = .ok (.new 9, 3) := by decide +kernel
theorem dX0_init_29 : decode cX0_init 29 = .ok (.dup, 1) := by decide +kernel
theorem dX0_init_30 : decode cX0_init 30 = .ok (.iconst 1, 1) := by decide +kernel
theorem dX0_init_31 : decode cX0_init 31 = .ok (.invokespecial 17, 3) := by decide +kernel
theorem dX0_init_34 : decode cX0_init 34 = .ok (.putfield 24, 3) := by decide +kernel
theorem dX0_init_37 : decode cX0_init 37 = .ok (.aload_n 0, 1) := by decide +kernel
theorem dX0_init_38 : decode cX0_init 38 = .ok (.bipush 8, 2) := by decide +kernel
theorem dX0_init_40 : decode cX0_init 40 = .ok (.newarray .int, 2) := by decide +kernel
theorem dX0_init_42 : decode cX0_init 42 = .ok (.putfield 27, 3) := by decide +kernel
theorem dX0_init_45 : decode cX0_init 45 = .ok (.aload_n 0, 1) := by decide +kernel
theorem dX0_init_46 : decode cX0_init 46 = .ok (.aload_n 1, 1) := by decide +kernel
theorem dX0_init_47 : decode cX0_init 47 = .ok (.putfield 31, 3) := by decide +kernel
theorem dX0_init_50 : decode cX0_init 50 = .ok (.aload_n 0, 1) := by decide +kernel
theorem dX0_init_51 : decode cX0_init 51 = .ok (.aload_n 2, 1) := by decide +kernel
theorem dX0_init_52 : decode cX0_init 52 = .ok (.getfield 35, 3) := by decide +kernel
theorem dX0_init_55 : decode cX0_init 55 = .ok (.putfield 41, 3) := by decide +kernel
theorem dX0_init_58 : decode cX0_init 58 = .ok (.aload_n 0, 1) := by decide +kernel
theorem dX0_init_59 : decode cX0_init 59 = .ok (.aload_n 3, 1) := by decide +kernel
theorem dX0_init_60 : decode cX0_init 60 = .ok (.putfield 42, 3) := by decide +kernel
theorem dX0_init_63 : decode cX0_init 63 = .ok (.iconst 0, 1) := by decide +kernel
theorem dX0_init_64 : decode cX0_init 64 = .ok (.istore 4, 2) := by decide +kernel
theorem dX0_init_66 : decode cX0_init 66 = .ok (.iload 4, 2) := by decide +kernel
theorem dX0_init_68 : decode cX0_init 68 = .ok (.bipush 8, 2) := by decide +kernel
theorem dX0_init_70 : decode cX0_init 70 = .ok (.if_icmp .ge 25, 3) := by decide +kernel
theorem dX0_init_73 : decode cX0_init 73 = .ok (.aload_n 0, 1) := by decide +kernel
theorem dX0_init_74 : decode cX0_init 74 = .ok (.getfield 11, 3) := by decide +kernel
theorem dX0_init_77 : decode cX0_init 77 = .ok (.iload 4, 2) := by decide +kernel
theorem dX0_init_79 : decode cX0_init 79 = .ok (.new 9, 3) := by decide +kernel
theorem dX0_init_82 : decode cX0_init 82 = .ok (.dup, 1) := by decide +kernel
theorem dX0_init_83 : decode cX0_init 83 = .ok (.bipush 40, 2) := by decide +kernel
theorem dX0_init_85 : decode cX0_init 85 = .ok (.invokespecial 17, 3) := by decide +kernel
theorem dX0_init_88 : decode cX0_init 88 = .ok (.aastore, 1) := by decide +kernel
theorem dX0_init_89 : decode cX0_init 89 = .ok (.iinc 4 1, 3) := by decide +kernel
theorem dX0_init_92 : decode cX0_init 92 = .ok (.goto (-26), 3) := by decide +kernel
theorem dX0_init_95 : decode cX0_init 95 = .ok (.aload_n 0, 1) := by decide +kernel
theorem dX0_init_96 : decode cX0_init 96 = .ok (.getfield 24, 3) := by decide +kernel
theorem dX0_init_99 : decode cX0_init 99 = .ok (.iconst 0, 1) := by decide +kernel
theorem dX0_init_100 : decode cX0_init 100 = .ok (.invokevirtual 46, 3) := by decide +kernel
theorem dX0_init_103 : decode cX0_init 103 = .ok (.return_, 1) := by decide +kernel
theorem dX0_weigh_0 : decode cX0_weigh 0 = .ok (.aload_n 0, 1) := by decide +kernel
theorem dX0_weigh_1 : decode cX0_weigh 1 = .ok (.getfield 31, 3) := by decide +kernel
theorem dX0_weigh_4 : decode cX0_weigh 4 = .ok (.getfield 49, 3) := by decide +kernel
theorem dX0_weigh_7 : decode cX0_weigh 7 = .ok (.iconst 1, 1) := by decide +kernel
theorem dX0_weigh_8 : decode cX0_weigh 8 = .ok (.isub, 1) := by decide +kernel
theorem dX0_weigh_9 : decode cX0_weigh 9 = .ok (.istore_n 2, 1) := by decide +kernel
theorem dX0_weigh_10 : decode cX0_weigh 10 = .ok (.iload_n 2, 1) := by decide +kernel
theorem dX0_weigh_11 : decode cX0_weigh 11 = .ok (.ifCond .lt 37, 3) := by decide +kernel
theorem dX0_weigh_14 : decode cX0_weigh 14 = .ok (.iconst 0, 1) := by decide +kernel
theorem dX0_weigh_15 : decode cX0_weigh 15 = .ok (.istore_n 3, 1) := by decide +kernel
theorem dX0_weigh_16 : decode cX0_weigh 16 = .ok (.iload_n 3, 1) := by decide +kernel
theorem dX0_weigh_17 : decode cX0_weigh 17 = .ok (.aload_n 0, 1) := by decide +kernel
theorem dX0_weigh_18 : decode cX0_weigh 18 = .ok (.getfield 41, 3) := by decide +kernel
theorem dX0_weigh_21 : decode cX0_weigh 21 = .ok (.iload_n 2, 1) := by decide +kernel
theorem dX0_weigh_22 : decode cX0_weigh 22 = .ok (.aaload, 1) := by decide +kernel
theorem dX0_weigh_23 : decode cX0_weigh 23 = .ok (.getfield 55, 3) := by decide +kernel
theorem dX0_weigh_26 : decode cX0_weigh 26 = .ok (.if_icmp .ge 16, 3) := by decide +kernel
theorem dX0_weigh_29 : decode cX0_weigh 29 = .ok (.aload_n 0, 1) := by decide +kernel
theorem dX0_weigh_30 : decode cX0_weigh 30 = .ok (.iload_n 1, 1) := by decide +kernel
theorem dX0_weigh_31 : decode cX0_weigh 31 = .ok (.iload_n 2, 1) := by decide +kernel
theorem dX0_weigh_32 : decode cX0_weigh 32 = .ok (.iload_n 3, 1) := by decide +kernel
theorem dX0_weigh_33 : decode cX0_weigh 33 = .ok (.invokevirtual 58, 3) := by decide +kernel
theorem dX0_weigh_36 : decode cX0_weigh 36 = .ok (.iinc 3 1, 3) := by decide +kernel
theorem dX0_weigh_39 : decode cX0_weigh 39 = .ok (.goto (-23), 3) := by decide +kernel
theorem dX0_weigh_42 : decode cX0_weigh 42 = .ok (.iinc 2 (-1), 3) := by decide +kernel
theorem dX0_weigh_45 : decode cX0_weigh 45 = .ok (.goto (-35), 3) := by decide +kernel
theorem dX0_weigh_48 : decode cX0_weigh 48 = .ok (.aload_n 0, 1) := by decide +kernel
theorem dX0_weigh_49 : decode cX0_weigh 49 = .ok (.getfield 20, 3) := by decide +kernel
theorem dX0_weigh_52 : decode cX0_weigh 52 = .ok (.iconst 0, 1) := by decide +kernel
theorem dX0_weigh_53 : decode cX0_weigh 53 = .ok (.invokevirtual 62, 3) := by decide +kernel
theorem dX0_weigh_56 : decode cX0_weigh 56 = .ok (.iconst 0, 1) := by decide +kernel
theorem dX0_weigh_57 : decode cX0_weigh 57 = .ok (.istore_n 2, 1) := by decide +kernel
theorem dX0_weigh_58 : decode cX0_weigh 58 = .ok (.iload_n 2, 1) := by decide +kernel
theorem dX0_weigh_59 : decode cX0_weigh 59 = .ok (.aload_n 0, 1) := by decide +kernel
theorem dX0_weigh_60 : decode cX0_weigh 60 = .ok (.getfield 41, 3) := by decide +kernel
theorem dX0_weigh_63 : decode cX0_weigh 63 = .ok (.iconst 0, 1) := by decide +kernel
theorem dX0_weigh_64 : decode cX0_weigh 64 = .ok (.aaload, 1) := by decide +kernel
theorem dX0_weigh_65 : decode cX0_weigh 65 = .ok (.getfield 55, 3) := by decide +kernel
theorem dX0_weigh_68 : decode cX0_weigh 68 = .ok (.if_icmp .ge 25, 3) := by decide +kernel
theorem dX0_weigh_71 : decode cX0_weigh 71 = .ok (.aload_n 0, 1) := by decide +kernel
theorem dX0_weigh_72 : decode cX0_weigh 72 = .ok (.getfield 20, 3) := by decide +kernel
theorem dX0_weigh_75 : decode cX0_weigh 75 = .ok (.iconst 0, 1) := by decide +kernel
theorem dX0_weigh_76 : decode cX0_weigh 76 = .ok (.iconst 0, 1) := by decide +kernel
theorem dX0_weigh_77 : decode cX0_weigh 77 = .ok (.aload_n 0, 1) := by decide +kernel
theorem dX0_weigh_78 : decode cX0_weigh 78 = .ok (.getfield 11, 3) := by decide +kernel
theorem dX0_weigh_81 : decode cX0_weigh 81 = .ok (.iconst 0, 1) := by decide +kernel
theorem dX0_weigh_82 : decode cX0_weigh 82 = .ok (.aaload, 1) := by decide +kernel
theorem dX0_weigh_83 : decode cX0_weigh 83 = .ok (.iload_n 2, 1) := by decide +kernel
theorem dX0_weigh_84 : decode cX0_weigh 84 = .ok (.invokevirtual 65, 3) := by decide +kernel
theorem dX0_weigh_87 : decode cX0_weigh 87 = .ok (.iinc 2 1, 3) := by decide +kernel
theorem dX0_weigh_90 : decode cX0_weigh 90 = .ok (.goto (-32), 3) := by decide +kernel
theorem dX0_weigh_93 : decode cX0_weigh 93 = .ok (.return_, 1) := by decide +kernel
theorem dX0_weighEntry_0 : decode cX0_weighEntry 0 = .ok (.aload_n 0, 1) := by decide +kernel
theorem dX0_weighEntry_1 : decode cX0_weighEntry 1 = .ok (.getfield 41, 3) := by decide +kernel
theorem dX0_weighEntry_4 : decode cX0_weighEntry 4 = .ok (.iload_n 2, 1) := by decide +kernel
theorem dX0_weighEntry_5 : decode cX0_weighEntry 5 = .ok (.aaload, 1) := by decide +kernel
theorem dX0_weighEntry_6 : decode cX0_weighEntry 6 = .ok (.getfield 69, 3) := by decide +kernel
theorem dX0_weighEntry_9 : decode cX0_weighEntry 9 = .ok (.iload_n 3, 1) := by decide +kernel
theorem dX0_weighEntry_10 : decode cX0_weighEntry 10 = .ok (.iaload, 1) := by decide +kernel
theorem dX0_weighEntry_11 : decode cX0_weighEntry 11 = .ok (.istore 4, 2) := by decide +kernel
theorem dX0_weighEntry_13 : decode cX0_weighEntry 13 = .ok (.aload_n 0, 1) := by decide +kernel
theorem dX0_weighEntry_14 : decode cX0_weighEntry 14 = .ok (.getfield 42, 3) := by decide +kernel
theorem dX0_weighEntry_17 : decode cX0_weighEntry 17 = .ok (.iload_n 1, 1) := by decide +kernel
theorem dX0_weighEntry_18 : decode cX0_weighEntry 18 = .ok (.iload 4, 2) := by decide +kernel
theorem dX0_weighEntry_20 : decode cX0_weighEntry 20 = .ok (.iload_n 2, 1) := by decide +kernel
theorem dX0_weighEntry_21 : decode cX0_weighEntry 21 = .ok (.invokevirtual 72, 3) := by decide +kernel
theorem dX0_weighEntry_24 : decode cX0_weighEntry 24 = .ok (.istore 5, 2) := by decide +kernel
theorem dX0_weighEntry_26 : decode cX0_weighEntry 26 = .ok (.aload_n 0, 1) := by decide +kernel
theorem dX0_weighEntry_27 : decode cX0_weighEntry 27 = .ok (.getfield 11, 3) := by decide +kernel
theorem dX0_weighEntry_30 : decode cX0_weighEntry 30 = .ok (.iload_n 2, 1) := by decide +kernel
theorem dX0_weighEntry_31 : decode cX0_weighEntry 31 = .ok (.aaload, 1) := by decide +kernel
theorem dX0_weighEntry_32 : decode cX0_weighEntry 32 = .ok (.iload_n 3, 1) := by decide +kernel
theorem dX0_weighEntry_33 : decode cX0_weighEntry 33 = .ok (.invokevirtual 62, 3) := by decide +kernel
theorem dX0_weighEntry_36 : decode cX0_weighEntry 36 = .ok (.iload_n 2, 1) := by decide +kernel
theorem dX0_weighEntry_37 : decode cX0_weighEntry 37 = .ok (.iconst 1, 1) := by decide +kernel
theorem dX0_weighEntry_38 : decode cX0_weighEntry 38 = .ok (.iadd, 1) := by decide +kernel
theorem dX0_weighEntry_39 : decode cX0_weighEntry 39 = .ok (.aload_n 0, 1) := by decide +kernel
theorem dX0_weighEntry_40 : decode cX0_weighEntry 40 = .ok (.getfield 31, 3) := by decide +kernel
theorem dX0_weighEntry_43 : decode cX0_weighEntry 43 = .ok (.getfield 49, 3) := by decide +kernel
theorem dX0_weighEntry_46 : decode cX0_weighEntry 46 = .ok (.if_icmp .lt 21, 3) := by decide +kernel
theorem dX0_weighEntry_49 : decode cX0_weighEntry 49 = .ok (.aload_n 0, 1) := by decide +kernel
theorem dX0_weighEntry_50 : decode cX0_weighEntry 50 = .ok (.getfield 11, 3) := by decide +kernel
theorem dX0_weighEntry_53 : decode cX0_weighEntry 53 = .ok (.iload_n 2, 1) := by decide +kernel
theorem dX0_weighEntry_54 : decode cX0_weighEntry 54 = .ok (.aaload, 1) := by decide +kernel
theorem dX0_weighEntry_55 : decode cX0_weighEntry 55 = .ok (.iload_n 3, 1) := by decide +kernel
theorem dX0_weighEntry_56 : decode cX0_weighEntry 56 = .ok (.iload 5, 2) := by decide +kernel
theorem dX0_weighEntry_58 : decode cX0_weighEntry 58 = .ok (.aload_n 0, 1) := by decide +kernel
theorem dX0_weighEntry_59 : decode cX0_weighEntry 59 = .ok (.getfield 24, 3) := by decide +kernel
theorem dX0_weighEntry_62 : decode cX0_weighEntry 62 = .ok (.iconst 0, 1) := by decide +kernel
theorem dX0_weighEntry_63 : decode cX0_weighEntry 63 = .ok (.invokevirtual 65, 3) := by decide +kernel
theorem dX0_weighEntry_66 : decode cX0_weighEntry 66 = .ok (.return_, 1) := by decide +kernel
theorem dX0_weighEntry_67 : decode cX0_weighEntry 67 = .ok (.aload_n 0, 1) := by decide +kernel
theorem dX0_weighEntry_68 : decode cX0_weighEntry 68 = .ok (.getfield 41, 3) := by decide +kernel
theorem dX0_weighEntry_71 : decode cX0_weighEntry 71 = .ok (.iload_n 2, 1) := by decide +kernel
theorem dX0_weighEntry_72 : decode cX0_weighEntry 72 = .ok (.iconst 1, 1) := by decide +kernel
theorem dX0_weighEntry_73 : decode cX0_weighEntry 73 = .ok (.iadd, 1) := by decide +kernel
theorem dX0_weighEntry_74 : decode cX0_weighEntry 74 = .ok (.aaload, 1) := by decide +kernel
theorem dX0_weighEntry_75 : decode cX0_weighEntry 75 = .ok (.astore 6, 2) := by decide +kernel
theorem dX0_weighEntry_77 : decode cX0_weighEntry 77 = .ok (.iconst 0, 1) := by decide +kernel
theorem dX0_weighEntry_78 : decode cX0_weighEntry 78 = .ok (.istore 7, 2) := by decide +kernel
theorem dX0_weighEntry_80 : decode cX0_weighEntry 80 = .ok (.iload 7, 2) := by decide +kernel
theorem dX0_weighEntry_82 : decode cX0_weighEntry 82 = .ok (.aload 6, 2) := by decide +kernel
theorem dX0_weighEntry_84 : decode cX0_weighEntry 84 = .ok (.getfield 55, 3) := by decide +kernel
theorem dX0_weighEntry_87 : decode cX0_weighEntry 87 = .ok (.if_icmp .ge 53, 3) := by decide +kernel
theorem dX0_weighEntry_90 : decode cX0_weighEntry 90 = .ok (.aload_n 0, 1) := by decide +kernel
theorem dX0_weighEntry_91 : decode cX0_weighEntry 91 = .ok (.getfield 42, 3) := by decide +kernel
theorem dX0_weighEntry_94 : decode cX0_weighEntry 94 = .ok (.iload 4, 2) := by decide +kernel
theorem dX0_weighEntry_96 : decode cX0_weighEntry 96 = .ok (.aload 6, 2) := by decide +kernel
theorem dX0_weighEntry_98 : decode cX0_weighEntry 98 = .ok (.getfield 69, 3) := by decide +kernel
theorem dX0_weighEntry_101 : decode cX0_weighEntry 101 = .ok (.iload 7, 2) := by decide +kernel
theorem dX0_weighEntry_103 : decode cX0_weighEntry 103 = .ok (.iaload, 1) := by decide +kernel
theorem dX0_weighEntry_104 : decode cX0_weighEntry 104 = .ok (.invokevirtual 78, 3) := by decide +kernel
theorem dX0_weighEntry_107 : decode cX0_weighEntry 107 = .ok (.istore 8, 2) := by decide +kernel
theorem dX0_weighEntry_109 : decode cX0_weighEntry 109 = .ok (.aload_n 0, 1) := by decide +kernel
theorem dX0_weighEntry_110 : decode cX0_weighEntry 110 = .ok (.getfield 11, 3) := by decide +kernel
theorem dX0_weighEntry_113 : decode cX0_weighEntry 113 = .ok (.iload_n 2, 1) := by decide +kernel
theorem dX0_weighEntry_114 : decode cX0_weighEntry 114 = .ok (.aaload, 1) := by decide +kernel
theorem dX0_weighEntry_115 : decode cX0_weighEntry 115 = .ok (.iload_n 3, 1) := by decide +kernel
theorem dX0_weighEntry_116 : decode cX0_weighEntry 116 = .ok (.iload 5, 2) := by decide +kernel
theorem dX0_weighEntry_118 : decode cX0_weighEntry 118 = .ok (.iload 8, 2) := by decide +kernel
theorem dX0_weighEntry_120 : decode cX0_weighEntry 120 = .ok (.iadd, 1) := by decide +kernel
theorem dX0_weighEntry_121 : decode cX0_weighEntry 121 = .ok (.aload_n 0, 1) := by decide +kernel
theorem dX0_weighEntry_122 : decode cX0_weighEntry 122 = .ok (.getfield 11, 3) := by decide +kernel
theorem dX0_weighEntry_125 : decode cX0_weighEntry 125 = .ok (.iload_n 2, 1) := by decide +kernel
theorem dX0_weighEntry_126 : decode cX0_weighEntry 126 = .ok (.iconst 1, 1) := by decide +kernel
theorem dX0_weighEntry_127 : decode cX0_weighEntry 127 = .ok (.iadd, 1) := by decide +kernel
theorem dX0_weighEntry_128 : decode cX0_weighEntry 128 = .ok (.aaload, 1) := by decide +kernel
theorem dX0_weighEntry_129 : decode cX0_weighEntry 129 = .ok (.iload 7, 2) := by decide +kernel
theorem dX0_weighEntry_131 : decode cX0_weighEntry 131 = .ok (.invokevirtual 65, 3) := by decide +kernel
theorem dX0_weighEntry_134 : decode cX0_weighEntry 134 = .ok (.iinc 7 1, 3) := by decide +kernel
theorem dX0_weighEntry_137 : decode cX0_weighEntry 137 = .ok (.goto (-57), 3) := by decide +kernel
theorem dX0_weighEntry_140 : decode cX0_weighEntry 140 = .ok (.return_, 1) := by decide +kernel
theorem dX0_trace_0 : decode cX0_trace 0 = .ok (.aload_n 0, 1) := by decide +kernel
theorem dX0_trace_1 : decode cX0_trace 1 = .ok (.getfield 20, 3) := by decide +kernel
theorem dX0_trace_4 : decode cX0_trace 4 = .ok (.getfield 82, 3) := by decide +kernel
theorem dX0_trace_7 : decode cX0_trace 7 = .ok (.iconst 0, 1) := by decide +kernel
theorem dX0_trace_8 : decode cX0_trace 8 = .ok (.iaload, 1) := by decide +kernel
theorem dX0_trace_9 : decode cX0_trace 9 = .ok (.istore_n 1, 1) := by decide +kernel
theorem dX0_trace_10 : decode cX0_trace 10 = .ok (.iconst 0, 1) := by decide +kernel
theorem dX0_trace_11 : decode cX0_trace 11 = .ok (.istore_n 2, 1) := by decide +kernel
theorem dX0_trace_12 : decode cX0_trace 12 = .ok (.iload_n 2, 1) := by decide +kernel
theorem dX0_trace_13 : decode cX0_trace 13 = .ok (.aload_n 0, 1) := by decide +kernel
theorem dX0_trace_14 : decode cX0_trace 14 = .ok (.getfield 31, 3) := by decide +kernel
theorem dX0_trace_17 : decode cX0_trace 17 = .ok (.getfield 49, 3) := by decide +kernel
theorem dX0_trace_20 : decode cX0_trace 20 = .ok (.if_icmp .ge 51, 3) := by decide +kernel
theorem dX0_trace_23 : decode cX0_trace 23 = .ok (.iload_n 1, 1) := by decide +kernel
theorem dX0_trace_24 : decode cX0_trace 24 = .ok (.aload_n 0, 1) := by decide +kernel
theorem dX0_trace_25 : decode cX0_trace 25 = .ok (.getfield 41, 3) := by decide +kernel
theorem dX0_trace_28 : decode cX0_trace 28 = .ok (.iload_n 2, 1) := by decide +kernel
theorem dX0_trace_29 : decode cX0_trace 29 = .ok (.aaload, 1) := by decide +kernel
theorem dX0_trace_30 : decode cX0_trace 30 = .ok (.getfield 55, 3) := by decide +kernel
theorem dX0_trace_33 : decode cX0_trace 33 = .ok (.if_icmp .ge 38, 3) := by decide +kernel
theorem dX0_trace_36 : decode cX0_trace 36 = .ok (.aload_n 0, 1) := by decide +kernel
theorem dX0_trace_37 : decode cX0_trace 37 = .ok (.getfield 27, 3) := by decide +kernel
theorem dX0_trace_40 : decode cX0_trace 40 = .ok (.iload_n 2, 1) := by decide +kernel
theorem dX0_trace_41 : decode cX0_trace 41 = .ok (.aload_n 0, 1) := by decide +kernel
theorem dX0_trace_42 : decode cX0_trace 42 = .ok (.getfield 41, 3) := by decide +kernel
theorem dX0_trace_45 : decode cX0_trace 45 = .ok (.iload_n 2, 1) := by decide +kernel
theorem dX0_trace_46 : decode cX0_trace 46 = .ok (.aaload, 1) := by decide +kernel
theorem dX0_trace_47 : decode cX0_trace 47 = .ok (.getfield 69, 3) := by decide +kernel
theorem dX0_trace_50 : decode cX0_trace 50 = .ok (.iload_n 1, 1) := by decide +kernel
theorem dX0_trace_51 : decode cX0_trace 51 = .ok (.iaload, 1) := by decide +kernel
theorem dX0_trace_52 : decode cX0_trace 52 = .ok (.iastore, 1) := by decide +kernel
theorem dX0_trace_53 : decode cX0_trace 53 = .ok (.aload_n 0, 1) := by decide +kernel
theorem dX0_trace_54 : decode cX0_trace 54 = .ok (.getfield 11, 3) := by decide +kernel
theorem dX0_trace_57 : decode cX0_trace 57 = .ok (.iload_n 2, 1) := by decide +kernel
theorem dX0_trace_58 : decode cX0_trace 58 = .ok (.aaload, 1) := by decide +kernel
theorem dX0_trace_59 : decode cX0_trace 59 = .ok (.getfield 82, 3) := by decide +kernel
theorem dX0_trace_62 : decode cX0_trace 62 = .ok (.iload_n 1, 1) := by decide +kernel
theorem dX0_trace_63 : decode cX0_trace 63 = .ok (.iaload, 1) := by decide +kernel
theorem dX0_trace_64 : decode cX0_trace 64 = .ok (.istore_n 1, 1) := by decide +kernel
theorem dX0_trace_65 : decode cX0_trace 65 = .ok (.iinc 2 1, 3) := by decide +kernel
theorem dX0_trace_68 : decode cX0_trace 68 = .ok (.goto (-56), 3) := by decide +kernel
theorem dX0_trace_71 : decode cX0_trace 71 = .ok (.return_, 1) := by decide +kernel
theorem dX0_leastPrice_0 : decode cX0_leastPrice 0 = .ok (.aload_n 0, 1) := by decide +kernel
theorem dX0_leastPrice_1 : decode cX0_leastPrice 1 = .ok (.getfield 20, 3) := by decide +kernel
theorem dX0_leastPrice_4 : decode cX0_leastPrice 4 = .ok (.getfield 85, 3) := by decide +kernel
theorem dX0_leastPrice_7 : decode cX0_leastPrice 7 = .ok (.iconst 0, 1) := by decide +kernel
theorem dX0_leastPrice_8 : decode cX0_leastPrice 8 = .ok (.iaload, 1) := by decide +kernel
theorem dX0_leastPrice_9 : decode cX0_leastPrice 9 = .ok (.ireturn, 1) := by decide +kernel
theorem dX0_secondPrice_0 : decode cX0_secondPrice 0 = .ok (.aload_n 0, 1) := by decide +kernel
theorem dX0_secondPrice_1 : decode cX0_secondPrice 1 = .ok (.getfield 20, 3) := by decide +kernel
theorem dX0_secondPrice_4 : decode cX0_secondPrice 4 = .ok (.getfield 88, 3) := by decide +kernel
theorem dX0_secondPrice_7 : decode cX0_secondPrice 7 = .ok (.iconst 0, 1) := by decide +kernel
theorem dX0_secondPrice_8 : decode cX0_secondPrice 8 = .ok (.iaload, 1) := by decide +kernel
theorem dX0_secondPrice_9 : decode cX0_secondPrice 9 = .ok (.ldc 91, 2) := by decide +kernel
theorem dX0_secondPrice_11 : decode cX0_secondPrice 11 = .ok (.if_icmp .ge 15, 3) := by decide +kernel
theorem dX0_secondPrice_14 : decode cX0_secondPrice 14 = .ok (.aload_n 0, 1) := by decide +kernel
theorem dX0_secondPrice_15 : decode cX0_secondPrice 15 = .ok (.getfield 20, 3) := by decide +kernel
theorem dX0_secondPrice_18 : decode cX0_secondPrice 18 = .ok (.getfield 88, 3) := by decide +kernel
theorem dX0_secondPrice_21 : decode cX0_secondPrice 21 = .ok (.iconst 0, 1) := by decide +kernel
theorem dX0_secondPrice_22 : decode cX0_secondPrice 22 = .ok (.iaload, 1) := by decide +kernel
theorem dX0_secondPrice_23 : decode cX0_secondPrice 23 = .ok (.goto 4, 3) := by decide +kernel
theorem dX0_secondPrice_26 : decode cX0_secondPrice 26 = .ok (.iconst (-1), 1) := by decide +kernel
theorem dX0_secondPrice_27 : decode cX0_secondPrice 27 = .ok (.ireturn, 1) := by decide +kernel
theorem dX0_mostPrice_0 : decode cX0_mostPrice 0 = .ok (.aload_n 0, 1) := by decide +kernel
theorem dX0_mostPrice_1 : decode cX0_mostPrice 1 = .ok (.getfield 20, 3) := by decide +kernel
theorem dX0_mostPrice_4 : decode cX0_mostPrice 4 = .ok (.getfield 92, 3) := by decide +kernel
theorem dX0_mostPrice_7 : decode cX0_mostPrice 7 = .ok (.iconst 0, 1) := by decide +kernel
theorem dX0_mostPrice_8 : decode cX0_mostPrice 8 = .ok (.iaload, 1) := by decide +kernel
theorem dX0_mostPrice_9 : decode cX0_mostPrice 9 = .ok (.ireturn, 1) := by decide +kernel
theorem dX0_waysOfLeast_0 : decode cX0_waysOfLeast 0 = .ok (.aload_n 0, 1) := by decide +kernel
theorem dX0_waysOfLeast_1 : decode cX0_waysOfLeast 1 = .ok (.getfield 20, 3) := by decide +kernel
theorem dX0_waysOfLeast_4 : decode cX0_waysOfLeast 4 = .ok (.getfield 95, 3) := by decide +kernel
theorem dX0_waysOfLeast_7 : decode cX0_waysOfLeast 7 = .ok (.iconst 0, 1) := by decide +kernel
theorem dX0_waysOfLeast_8 : decode cX0_waysOfLeast 8 = .ok (.iaload, 1) := by decide +kernel
theorem dX0_waysOfLeast_9 : decode cX0_waysOfLeast 9 = .ok (.ireturn, 1) := by decide +kernel
theorem dX0_pathFollowers_0 : decode cX0_pathFollowers 0 = .ok (.iconst 0, 1) := by decide +kernel
theorem dX0_pathFollowers_1 : decode cX0_pathFollowers 1 = .ok (.istore_n 2, 1) := by decide +kernel
theorem dX0_pathFollowers_2 : decode cX0_pathFollowers 2 = .ok (.iconst 1, 1) := by decide +kernel
theorem dX0_pathFollowers_3 : decode cX0_pathFollowers 3 = .ok (.istore_n 3, 1) := by decide +kernel
theorem dX0_pathFollowers_4 : decode cX0_pathFollowers 4 = .ok (.iload_n 3, 1) := by decide +kernel
theorem dX0_pathFollowers_5 : decode cX0_pathFollowers 5 = .ok (.aload_n 0, 1) := by decide +kernel
theorem dX0_pathFollowers_6 : decode cX0_pathFollowers 6 = .ok (.getfield 31, 3) := by decide +kernel
theorem dX0_pathFollowers_9 : decode cX0_pathFollowers 9 = .ok (.getfield 49, 3) := by decide +kernel
theorem dX0_pathFollowers_12 : decode cX0_pathFollowers 12 = .ok (.if_icmp .ge 34, 3) := by decide +kernel
theorem dX0_pathFollowers_15 : decode cX0_pathFollowers 15 = .ok (.aload_n 1, 1) := by decide +kernel
theorem dX0_pathFollowers_16 : decode cX0_pathFollowers 16 = .ok (.getfield 98, 3) := by decide +kernel
theorem dX0_pathFollowers_19 : decode cX0_pathFollowers 19 = .ok (.aload_n 0, 1) := by decide +kernel
theorem dX0_pathFollowers_20 : decode cX0_pathFollowers 20 = .ok (.getfield 27, 3) := by decide +kernel
theorem dX0_pathFollowers_23 : decode cX0_pathFollowers 23 = .ok (.iload_n 3, 1) := by decide +kernel
theorem dX0_pathFollowers_24 : decode cX0_pathFollowers 24 = .ok (.iconst 1, 1) := by decide +kernel
theorem dX0_pathFollowers_25 : decode cX0_pathFollowers 25 = .ok (.isub, 1) := by decide +kernel
theorem dX0_pathFollowers_26 : decode cX0_pathFollowers 26 = .ok (.iaload, 1) := by decide +kernel
theorem dX0_pathFollowers_27 : decode cX0_pathFollowers 27 = .ok (.iaload, 1) := by decide +kernel
theorem dX0_pathFollowers_28 : decode cX0_pathFollowers 28 = .ok (.aload_n 0, 1) := by decide +kernel
theorem dX0_pathFollowers_29 : decode cX0_pathFollowers 29 = .ok (.getfield 27, 3) := by decide +kernel
theorem dX0_pathFollowers_32 : decode cX0_pathFollowers 32 = .ok (.iload_n 3, 1) := by decide +kernel
theorem dX0_pathFollowers_33 : decode cX0_pathFollowers 33 = .ok (.iaload, 1) := by decide +kernel
theorem dX0_pathFollowers_34 : decode cX0_pathFollowers 34 = .ok (.if_icmp .ne 6, 3) := by decide +kernel
theorem dX0_pathFollowers_37 : decode cX0_pathFollowers 37 = .ok (.iinc 2 1, 3) := by decide +kernel
theorem dX0_pathFollowers_40 : decode cX0_pathFollowers 40 = .ok (.iinc 3 1, 3) := by decide +kernel
theorem dX0_pathFollowers_43 : decode cX0_pathFollowers 43 = .ok (.goto (-39), 3) := by decide +kernel
theorem dX0_pathFollowers_46 : decode cX0_pathFollowers 46 = .ok (.iload_n 2, 1) := by decide +kernel
theorem dX0_pathFollowers_47 : decode cX0_pathFollowers 47 = .ok (.ireturn, 1) := by decide +kernel
theorem dX0_pathFits_0 : decode cX0_pathFits 0 = .ok (.iconst 0, 1) := by decide +kernel
theorem dX0_pathFits_1 : decode cX0_pathFits 1 = .ok (.istore_n 2, 1) := by decide +kernel
theorem dX0_pathFits_2 : decode cX0_pathFits 2 = .ok (.iconst 0, 1) := by decide +kernel
theorem dX0_pathFits_3 : decode cX0_pathFits 3 = .ok (.istore_n 3, 1) := by decide +kernel
theorem dX0_pathFits_4 : decode cX0_pathFits 4 = .ok (.iload_n 3, 1) := by decide +kernel
theorem dX0_pathFits_5 : decode cX0_pathFits 5 = .ok (.aload_n 0, 1) := by decide +kernel
theorem dX0_pathFits_6 : decode cX0_pathFits 6 = .ok (.getfield 31, 3) := by decide +kernel
theorem dX0_pathFits_9 : decode cX0_pathFits 9 = .ok (.getfield 49, 3) := by decide +kernel
theorem dX0_pathFits_12 : decode cX0_pathFits 12 = .ok (.if_icmp .ge 27, 3) := by decide +kernel
theorem dX0_pathFits_15 : decode cX0_pathFits 15 = .ok (.iload_n 2, 1) := by decide +kernel
theorem dX0_pathFits_16 : decode cX0_pathFits 16 = .ok (.aload_n 0, 1) := by decide +kernel
theorem dX0_pathFits_17 : decode cX0_pathFits 17 = .ok (.getfield 42, 3) := by decide +kernel
theorem dX0_pathFits_20 : decode cX0_pathFits 20 = .ok (.iload_n 1, 1) := by decide +kernel
theorem dX0_pathFits_21 : decode cX0_pathFits 21 = .ok (.aload_n 0, 1) := by decide +kernel
theorem dX0_pathFits_22 : decode cX0_pathFits 22 = .ok (.getfield 27, 3) := by decide +kernel
theorem dX0_pathFits_25 : decode cX0_pathFits 25 = .ok (.iload_n 3, 1) := by decide +kernel
theorem dX0_pathFits_26 : decode cX0_pathFits 26 = .ok (.iaload, 1) := by decide +kernel
theorem dX0_pathFits_27 : decode cX0_pathFits 27 = .ok (.iload_n 3, 1) := by decide +kernel
theorem dX0_pathFits_28 : decode cX0_pathFits 28 = .ok (.invokevirtual 72, 3) := by decide +kernel
theorem dX0_pathFits_31 : decode cX0_pathFits 31 = .ok (.iadd, 1) := by decide +kernel
theorem dX0_pathFits_32 : decode cX0_pathFits 32 = .ok (.istore_n 2, 1) := by decide +kernel
theorem dX0_pathFits_33 : decode cX0_pathFits 33 = .ok (.iinc 3 1, 3) := by decide +kernel
theorem dX0_pathFits_36 : decode cX0_pathFits 36 = .ok (.goto (-32), 3) := by decide +kernel
theorem dX0_pathFits_39 : decode cX0_pathFits 39 = .ok (.iload_n 2, 1) := by decide +kernel
theorem dX0_pathFits_40 : decode cX0_pathFits 40 = .ok (.ireturn, 1) := by decide +kernel
theorem dX0_pathJoints_0 : decode cX0_pathJoints 0 = .ok (.iconst 0, 1) := by decide +kernel
theorem dX0_pathJoints_1 : decode cX0_pathJoints 1 = .ok (.istore_n 1, 1) := by decide +kernel
theorem dX0_pathJoints_2 : decode cX0_pathJoints 2 = .ok (.iconst 1, 1) := by decide +kernel
theorem dX0_pathJoints_3 : decode cX0_pathJoints 3 = .ok (.istore_n 2, 1) := by decide +kernel
theorem dX0_pathJoints_4 : decode cX0_pathJoints 4 = .ok (.iload_n 2, 1) := by decide +kernel
theorem dX0_pathJoints_5 : decode cX0_pathJoints 5 = .ok (.aload_n 0, 1) := by decide +kernel
theorem dX0_pathJoints_6 : decode cX0_pathJoints 6 = .ok (.getfield 31, 3) := by decide +kernel
theorem dX0_pathJoints_9 : decode cX0_pathJoints 9 = .ok (.getfield 49, 3) := by decide +kernel
theorem dX0_pathJoints_12 : decode cX0_pathJoints 12 = .ok (.if_icmp .ge 33, 3) := by decide +kernel
theorem dX0_pathJoints_15 : decode cX0_pathJoints 15 = .ok (.iload_n 1, 1) := by decide +kernel
theorem dX0_pathJoints_16 : decode cX0_pathJoints 16 = .ok (.aload_n 0, 1) := by decide +kernel
theorem dX0_pathJoints_17 : decode cX0_pathJoints 17 = .ok (.getfield 42, 3) := by decide +kernel
theorem dX0_pathJoints_20 : decode cX0_pathJoints 20 = .ok (.aload_n 0, 1) := by decide +kernel
theorem dX0_pathJoints_21 : decode cX0_pathJoints 21 = .ok (.getfield 27, 3) := by decide +kernel
theorem dX0_pathJoints_24 : decode cX0_pathJoints 24 = .ok (.iload_n 2, 1) := by decide +kernel
theorem dX0_pathJoints_25 : decode cX0_pathJoints 25 = .ok (.iconst 1, 1) := by decide +kernel
theorem dX0_pathJoints_26 : decode cX0_pathJoints 26 = .ok (.isub, 1) := by decide +kernel
theorem dX0_pathJoints_27 : decode cX0_pathJoints 27 = .ok (.iaload, 1) := by decide +kernel
theorem dX0_pathJoints_28 : decode cX0_pathJoints 28 = .ok (.aload_n 0, 1) := by decide +kernel
theorem dX0_pathJoints_29 : decode cX0_pathJoints 29 = .ok (.getfield 27, 3) := by decide +kernel
theorem dX0_pathJoints_32 : decode cX0_pathJoints 32 = .ok (.iload_n 2, 1) := by decide +kernel
theorem dX0_pathJoints_33 : decode cX0_pathJoints 33 = .ok (.iaload, 1) := by decide +kernel
theorem dX0_pathJoints_34 : decode cX0_pathJoints 34 = .ok (.invokevirtual 78, 3) := by decide +kernel
theorem dX0_pathJoints_37 : decode cX0_pathJoints 37 = .ok (.iadd, 1) := by decide +kernel
theorem dX0_pathJoints_38 : decode cX0_pathJoints 38 = .ok (.istore_n 1, 1) := by decide +kernel
theorem dX0_pathJoints_39 : decode cX0_pathJoints 39 = .ok (.iinc 2 1, 3) := by decide +kernel
theorem dX0_pathJoints_42 : decode cX0_pathJoints 42 = .ok (.goto (-38), 3) := by decide +kernel
theorem dX0_pathJoints_45 : decode cX0_pathJoints 45 = .ok (.iload_n 1, 1) := by decide +kernel
theorem dX0_pathJoints_46 : decode cX0_pathJoints 46 = .ok (.ireturn, 1) := by decide +kernel
theorem dX0_dearestPathJoint_0 : decode cX0_dearestPathJoint 0 = .ok (.iconst 0, 1) := by decide +kernel
theorem dX0_dearestPathJoint_1 : decode cX0_dearestPathJoint 1 = .ok (.istore_n 1, 1) := by decide +kernel
theorem dX0_dearestPathJoint_2 : decode cX0_dearestPathJoint 2 = .ok (.iconst 1, 1) := by decide +kernel
theorem dX0_dearestPathJoint_3 : decode cX0_dearestPathJoint 3 = .ok (.istore_n 2, 1) := by decide +kernel
theorem dX0_dearestPathJoint_4 : decode cX0_dearestPathJoint 4 = .ok (.iload_n 2, 1) := by decide +kernel
theorem dX0_dearestPathJoint_5 : decode cX0_dearestPathJoint 5 = .ok (.aload_n 0, 1) := by decide +kernel
theorem dX0_dearestPathJoint_6 : decode cX0_dearestPathJoint 6 = .ok (.getfield 31, 3) := by decide +kernel
theorem dX0_dearestPathJoint_9 : decode cX0_dearestPathJoint 9 = .ok (.getfield 49, 3) := by decide +kernel
theorem dX0_dearestPathJoint_12 : decode cX0_dearestPathJoint 12 = .ok (.if_icmp .ge 35, 3) := by decide +kernel
theorem dX0_dearestPathJoint_15 : decode cX0_dearestPathJoint 15 = .ok (.iload_n 1, 1) := by decide +kernel
theorem dX0_dearestPathJoint_16 : decode cX0_dearestPathJoint 16 = .ok (.aload_n 0, 1) := by decide +kernel
theorem dX0_dearestPathJoint_17 : decode cX0_dearestPathJoint 17 = .ok (.getfield 42, 3) := by decide +kernel
theorem dX0_dearestPathJoint_20 : decode cX0_dearestPathJoint 20 = .ok (.aload_n 0, 1) := by decide +kernel
theorem dX0_dearestPathJoint_21 : decode cX0_dearestPathJoint 21 = .ok (.getfield 27, 3) := by decide +kernel
theorem dX0_dearestPathJoint_24 : decode cX0_dearestPathJoint 24 = .ok (.iload_n 2, 1) := by decide +kernel
theorem dX0_dearestPathJoint_25 : decode cX0_dearestPathJoint 25 = .ok (.iconst 1, 1) := by decide +kernel
theorem dX0_dearestPathJoint_26 : decode cX0_dearestPathJoint 26 = .ok (.isub, 1) := by decide +kernel
theorem dX0_dearestPathJoint_27 : decode cX0_dearestPathJoint 27 = .ok (.iaload, 1) := by decide +kernel
theorem dX0_dearestPathJoint_28 : decode cX0_dearestPathJoint 28 = .ok (.aload_n 0, 1) := by decide +kernel
theorem dX0_dearestPathJoint_29 : decode cX0_dearestPathJoint 29 = .ok (.getfield 27, 3) := by decide +kernel
theorem dX0_dearestPathJoint_32 : decode cX0_dearestPathJoint 32 = .ok (.iload_n 2, 1) := by decide +kernel
theorem dX0_dearestPathJoint_33 : decode cX0_dearestPathJoint 33 = .ok (.iaload, 1) := by decide +kernel
theorem dX0_dearestPathJoint_34 : decode cX0_dearestPathJoint 34 = .ok (.invokevirtual 78, 3) := by decide +kernel
theorem dX0_dearestPathJoint_37 : decode cX0_dearestPathJoint 37 = .ok (.invokestatic 103, 3) := by decide +kernel
theorem dX0_dearestPathJoint_40 : decode cX0_dearestPathJoint 40 = .ok (.istore_n 1, 1) := by decide +kernel
theorem dX0_dearestPathJoint_41 : decode cX0_dearestPathJoint 41 = .ok (.iinc 2 1, 3) := by decide +kernel
theorem dX0_dearestPathJoint_44 : decode cX0_dearestPathJoint 44 = .ok (.goto (-40), 3) := by decide +kernel
theorem dX0_dearestPathJoint_47 : decode cX0_dearestPathJoint 47 = .ok (.iload_n 1, 1) := by decide +kernel
theorem dX0_dearestPathJoint_48 : decode cX0_dearestPathJoint 48 = .ok (.ireturn, 1) := by decide +kernel
theorem dX1_init_0 : decode cX1_init 0 = .ok (.aload_n 0, 1) := by decide +kernel
theorem dX1_init_1 : decode cX1_init 1 = .ok (.invokespecial 3, 3) := by decide +kernel
theorem dX1_init_4 : decode cX1_init 4 = .ok (.aload_n 0, 1) := by decide +kernel
theorem dX1_init_5 : decode cX1_init 5 = .ok (.bipush 40, 2) := by decide +kernel
theorem dX1_init_7 : decode cX1_init 7 = .ok (.newarray .int, 2) := by decide +kernel
theorem dX1_init_9 : decode cX1_init 9 = .ok (.putfield 9, 3) := by decide +kernel
theorem dX1_init_12 : decode cX1_init 12 = .ok (.return_, 1) := by decide +kernel
theorem dX1_begin_0 : decode cX1_begin 0 = .ok (.aload_n 0, 1) := by decide +kernel
theorem dX1_begin_1 : decode cX1_begin 1 = .ok (.iconst 0, 1) := by decide +kernel
theorem dX1_begin_2 : decode cX1_begin 2 = .ok (.putfield 15, 3) := by decide +kernel
theorem dX1_begin_5 : decode cX1_begin 5 = .ok (.aload_n 0, 1) := by decide +kernel
theorem dX1_begin_6 : decode cX1_begin 6 = .ok (.iconst 0, 1) := by decide +kernel
theorem dX1_begin_7 : decode cX1_begin 7 = .ok (.putfield 19, 3) := by decide +kernel
theorem dX1_begin_10 : decode cX1_begin 10 = .ok (.aload_n 0, 1) := by decide +kernel
theorem dX1_begin_11 : decode cX1_begin 11 = .ok (.iconst 0, 1) := by decide +kernel
theorem dX1_begin_12 : decode cX1_begin 12 = .ok (.putfield 22, 3) := by decide +kernel
theorem dX1_begin_15 : decode cX1_begin 15 = .ok (.return_, 1) := by decide +kernel
theorem dX1_add_0 : decode cX1_add 0 = .ok (.aload_n 0, 1) := by decide +kernel
theorem dX1_add_1 : decode cX1_add 1 = .ok (.getfield 15, 3) := by decide +kernel
theorem dX1_add_4 : decode cX1_add 4 = .ok (.ifCond .lt 32, 3) := by decide +kernel
theorem dX1_add_7 : decode cX1_add 7 = .ok (.aload_n 0, 1) := by decide +kernel
theorem dX1_add_8 : decode cX1_add 8 = .ok (.getfield 15, 3) := by decide +kernel
theorem dX1_add_11 : decode cX1_add 11 = .ok (.bipush 40, 2) := by decide +kernel
theorem dX1_add_13 : decode cX1_add 13 = .ok (.if_icmp .ge 23, 3) := by decide +kernel
theorem dX1_add_16 : decode cX1_add 16 = .ok (.aload_n 0, 1) := by decide +kernel
theorem dX1_add_17 : decode cX1_add 17 = .ok (.getfield 9, 3) := by decide +kernel
theorem dX1_add_20 : decode cX1_add 20 = .ok (.aload_n 0, 1) := by decide +kernel
theorem dX1_add_21 : decode cX1_add 21 = .ok (.getfield 15, 3) := by decide +kernel
theorem dX1_add_24 : decode cX1_add 24 = .ok (.iload_n 1, 1) := by decide +kernel
theorem dX1_add_25 : decode cX1_add 25 = .ok (.iastore, 1) := by decide +kernel
theorem dX1_add_26 : decode cX1_add 26 = .ok (.aload_n 0, 1) := by decide +kernel
theorem dX1_add_27 : decode cX1_add 27 = .ok (.dup, 1) := by decide +kernel
theorem dX1_add_28 : decode cX1_add 28 = .ok (.getfield 15, 3) := by decide +kernel
theorem dX1_add_31 : decode cX1_add 31 = .ok (.iconst 1, 1) := by decide +kernel
theorem dX1_add_32 : decode cX1_add 32 = .ok (.iadd, 1) := by decide +kernel
theorem dX1_add_33 : decode cX1_add 33 = .ok (.putfield 15, 3) := by decide +kernel
theorem dX1_add_36 : decode cX1_add 36 = .ok (.return_, 1) := by decide +kernel
theorem dX1_miss_0 : decode cX1_miss 0 = .ok (.aload_n 0, 1) := by decide +kernel
theorem dX1_miss_1 : decode cX1_miss 1 = .ok (.iconst 0, 1) := by decide +kernel
theorem dX1_miss_2 : decode cX1_miss 2 = .ok (.putfield 15, 3) := by decide +kernel
theorem dX1_miss_5 : decode cX1_miss 5 = .ok (.aload_n 0, 1) := by decide +kernel
theorem dX1_miss_6 : decode cX1_miss 6 = .ok (.iconst (-1), 1) := by decide +kernel
theorem dX1_miss_7 : decode cX1_miss 7 = .ok (.putfield 19, 3) := by decide +kernel
theorem dX1_miss_10 : decode cX1_miss 10 = .ok (.return_, 1) := by decide +kernel
theorem dX1_isMissing_0 : decode cX1_isMissing 0 = .ok (.aload_n 0, 1) := by decide +kernel
theorem dX1_isMissing_1 : decode cX1_isMissing 1 = .ok (.getfield 19, 3) := by decide +kernel
theorem dX1_isMissing_4 : decode cX1_isMissing 4 = .ok (.iconst (-1), 1) := by decide +kernel
theorem dX1_isMissing_5 : decode cX1_isMissing 5 = .ok (.if_icmp .ne 7, 3) := by decide +kernel
theorem dX1_isMissing_8 : decode cX1_isMissing 8 = .ok (.iconst 1, 1) := by decide +kernel
theorem dX1_isMissing_9 : decode cX1_isMissing 9 = .ok (.goto 4, 3) := by decide +kernel
theorem dX1_isMissing_12 : decode cX1_isMissing 12 = .ok (.iconst 0, 1) := by decide +kernel
theorem dX1_isMissing_13 : decode cX1_isMissing 13 = .ok (.ireturn, 1) := by decide +kernel
theorem dX2_init_0 : decode cX2_init 0 = .ok (.aload_n 0, 1) := by decide +kernel
theorem dX2_init_1 : decode cX2_init 1 = .ok (.invokespecial 3, 3) := by decide +kernel
theorem dX2_init_4 : decode cX2_init 4 = .ok (.aload_n 0, 1) := by decide +kernel
theorem dX2_init_5 : decode cX2_init 5 = .ok (.bipush 40, 2) := by decide +kernel
theorem dX2_init_7 : decode cX2_init 7 = .ok (.newarray .int, 2) := by decide +kernel
theorem dX2_init_9 : decode cX2_init 9 = .ok (.putfield 9, 3) := by decide +kernel
theorem dX2_init_12 : decode cX2_init 12 = .ok (.aload_n 0, 1) := by decide +kernel
theorem dX2_init_13 : decode cX2_init 13 = .ok (.bipush 8, 2) := by decide +kernel
theorem dX2_init_15 : decode cX2_init 15 = .ok (.anewarray 15, 3) := by decide +kernel
theorem dX2_init_18 : decode cX2_init 18 = .ok (.putfield 17, 3) := by decide +kernel
theorem dX2_init_21 : decode cX2_init 21 = .ok (.aload_n 0, 1) := by decide +kernel
theorem dX2_init_22 : decode cX2_init 22 = .ok (.aload_n 1, 1) := by decide +kernel
theorem dX2_init_23 : decode cX2_init 23 = .ok (.putfield 21, 3) := by decide +kernel
theorem dX2_init_26 : decode cX2_init 26 = .ok (.aload_n 0, 1) := by decide +kernel
theorem dX2_init_27 : decode cX2_init 27 = .ok (.aload_n 2, 1) := by decide +kernel
theorem dX2_init_28 : decode cX2_init 28 = .ok (.putfield 25, 3) := by decide +kernel
theorem dX2_init_31 : decode cX2_init 31 = .ok (.aload_n 0, 1) := by decide +kernel
theorem dX2_init_32 : decode cX2_init 32 = .ok (.aload_n 3, 1) := by decide +kernel
theorem dX2_init_33 : decode cX2_init 33 = .ok (.putfield 29, 3) := by decide +kernel
theorem dX2_init_36 : decode cX2_init 36 = .ok (.aload_n 0, 1) := by decide +kernel
theorem dX2_init_37 : decode cX2_init 37 = .ok (.aload 4, 2) := by decide +kernel
theorem dX2_init_39 : decode cX2_init 39 = .ok (.putfield 33, 3) := by decide +kernel
theorem dX2_init_42 : decode cX2_init 42 = .ok (.iconst 0, 1) := by decide +kernel
theorem dX2_init_43 : decode cX2_init 43 = .ok (.istore 5, 2) := by decide +kernel
theorem dX2_init_45 : decode cX2_init 45 = .ok (.iload 5, 2) := by decide +kernel
theorem dX2_init_47 : decode cX2_init 47 = .ok (.bipush 8, 2) := by decide +kernel
theorem dX2_init_49 : decode cX2_init 49 = .ok (.if_icmp .ge 23, 3) := by decide +kernel
theorem dX2_init_52 : decode cX2_init 52 = .ok (.aload_n 0, 1) := by decide +kernel
theorem dX2_init_53 : decode cX2_init 53 = .ok (.getfield 17, 3) := by decide +kernel
theorem dX2_init_56 : decode cX2_init 56 = .ok (.iload 5, 2) := by decide +kernel
theorem dX2_init_58 : decode cX2_init 58 = .ok (.new 15, 3) := by decide +kernel
theorem dX2_init_61 : decode cX2_init 61 = .ok (.dup, 1) := by decide +kernel
theorem dX2_init_62 : decode cX2_init 62 = .ok (.invokespecial 36, 3) := by decide +kernel
theorem dX2_init_65 : decode cX2_init 65 = .ok (.aastore, 1) := by decide +kernel
theorem dX2_init_66 : decode cX2_init 66 = .ok (.iinc 5 1, 3) := by decide +kernel
theorem dX2_init_69 : decode cX2_init 69 = .ok (.goto (-24), 3) := by decide +kernel
theorem dX2_init_72 : decode cX2_init 72 = .ok (.return_, 1) := by decide +kernel
theorem dX2_leafOfUnit_0 : decode cX2_leafOfUnit 0 = .ok (.aload_n 0, 1) := by decide +kernel
theorem dX2_leafOfUnit_1 : decode cX2_leafOfUnit 1 = .ok (.getfield 29, 3) := by decide +kernel
theorem dX2_leafOfUnit_4 : decode cX2_leafOfUnit 4 = .ok (.aload_n 0, 1) := by decide +kernel
theorem dX2_leafOfUnit_5 : decode cX2_leafOfUnit 5 = .ok (.getfield 21, 3) := by decide +kernel
theorem dX2_leafOfUnit_8 : decode cX2_leafOfUnit 8 = .ok (.getfield 37, 3) := by decide +kernel
theorem dX2_leafOfUnit_11 : decode cX2_leafOfUnit 11 = .ok (.iload_n 1, 1) := by decide +kernel
theorem dX2_leafOfUnit_12 : decode cX2_leafOfUnit 12 = .ok (.iaload, 1) := by decide +kernel
theorem dX2_leafOfUnit_13 : decode cX2_leafOfUnit 13 = .ok (.aload_n 0, 1) := by decide +kernel
theorem dX2_leafOfUnit_14 : decode cX2_leafOfUnit 14 = .ok (.getfield 21, 3) := by decide +kernel
theorem dX2_leafOfUnit_17 : decode cX2_leafOfUnit 17 = .ok (.getfield 42, 3) := by decide +kernel
theorem dX2_leafOfUnit_20 : decode cX2_leafOfUnit 20 = .ok (.iload_n 1, 1) := by decide +kernel
theorem dX2_leafOfUnit_21 : decode cX2_leafOfUnit 21 = .ok (.iaload, 1) := by decide +kernel
theorem dX2_leafOfUnit_22 : decode cX2_leafOfUnit 22 = .ok (.aload_n 0, 1) := by decide +kernel
theorem dX2_leafOfUnit_23 : decode cX2_leafOfUnit 23 = .ok (.getfield 21, 3) := by decide +kernel
theorem dX2_leafOfUnit_26 : decode cX2_leafOfUnit 26 = .ok (.getfield 45, 3) := by decide +kernel
theorem dX2_leafOfUnit_29 : decode cX2_leafOfUnit 29 = .ok (.iload_n 1, 1) := by decide +kernel
theorem dX2_leafOfUnit_30 : decode cX2_leafOfUnit 30 = .ok (.iaload, 1) := by decide +kernel
theorem dX2_leafOfUnit_31 : decode cX2_leafOfUnit 31 = .ok (.aload_n 0, 1) := by decide +kernel
theorem dX2_leafOfUnit_32 : decode cX2_leafOfUnit 32 = .ok (.getfield 21, 3) := by decide +kernel
theorem dX2_leafOfUnit_35 : decode cX2_leafOfUnit 35 = .ok (.getfield 48, 3) := by decide +kernel
theorem dX2_leafOfUnit_38 : decode cX2_leafOfUnit 38 = .ok (.iload_n 1, 1) := by decide +kernel
theorem dX2_leafOfUnit_39 : decode cX2_leafOfUnit 39 = .ok (.iaload, 1) := by decide +kernel
theorem dX2_leafOfUnit_40 : decode cX2_leafOfUnit 40 = .ok (.invokevirtual 51, 3) := by decide +kernel
theorem dX2_leafOfUnit_43 : decode cX2_leafOfUnit 43 = .ok (.ireturn, 1) := by decide +kernel
theorem dX2_leafOfTarget_0 : decode cX2_leafOfTarget 0 = .ok (.aload_n 0, 1) := by decide +kernel
theorem dX2_leafOfTarget_1 : decode cX2_leafOfTarget 1 = .ok (.getfield 29, 3) := by decide +kernel
theorem dX2_leafOfTarget_4 : decode cX2_leafOfTarget 4 = .ok (.aload_n 0, 1) := by decide +kernel
theorem dX2_leafOfTarget_5 : decode cX2_leafOfTarget 5 = .ok (.getfield 25, 3) := by decide +kernel
theorem dX2_leafOfTarget_8 : decode cX2_leafOfTarget 8 = .ok (.iload_n 1, 1) := by decide +kernel
theorem dX2_leafOfTarget_9 : decode cX2_leafOfTarget 9 = .ok (.invokevirtual 57, 3) := by decide +kernel
theorem dX2_leafOfTarget_12 : decode cX2_leafOfTarget 12 = .ok (.aload_n 0, 1) := by decide +kernel
theorem dX2_leafOfTarget_13 : decode cX2_leafOfTarget 13 = .ok (.getfield 25, 3) := by decide +kernel
theorem dX2_leafOfTarget_16 : decode cX2_leafOfTarget 16 = .ok (.iload_n 1, 1) := by decide +kernel
theorem dX2_leafOfTarget_17 : decode cX2_leafOfTarget 17 = .ok (.invokevirtual 63, 3) := by decide +kernel
theorem dX2_leafOfTarget_20 : decode cX2_leafOfTarget 20 = .ok (.aload_n 0, 1) := by decide +kernel
theorem dX2_leafOfTarget_21 : decode cX2_leafOfTarget 21 = .ok (.getfield 25, 3) := by decide +kernel
theorem dX2_leafOfTarget_24 : decode cX2_leafOfTarget 24 = .ok (.getfield 66, 3) := by decide +kernel
theorem dX2_leafOfTarget_27 : decode cX2_leafOfTarget 27 = .ok (.iload_n 1, 1) := by decide +kernel
theorem dX2_leafOfTarget_28 : decode cX2_leafOfTarget 28 = .ok (.iaload, 1) := by decide +kernel
theorem dX2_leafOfTarget_29 : decode cX2_leafOfTarget 29 = .ok (.aload_n 0, 1) := by decide +kernel
theorem dX2_leafOfTarget_30 : decode cX2_leafOfTarget 30 = .ok (.getfield 25, 3) := by decide +kernel
theorem dX2_leafOfTarget_33 : decode cX2_leafOfTarget 33 = .ok (.getfield 67, 3) := by decide +kernel
theorem dX2_leafOfTarget_36 : decode cX2_leafOfTarget 36 = .ok (.iload_n 1, 1) := by decide +kernel
theorem dX2_leafOfTarget_37 : decode cX2_leafOfTarget 37 = .ok (.iaload, 1) := by decide +kernel
theorem dX2_leafOfTarget_38 : decode cX2_leafOfTarget 38 = .ok (.invokevirtual 51, 3) := by decide +kernel
theorem dX2_leafOfTarget_41 : decode cX2_leafOfTarget 41 = .ok (.ireturn, 1) := by decide +kernel
theorem dX2_chooseAll_0 : decode cX2_chooseAll 0 = .ok (.aload_n 0, 1) := by decide +kernel
theorem dX2_chooseAll_1 : decode cX2_chooseAll 1 = .ok (.invokevirtual 68, 3) := by decide +kernel
theorem dX2_chooseAll_4 : decode cX2_chooseAll 4 = .ok (.iconst 0, 1) := by decide +kernel
theorem dX2_chooseAll_5 : decode cX2_chooseAll 5 = .ok (.istore_n 2, 1) := by decide +kernel
theorem dX2_chooseAll_6 : decode cX2_chooseAll 6 = .ok (.iload_n 2, 1) := by decide +kernel
theorem dX2_chooseAll_7 : decode cX2_chooseAll 7 = .ok (.aload_n 0, 1) := by decide +kernel
theorem dX2_chooseAll_8 : decode cX2_chooseAll 8 = .ok (.getfield 25, 3) := by decide +kernel
theorem dX2_chooseAll_11 : decode cX2_chooseAll 11 = .ok (.getfield 71, 3) := by decide +kernel
theorem dX2_chooseAll_14 : decode cX2_chooseAll 14 = .ok (.if_icmp .ge 29, 3) := by decide +kernel
theorem dX2_chooseAll_17 : decode cX2_chooseAll 17 = .ok (.aload_n 0, 1) := by decide +kernel
theorem dX2_chooseAll_18 : decode cX2_chooseAll 18 = .ok (.iload_n 2, 1) := by decide +kernel
theorem dX2_chooseAll_19 : decode cX2_chooseAll 19 = .ok (.iload_n 1, 1) := by decide +kernel
theorem dX2_chooseAll_20 : decode cX2_chooseAll 20 = .ok (.invokevirtual 75, 3) := by decide +kernel
theorem dX2_chooseAll_23 : decode cX2_chooseAll 23 = .ok (.aload_n 0, 1) := by decide +kernel
theorem dX2_chooseAll_24 : decode cX2_chooseAll 24 = .ok (.getfield 17, 3) := by decide +kernel
theorem dX2_chooseAll_27 : decode cX2_chooseAll 27 = .ok (.iload_n 2, 1) := by decide +kernel
theorem dX2_chooseAll_28 : decode cX2_chooseAll 28 = .ok (.aaload, 1) := by decide +kernel
theorem dX2_chooseAll_29 : decode cX2_chooseAll 29 = .ok (.invokevirtual 79, 3) := by decide +kernel
theorem dX2_chooseAll_32 : decode cX2_chooseAll 32 = .ok (.ifCond .eq 5, 3) := by decide +kernel
theorem dX2_chooseAll_35 : decode cX2_chooseAll 35 = .ok (.iconst 0, 1) := by decide +kernel
theorem dX2_chooseAll_36 : decode cX2_chooseAll 36 = .ok (.ireturn, 1) := by decide +kernel
theorem dX2_chooseAll_37 : decode cX2_chooseAll 37 = .ok (.iinc 2 1, 3) := by decide +kernel
theorem dX2_chooseAll_40 : decode cX2_chooseAll 40 = .ok (.goto (-34), 3) := by decide +kernel
theorem dX2_chooseAll_43 : decode cX2_chooseAll 43 = .ok (.aload_n 0, 1) := by decide +kernel
theorem dX2_chooseAll_44 : decode cX2_chooseAll 44 = .ok (.getfield 25, 3) := by decide +kernel
theorem dX2_chooseAll_47 : decode cX2_chooseAll 47 = .ok (.getfield 71, 3) := by decide +kernel
theorem dX2_chooseAll_50 : decode cX2_chooseAll 50 = .ok (.ifCond .le 7, 3) := by decide +kernel
theorem dX2_chooseAll_53 : decode cX2_chooseAll 53 = .ok (.iconst 1, 1) := by decide +kernel
theorem dX2_chooseAll_54 : decode cX2_chooseAll 54 = .ok (.goto 4, 3) := by decide +kernel
theorem dX2_chooseAll_57 : decode cX2_chooseAll 57 = .ok (.iconst 0, 1) := by decide +kernel
theorem dX2_chooseAll_58 : decode cX2_chooseAll 58 = .ok (.ireturn, 1) := by decide +kernel
theorem dX2_choose_0 : decode cX2_choose 0 = .ok (.aload_n 0, 1) := by decide +kernel
theorem dX2_choose_1 : decode cX2_choose 1 = .ok (.invokevirtual 68, 3) := by decide +kernel
theorem dX2_choose_4 : decode cX2_choose 4 = .ok (.aload_n 0, 1) := by decide +kernel
theorem dX2_choose_5 : decode cX2_choose 5 = .ok (.iload_n 1, 1) := by decide +kernel
theorem dX2_choose_6 : decode cX2_choose 6 = .ok (.iload_n 2, 1) := by decide +kernel
theorem dX2_choose_7 : decode cX2_choose 7 = .ok (.invokevirtual 75, 3) := by decide +kernel
theorem dX2_choose_10 : decode cX2_choose 10 = .ok (.aload_n 0, 1) := by decide +kernel
theorem dX2_choose_11 : decode cX2_choose 11 = .ok (.getfield 17, 3) := by decide +kernel
theorem dX2_choose_14 : decode cX2_choose 14 = .ok (.iload_n 1, 1) := by decide +kernel
theorem dX2_choose_15 : decode cX2_choose 15 = .ok (.aaload, 1) := by decide +kernel
theorem dX2_choose_16 : decode cX2_choose 16 = .ok (.areturn, 1) := by decide +kernel
theorem dX2_findLeaves_0 : decode cX2_findLeaves 0 = .ok (.iconst 0, 1) := by decide +kernel
theorem dX2_findLeaves_1 : decode cX2_findLeaves 1 = .ok (.istore_n 1, 1) := by decide +kernel
theorem dX2_findLeaves_2 : decode cX2_findLeaves 2 = .ok (.iload_n 1, 1) := by decide +kernel
theorem dX2_findLeaves_3 : decode cX2_findLeaves 3 = .ok (.aload_n 0, 1) := by decide +kernel
theorem dX2_findLeaves_4 : decode cX2_findLeaves 4 = .ok (.getfield 21, 3) := by decide +kernel
theorem dX2_findLeaves_7 : decode cX2_findLeaves 7 = .ok (.getfield 83, 3) := by decide +kernel
theorem dX2_findLeaves_10 : decode cX2_findLeaves 10 = .ok (.if_icmp .ge 20, 3) := by decide +kernel
theorem dX2_findLeaves_13 : decode cX2_findLeaves 13 = .ok (.aload_n 0, 1) := by decide +kernel
theorem dX2_findLeaves_14 : decode cX2_findLeaves 14 = .ok (.getfield 9, 3) := by decide +kernel
theorem dX2_findLeaves_17 : decode cX2_findLeaves 17 = .ok (.iload_n 1, 1) := by decide +kernel
theorem dX2_findLeaves_18 : decode cX2_findLeaves 18 = .ok (.aload_n 0, 1) := by decide +kernel
theorem dX2_findLeaves_19 : decode cX2_findLeaves 19 = .ok (.iload_n 1, 1) := by decide +kernel
theorem dX2_findLeaves_20 : decode cX2_findLeaves 20 = .ok (.invokevirtual 84, 3) := by decide +kernel
theorem dX2_findLeaves_23 : decode cX2_findLeaves 23 = .ok (.iastore, 1) := by decide +kernel
theorem dX2_findLeaves_24 : decode cX2_findLeaves 24 = .ok (.iinc 1 1, 3) := by decide +kernel
theorem dX2_findLeaves_27 : decode cX2_findLeaves 27 = .ok (.goto (-25), 3) := by decide +kernel
theorem dX2_findLeaves_30 : decode cX2_findLeaves 30 = .ok (.return_, 1) := by decide +kernel
theorem dX2_chooseFor_0 : decode cX2_chooseFor 0 = .ok (.aload_n 0, 1) := by decide +kernel
theorem dX2_chooseFor_1 : decode cX2_chooseFor 1 = .ok (.getfield 17, 3) := by decide +kernel
theorem dX2_chooseFor_4 : decode cX2_chooseFor 4 = .ok (.iload_n 1, 1) := by decide +kernel
theorem dX2_chooseFor_5 : decode cX2_chooseFor 5 = .ok (.aaload, 1) := by decide +kernel
theorem dX2_chooseFor_6 : decode cX2_chooseFor 6 = .ok (.astore_n 3, 1) := by decide +kernel
theorem dX2_chooseFor_7 : decode cX2_chooseFor 7 = .ok (.aload_n 3, 1) := by decide +kernel
theorem dX2_chooseFor_8 : decode cX2_chooseFor 8 = .ok (.invokevirtual 87, 3) := by decide +kernel
theorem dX2_chooseFor_11 : decode cX2_chooseFor 11 = .ok (.aload_n 0, 1) := by decide +kernel
theorem dX2_chooseFor_12 : decode cX2_chooseFor 12 = .ok (.iload_n 1, 1) := by decide +kernel
theorem dX2_chooseFor_13 : decode cX2_chooseFor 13 = .ok (.invokevirtual 90, 3) := by decide +kernel
theorem dX2_chooseFor_16 : decode cX2_chooseFor 16 = .ok (.istore 4, 2) := by decide +kernel
theorem dX2_chooseFor_18 : decode cX2_chooseFor 18 = .ok (.aload_n 0, 1) := by decide +kernel
theorem dX2_chooseFor_19 : decode cX2_chooseFor 19 = .ok (.getfield 25, 3) := by decide +kernel
theorem dX2_chooseFor_22 : decode cX2_chooseFor 22 = .ok (.getfield 93, 3) := by decide +kernel
theorem dX2_chooseFor_25 : decode cX2_chooseFor 25 = .ok (.iload_n 1, 1) := by decide +kernel
theorem dX2_chooseFor_26 : decode cX2_chooseFor 26 = .ok (.iaload, 1) := by decide +kernel
theorem dX2_chooseFor_27 : decode cX2_chooseFor 27 = .ok (.istore 5, 2) := by decide +kernel
theorem dX2_chooseFor_29 : decode cX2_chooseFor 29 = .ok (.iconst 0, 1) := by decide +kernel
theorem dX2_chooseFor_30 : decode cX2_chooseFor 30 = .ok (.istore 6, 2) := by decide +kernel
theorem dX2_chooseFor_32 : decode cX2_chooseFor 32 = .ok (.iconst 0, 1) := by decide +kernel
theorem dX2_chooseFor_33 : decode cX2_chooseFor 33 = .ok (.istore 7, 2) := by decide +kernel
theorem dX2_chooseFor_35 : decode cX2_chooseFor 35 = .ok (.iload 7, 2) := by decide +kernel
theorem dX2_chooseFor_37 : decode cX2_chooseFor 37 = .ok (.bipush 6, 2) := by decide +kernel
theorem dX2_chooseFor_39 : decode cX2_chooseFor 39 = .ok (.if_icmp .ge 80, 3) := by decide +kernel
theorem dX2_chooseFor_42 : decode cX2_chooseFor 42 = .ok (.iload 6, 2) := by decide +kernel
theorem dX2_chooseFor_44 : decode cX2_chooseFor 44 = .ok (.iconst 1, 1) := by decide +kernel
theorem dX2_chooseFor_45 : decode cX2_chooseFor 45 = .ok (.iload 5, 2) := by decide +kernel
theorem dX2_chooseFor_47 : decode cX2_chooseFor 47 = .ok (.ishl, 1) := by decide +kernel
theorem dX2_chooseFor_48 : decode cX2_chooseFor 48 = .ok (.iand, 1) := by decide +kernel
theorem dX2_chooseFor_49 : decode cX2_chooseFor 49 = .ok (.ifCond .ne 70, 3) := by decide +kernel
theorem dX2_chooseFor_52 : decode cX2_chooseFor 52 = .ok (.iload 6, 2) := by decide +kernel
theorem dX2_chooseFor_54 : decode cX2_chooseFor 54 = .ok (.iconst 1, 1) := by decide +kernel
theorem dX2_chooseFor_55 : decode cX2_chooseFor 55 = .ok (.iload 5, 2) := by decide +kernel
theorem dX2_chooseFor_57 : decode cX2_chooseFor 57 = .ok (.ishl, 1) := by decide +kernel
theorem dX2_chooseFor_58 : decode cX2_chooseFor 58 = .ok (.ior, 1) := by decide +kernel
theorem dX2_chooseFor_59 : decode cX2_chooseFor 59 = .ok (.istore 6, 2) := by decide +kernel
theorem dX2_chooseFor_61 : decode cX2_chooseFor 61 = .ok (.aload_n 3, 1) := by decide +kernel
theorem dX2_chooseFor_62 : decode cX2_chooseFor 62 = .ok (.dup, 1) := by decide +kernel
theorem dX2_chooseFor_63 : decode cX2_chooseFor 63 = .ok (.getfield 96, 3) := by decide +kernel
theorem dX2_chooseFor_66 : decode cX2_chooseFor 66 = .ok (.iconst 1, 1) := by decide +kernel
theorem dX2_chooseFor_67 : decode cX2_chooseFor 67 = .ok (.iadd, 1) := by decide +kernel
theorem dX2_chooseFor_68 : decode cX2_chooseFor 68 = .ok (.putfield 96, 3) := by decide +kernel
theorem dX2_chooseFor_71 : decode cX2_chooseFor 71 = .ok (.iload 7, 2) := by decide +kernel
theorem dX2_chooseFor_73 : decode cX2_chooseFor 73 = .ok (.ifCond .le 13, 3) := by decide +kernel
theorem dX2_chooseFor_76 : decode cX2_chooseFor 76 = .ok (.aload_n 3, 1) := by decide +kernel
theorem dX2_chooseFor_77 : decode cX2_chooseFor 77 = .ok (.dup, 1) := by decide +kernel
theorem dX2_chooseFor_78 : decode cX2_chooseFor 78 = .ok (.getfield 99, 3) := by decide +kernel
theorem dX2_chooseFor_81 : decode cX2_chooseFor 81 = .ok (.iconst 1, 1) := by decide +kernel
theorem dX2_chooseFor_82 : decode cX2_chooseFor 82 = .ok (.iadd, 1) := by decide +kernel
theorem dX2_chooseFor_83 : decode cX2_chooseFor 83 = .ok (.putfield 99, 3) := by decide +kernel
theorem dX2_chooseFor_86 : decode cX2_chooseFor 86 = .ok (.aload_n 0, 1) := by decide +kernel
theorem dX2_chooseFor_87 : decode cX2_chooseFor 87 = .ok (.aload_n 3, 1) := by decide +kernel
theorem dX2_chooseFor_88 : decode cX2_chooseFor 88 = .ok (.iload 5, 2) := by decide +kernel
theorem dX2_chooseFor_90 : decode cX2_chooseFor 90 = .ok (.iload 4, 2) := by decide +kernel
theorem dX2_chooseFor_92 : decode cX2_chooseFor 92 = .ok (.iload_n 2, 1) := by decide +kernel
theorem dX2_chooseFor_93 : decode cX2_chooseFor 93 = .ok (.invokevirtual 102, 3) := by decide +kernel
theorem dX2_chooseFor_96 : decode cX2_chooseFor 96 = .ok (.aload_n 3, 1) := by decide +kernel
theorem dX2_chooseFor_97 : decode cX2_chooseFor 97 = .ok (.getfield 106, 3) := by decide +kernel
theorem dX2_chooseFor_100 : decode cX2_chooseFor 100 = .ok (.ifCond .le 4, 3) := by decide +kernel
theorem dX2_chooseFor_103 : decode cX2_chooseFor 103 = .ok (.return_, 1) := by decide +kernel
theorem dX2_chooseFor_104 : decode cX2_chooseFor 104 = .ok (.aload_n 0, 1) := by decide +kernel
theorem dX2_chooseFor_105 : decode cX2_chooseFor 105 = .ok (.getfield 33, 3) := by decide +kernel
theorem dX2_chooseFor_108 : decode cX2_chooseFor 108 = .ok (.iload 5, 2) := by decide +kernel
theorem dX2_chooseFor_110 : decode cX2_chooseFor 110 = .ok (.iaload, 1) := by decide +kernel
theorem dX2_chooseFor_111 : decode cX2_chooseFor 111 = .ok (.istore 5, 2) := by decide +kernel
theorem dX2_chooseFor_113 : decode cX2_chooseFor 113 = .ok (.iinc 7 1, 3) := by decide +kernel
theorem dX2_chooseFor_116 : decode cX2_chooseFor 116 = .ok (.goto (-81), 3) := by decide +kernel
theorem dX2_chooseFor_119 : decode cX2_chooseFor 119 = .ok (.aload_n 3, 1) := by decide +kernel
theorem dX2_chooseFor_120 : decode cX2_chooseFor 120 = .ok (.invokevirtual 107, 3) := by decide +kernel
theorem dX2_chooseFor_123 : decode cX2_chooseFor 123 = .ok (.return_, 1) := by decide +kernel
theorem dX2_climb_0 : decode cX2_climb 0 = .ok (.iload_n 3, 1) := by decide +kernel
theorem dX2_climb_1 : decode cX2_climb 1 = .ok (.istore 5, 2) := by decide +kernel
theorem dX2_climb_3 : decode cX2_climb 3 = .ok (.iconst 0, 1) := by decide +kernel
theorem dX2_climb_4 : decode cX2_climb 4 = .ok (.istore 6, 2) := by decide +kernel
theorem dX2_climb_6 : decode cX2_climb 6 = .ok (.iload 6, 2) := by decide +kernel
theorem dX2_climb_8 : decode cX2_climb 8 = .ok (.bipush 7, 2) := by decide +kernel
theorem dX2_climb_10 : decode cX2_climb 10 = .ok (.if_icmp .gt 54, 3) := by decide +kernel
theorem dX2_climb_13 : decode cX2_climb 13 = .ok (.aload_n 0, 1) := by decide +kernel
theorem dX2_climb_14 : decode cX2_climb 14 = .ok (.aload_n 1, 1) := by decide +kernel
theorem dX2_climb_15 : decode cX2_climb 15 = .ok (.iload_n 2, 1) := by decide +kernel
theorem dX2_climb_16 : decode cX2_climb 16 = .ok (.iload 5, 2) := by decide +kernel
theorem dX2_climb_18 : decode cX2_climb 18 = .ok (.iload 4, 2) := by decide +kernel
theorem dX2_climb_20 : decode cX2_climb 20 = .ok (.invokevirtual 110, 3) := by decide +kernel
theorem dX2_climb_23 : decode cX2_climb 23 = .ok (.aload_n 0, 1) := by decide +kernel
theorem dX2_climb_24 : decode cX2_climb 24 = .ok (.getfield 29, 3) := by decide +kernel
theorem dX2_climb_27 : decode cX2_climb 27 = .ok (.iload 5, 2) := by decide +kernel
theorem dX2_climb_29 : decode cX2_climb 29 = .ok (.invokevirtual 113, 3) := by decide +kernel
theorem dX2_climb_32 : decode cX2_climb 32 = .ok (.istore 5, 2) := by decide +kernel
theorem dX2_climb_34 : decode cX2_climb 34 = .ok (.aload_n 1, 1) := by decide +kernel
theorem dX2_climb_35 : decode cX2_climb 35 = .ok (.getfield 106, 3) := by decide +kernel
theorem dX2_climb_38 : decode cX2_climb 38 = .ok (.ifCond .gt 9, 3) := by decide +kernel
theorem dX2_climb_41 : decode cX2_climb 41 = .ok (.iload 5, 2) := by decide +kernel
theorem dX2_climb_43 : decode cX2_climb 43 = .ok (.iconst (-1), 1) := by decide +kernel
theorem dX2_climb_44 : decode cX2_climb 44 = .ok (.if_icmp .ne 4, 3) := by decide +kernel
theorem dX2_climb_47 : decode cX2_climb 47 = .ok (.return_, 1) := by decide +kernel
theorem dX2_climb_48 : decode cX2_climb 48 = .ok (.aload_n 1, 1) := by decide +kernel
theorem dX2_climb_49 : decode cX2_climb 49 = .ok (.dup, 1) := by decide +kernel
theorem dX2_climb_50 : decode cX2_climb 50 = .ok (.getfield 99, 3) := by decide +kernel
theorem dX2_climb_53 : decode cX2_climb 53 = .ok (.iconst 1, 1) := by decide +kernel
theorem dX2_climb_54 : decode cX2_climb 54 = .ok (.iadd, 1) := by decide +kernel
theorem dX2_climb_55 : decode cX2_climb 55 = .ok (.putfield 99, 3) := by decide +kernel
theorem dX2_climb_58 : decode cX2_climb 58 = .ok (.iinc 6 1, 3) := by decide +kernel
theorem dX2_climb_61 : decode cX2_climb 61 = .ok (.goto (-55), 3) := by decide +kernel
theorem dX2_climb_64 : decode cX2_climb 64 = .ok (.return_, 1) := by decide +kernel
theorem dX2_gather_0 : decode cX2_gather 0 = .ok (.iconst 0, 1) := by decide +kernel
theorem dX2_gather_1 : decode cX2_gather 1 = .ok (.istore 5, 2) := by decide +kernel
theorem dX2_gather_3 : decode cX2_gather 3 = .ok (.iload 5, 2) := by decide +kernel
theorem dX2_gather_5 : decode cX2_gather 5 = .ok (.aload_n 0, 1) := by decide +kernel
theorem dX2_gather_6 : decode cX2_gather 6 = .ok (.getfield 21, 3) := by decide +kernel
theorem dX2_gather_9 : decode cX2_gather 9 = .ok (.getfield 83, 3) := by decide +kernel
theorem dX2_gather_12 : decode cX2_gather 12 = .ok (.if_icmp .ge 54, 3) := by decide +kernel
theorem dX2_gather_15 : decode cX2_gather 15 = .ok (.iload 5, 2) := by decide +kernel
theorem dX2_gather_17 : decode cX2_gather 17 = .ok (.iload 4, 2) := by decide +kernel
theorem dX2_gather_19 : decode cX2_gather 19 = .ok (.if_icmp .eq 41, 3) := by decide +kernel
theorem dX2_gather_22 : decode cX2_gather 22 = .ok (.aload_n 0, 1) := by decide +kernel
theorem dX2_gather_23 : decode cX2_gather 23 = .ok (.getfield 21, 3) := by decide +kernel
theorem dX2_gather_26 : decode cX2_gather 26 = .ok (.getfield 116, 3) := by decide +kernel
theorem dX2_gather_29 : decode cX2_gather 29 = .ok (.iload 5, 2) := by decide +kernel
theorem dX2_gather_31 : decode cX2_gather 31 = .ok (.iaload, 1) := by decide +kernel
theorem dX2_gather_32 : decode cX2_gather 32 = .ok (.iload_n 2, 1) := by decide +kernel
theorem dX2_gather_33 : decode cX2_gather 33 = .ok (.if_icmp .ne 27, 3) := by decide +kernel
theorem dX2_gather_36 : decode cX2_gather 36 = .ok (.aload_n 0, 1) := by decide +kernel
theorem dX2_gather_37 : decode cX2_gather 37 = .ok (.getfield 29, 3) := by decide +kernel
theorem dX2_gather_40 : decode cX2_gather 40 = .ok (.aload_n 0, 1) := by decide +kernel
theorem dX2_gather_41 : decode cX2_gather 41 = .ok (.getfield 9, 3) := by decide +kernel
theorem dX2_gather_44 : decode cX2_gather 44 = .ok (.iload 5, 2) := by decide +kernel
theorem dX2_gather_46 : decode cX2_gather 46 = .ok (.iaload, 1) := by decide +kernel
theorem dX2_gather_47 : decode cX2_gather 47 = .ok (.iload_n 3, 1) := by decide +kernel
theorem dX2_gather_48 : decode cX2_gather 48 = .ok (.invokevirtual 117, 3) := by decide +kernel
theorem dX2_gather_51 : decode cX2_gather 51 = .ok (.ifCond .eq 9, 3) := by decide +kernel
theorem dX2_gather_54 : decode cX2_gather 54 = .ok (.aload_n 1, 1) := by decide +kernel
theorem dX2_gather_55 : decode cX2_gather 55 = .ok (.iload 5, 2) := by decide +kernel
theorem dX2_gather_57 : decode cX2_gather 57 = .ok (.invokevirtual 121, 3) := by decide +kernel
theorem dX2_gather_60 : decode cX2_gather 60 = .ok (.iinc 5 1, 3) := by decide +kernel
theorem dX2_gather_63 : decode cX2_gather 63 = .ok (.goto (-60), 3) := by decide +kernel
theorem dX2_gather_66 : decode cX2_gather 66 = .ok (.return_, 1) := by decide +kernel
theorem dX3_init_0 : decode cX3_init 0 = .ok (.aload_n 0, 1) := by decide +kernel
theorem dX3_init_1 : decode cX3_init 1 = .ok (.invokespecial 1, 3) := by decide +kernel
theorem dX3_init_4 : decode cX3_init 4 = .ok (.aload_n 0, 1) := by decide +kernel
theorem dX3_init_5 : decode cX3_init 5 = .ok (.aload_n 1, 1) := by decide +kernel
theorem dX3_init_6 : decode cX3_init 6 = .ok (.putfield 7, 3) := by decide +kernel
theorem dX3_init_9 : decode cX3_init 9 = .ok (.aload_n 0, 1) := by decide +kernel
theorem dX3_init_10 : decode cX3_init 10 = .ok (.aload_n 2, 1) := by decide +kernel
theorem dX3_init_11 : decode cX3_init 11 = .ok (.putfield 13, 3) := by decide +kernel
theorem dX3_init_14 : decode cX3_init 14 = .ok (.return_, 1) := by decide +kernel
theorem dX3_ofFit_0 : decode cX3_ofFit 0 = .ok (.aload_n 0, 1) := by decide +kernel
theorem dX3_ofFit_1 : decode cX3_ofFit 1 = .ok (.getfield 7, 3) := by decide +kernel
theorem dX3_ofFit_4 : decode cX3_ofFit 4 = .ok (.getfield 17, 3) := by decide +kernel
theorem dX3_ofFit_7 : decode cX3_ofFit 7 = .ok (.iload_n 2, 1) := by decide +kernel
theorem dX3_ofFit_8 : decode cX3_ofFit 8 = .ok (.iaload, 1) := by decide +kernel
theorem dX3_ofFit_9 : decode cX3_ofFit 9 = .ok (.aload_n 0, 1) := by decide +kernel
theorem dX3_ofFit_10 : decode cX3_ofFit 10 = .ok (.getfield 13, 3) := by decide +kernel
theorem dX3_ofFit_13 : decode cX3_ofFit 13 = .ok (.getfield 23, 3) := by decide +kernel
theorem dX3_ofFit_16 : decode cX3_ofFit 16 = .ok (.iload_n 3, 1) := by decide +kernel
theorem dX3_ofFit_17 : decode cX3_ofFit 17 = .ok (.iaload, 1) := by decide +kernel
theorem dX3_ofFit_18 : decode cX3_ofFit 18 = .ok (.isub, 1) := by decide +kernel
theorem dX3_ofFit_19 : decode cX3_ofFit 19 = .ok (.invokestatic 26, 3) := by decide +kernel
theorem dX3_ofFit_22 : decode cX3_ofFit 22 = .ok (.istore 4, 2) := by decide +kernel
theorem dX3_ofFit_24 : decode cX3_ofFit 24 = .ok (.iload 4, 2) := by decide +kernel
theorem dX3_ofFit_26 : decode cX3_ofFit 26 = .ok (.aload_n 0, 1) := by decide +kernel
theorem dX3_ofFit_27 : decode cX3_ofFit 27 = .ok (.getfield 7, 3) := by decide +kernel
theorem dX3_ofFit_30 : decode cX3_ofFit 30 = .ok (.getfield 32, 3) := by decide +kernel
theorem dX3_ofFit_33 : decode cX3_ofFit 33 = .ok (.iload_n 2, 1) := by decide +kernel
theorem dX3_ofFit_34 : decode cX3_ofFit 34 = .ok (.iaload, 1) := by decide +kernel
theorem dX3_ofFit_35 : decode cX3_ofFit 35 = .ok (.aload_n 0, 1) := by decide +kernel
theorem dX3_ofFit_36 : decode cX3_ofFit 36 = .ok (.getfield 13, 3) := by decide +kernel
theorem dX3_ofFit_39 : decode cX3_ofFit 39 = .ok (.getfield 35, 3) := by decide +kernel
theorem dX3_ofFit_42 : decode cX3_ofFit 42 = .ok (.iload_n 3, 1) := by decide +kernel
theorem dX3_ofFit_43 : decode cX3_ofFit 43 = .ok (.iaload, 1) := by decide +kernel
theorem dX3_ofFit_44 : decode cX3_ofFit 44 = .ok (.isub, 1) := by decide +kernel
theorem dX3_ofFit_45 : decode cX3_ofFit 45 = .ok (.invokestatic 26, 3) := by decide +kernel
theorem dX3_ofFit_48 : decode cX3_ofFit 48 = .ok (.iadd, 1) := by decide +kernel
theorem dX3_ofFit_49 : decode cX3_ofFit 49 = .ok (.istore 5, 2) := by decide +kernel
theorem dX3_ofFit_51 : decode cX3_ofFit 51 = .ok (.iload_n 1, 1) := by decide +kernel
theorem dX3_ofFit_52 : decode cX3_ofFit 52 = .ok (.tableswitch 68 1 4 #[32, 42, 48, 60], 32) := by decide +kernel
theorem dX3_ofFit_84 : decode cX3_ofFit 84 = .ok (.iload 5, 2) := by decide +kernel
theorem dX3_ofFit_86 : decode cX3_ofFit 86 = .ok (.aload_n 0, 1) := by decide +kernel
theorem dX3_ofFit_87 : decode cX3_ofFit 87 = .ok (.iload_n 2, 1) := by decide +kernel
theorem dX3_ofFit_88 : decode cX3_ofFit 88 = .ok (.iload_n 3, 1) := by decide +kernel
theorem dX3_ofFit_89 : decode cX3_ofFit 89 = .ok (.invokevirtual 36, 3) := by decide +kernel
theorem dX3_ofFit_92 : decode cX3_ofFit 92 = .ok (.iadd, 1) := by decide +kernel
theorem dX3_ofFit_93 : decode cX3_ofFit 93 = .ok (.ireturn, 1) := by decide +kernel
theorem dX3_ofFit_94 : decode cX3_ofFit 94 = .ok (.iload 5, 2) := by decide +kernel
theorem dX3_ofFit_96 : decode cX3_ofFit 96 = .ok (.iload 4, 2) := by decide +kernel
theorem dX3_ofFit_98 : decode cX3_ofFit 98 = .ok (.iadd, 1) := by decide +kernel
theorem dX3_ofFit_99 : decode cX3_ofFit 99 = .ok (.ireturn, 1) := by decide +kernel
theorem dX3_ofFit_100 : decode cX3_ofFit 100 = .ok (.iconst 2, 1) := by decide +kernel
theorem dX3_ofFit_101 : decode cX3_ofFit 101 = .ok (.iload 5, 2) := by decide +kernel
theorem dX3_ofFit_103 : decode cX3_ofFit 103 = .ok (.aload_n 0, 1) := by decide +kernel
theorem dX3_ofFit_104 : decode cX3_ofFit 104 = .ok (.iload_n 2, 1) := by decide +kernel
theorem dX3_ofFit_105 : decode cX3_ofFit 105 = .ok (.iload_n 3, 1) := by decide +kernel
theorem dX3_ofFit_106 : decode cX3_ofFit 106 = .ok (.invokevirtual 36, 3) := by decide +kernel
theorem dX3_ofFit_109 : decode cX3_ofFit 109 = .ok (.iadd, 1) := by decide +kernel
theorem dX3_ofFit_110 : decode cX3_ofFit 110 = .ok (.imul, 1) := by decide +kernel
theorem dX3_ofFit_111 : decode cX3_ofFit 111 = .ok (.ireturn, 1) := by decide +kernel
theorem dX3_ofFit_112 : decode cX3_ofFit 112 = .ok (.iload 5, 2) := by decide +kernel
theorem dX3_ofFit_114 : decode cX3_ofFit 114 = .ok (.iload 4, 2) := by decide +kernel
theorem dX3_ofFit_116 : decode cX3_ofFit 116 = .ok (.iadd, 1) := by decide +kernel
theorem dX3_ofFit_117 : decode cX3_ofFit 117 = .ok (.iconst 2, 1) := by decide +kernel
theorem dX3_ofFit_118 : decode cX3_ofFit 118 = .ok (.idiv, 1) := by decide +kernel
theorem dX3_ofFit_119 : decode cX3_ofFit 119 = .ok (.ireturn, 1) := by decide +kernel
theorem dX3_ofFit_120 : decode cX3_ofFit 120 = .ok (.iload 5, 2) := by decide +kernel
theorem dX3_ofFit_122 : decode cX3_ofFit 122 = .ok (.ireturn, 1) := by decide +kernel
theorem dX3_besidePart_0 : decode cX3_besidePart 0 = .ok (.aload_n 0, 1) := by decide +kernel
theorem dX3_besidePart_1 : decode cX3_besidePart 1 = .ok (.getfield 7, 3) := by decide +kernel
theorem dX3_besidePart_4 : decode cX3_besidePart 4 = .ok (.getfield 40, 3) := by decide +kernel
theorem dX3_besidePart_7 : decode cX3_besidePart 7 = .ok (.iload_n 1, 1) := by decide +kernel
theorem dX3_besidePart_8 : decode cX3_besidePart 8 = .ok (.iaload, 1) := by decide +kernel
theorem dX3_besidePart_9 : decode cX3_besidePart 9 = .ok (.aload_n 0, 1) := by decide +kernel
theorem dX3_besidePart_10 : decode cX3_besidePart 10 = .ok (.getfield 13, 3) := by decide +kernel
theorem dX3_besidePart_13 : decode cX3_besidePart 13 = .ok (.iload_n 2, 1) := by decide +kernel
theorem dX3_besidePart_14 : decode cX3_besidePart 14 = .ok (.invokevirtual 43, 3) := by decide +kernel
theorem dX3_besidePart_17 : decode cX3_besidePart 17 = .ok (.if_icmp .ne 7, 3) := by decide +kernel
theorem dX3_besidePart_20 : decode cX3_besidePart 20 = .ok (.iconst 0, 1) := by decide +kernel
theorem dX3_besidePart_21 : decode cX3_besidePart 21 = .ok (.goto 4, 3) := by decide +kernel
theorem dX3_besidePart_24 : decode cX3_besidePart 24 = .ok (.iconst 2, 1) := by decide +kernel
theorem dX3_besidePart_25 : decode cX3_besidePart 25 = .ok (.istore_n 3, 1) := by decide +kernel
theorem dX3_besidePart_26 : decode cX3_besidePart 26 = .ok (.aload_n 0, 1) := by decide +kernel
theorem dX3_besidePart_27 : decode cX3_besidePart 27 = .ok (.getfield 7, 3) := by decide +kernel
theorem dX3_besidePart_30 : decode cX3_besidePart 30 = .ok (.getfield 46, 3) := by decide +kernel
theorem dX3_besidePart_33 : decode cX3_besidePart 33 = .ok (.iload_n 1, 1) := by decide +kernel
theorem dX3_besidePart_34 : decode cX3_besidePart 34 = .ok (.iaload, 1) := by decide +kernel
theorem dX3_besidePart_35 : decode cX3_besidePart 35 = .ok (.aload_n 0, 1) := by decide +kernel
theorem dX3_besidePart_36 : decode cX3_besidePart 36 = .ok (.getfield 13, 3) := by decide +kernel
theorem dX3_besidePart_39 : decode cX3_besidePart 39 = .ok (.iload_n 2, 1) := by decide +kernel
theorem dX3_besidePart_40 : decode cX3_besidePart 40 = .ok (.invokevirtual 49, 3) := by decide +kernel
theorem dX3_besidePart_43 : decode cX3_besidePart 43 = .ok (.if_icmp .ne 7, 3) := by decide +kernel
theorem dX3_besidePart_46 : decode cX3_besidePart 46 = .ok (.iconst 0, 1) := by decide +kernel
theorem dX3_besidePart_47 : decode cX3_besidePart 47 = .ok (.goto 4, 3) := by decide +kernel
theorem dX3_besidePart_50 : decode cX3_besidePart 50 = .ok (.iconst 2, 1) := by decide +kernel
theorem dX3_besidePart_51 : decode cX3_besidePart 51 = .ok (.istore 4, 2) := by decide +kernel
theorem dX3_besidePart_53 : decode cX3_besidePart 53 = .ok (.iload_n 3, 1) := by decide +kernel
theorem dX3_besidePart_54 : decode cX3_besidePart 54 = .ok (.iload 4, 2) := by decide +kernel
theorem dX3_besidePart_56 : decode cX3_besidePart 56 = .ok (.iadd, 1) := by decide +kernel
theorem dX3_besidePart_57 : decode cX3_besidePart 57 = .ok (.ireturn, 1) := by decide +kernel
theorem dX3_ofJoint_0 : decode cX3_ofJoint 0 = .ok (.aload_n 0, 1) := by decide +kernel
theorem dX3_ofJoint_1 : decode cX3_ofJoint 1 = .ok (.getfield 7, 3) := by decide +kernel
theorem dX3_ofJoint_4 : decode cX3_ofJoint 4 = .ok (.getfield 52, 3) := by decide +kernel
theorem dX3_ofJoint_7 : decode cX3_ofJoint 7 = .ok (.iload_n 1, 1) := by decide +kernel
theorem dX3_ofJoint_8 : decode cX3_ofJoint 8 = .ok (.iaload, 1) := by decide +kernel
theorem dX3_ofJoint_9 : decode cX3_ofJoint 9 = .ok (.iload_n 2, 1) := by decide +kernel
theorem dX3_ofJoint_10 : decode cX3_ofJoint 10 = .ok (.if_icmp .ne 5, 3) := by decide +kernel
theorem dX3_ofJoint_13 : decode cX3_ofJoint 13 = .ok (.iconst 0, 1) := by decide +kernel
theorem dX3_ofJoint_14 : decode cX3_ofJoint 14 = .ok (.ireturn, 1) := by decide +kernel
theorem dX3_ofJoint_15 : decode cX3_ofJoint 15 = .ok (.aload_n 0, 1) := by decide +kernel
theorem dX3_ofJoint_16 : decode cX3_ofJoint 16 = .ok (.getfield 7, 3) := by decide +kernel
theorem dX3_ofJoint_19 : decode cX3_ofJoint 19 = .ok (.getfield 46, 3) := by decide +kernel
theorem dX3_ofJoint_22 : decode cX3_ofJoint 22 = .ok (.iload_n 1, 1) := by decide +kernel
theorem dX3_ofJoint_23 : decode cX3_ofJoint 23 = .ok (.iaload, 1) := by decide +kernel
theorem dX3_ofJoint_24 : decode cX3_ofJoint 24 = .ok (.aload_n 0, 1) := by decide +kernel
theorem dX3_ofJoint_25 : decode cX3_ofJoint 25 = .ok (.getfield 7, 3) := by decide +kernel
theorem dX3_ofJoint_28 : decode cX3_ofJoint 28 = .ok (.getfield 55, 3) := by decide +kernel
theorem dX3_ofJoint_31 : decode cX3_ofJoint 31 = .ok (.iload_n 2, 1) := by decide +kernel
theorem dX3_ofJoint_32 : decode cX3_ofJoint 32 = .ok (.iaload, 1) := by decide +kernel
theorem dX3_ofJoint_33 : decode cX3_ofJoint 33 = .ok (.if_icmp .ne 7, 3) := by decide +kernel
theorem dX3_ofJoint_36 : decode cX3_ofJoint 36 = .ok (.iconst 0, 1) := by decide +kernel
theorem dX3_ofJoint_37 : decode cX3_ofJoint 37 = .ok (.goto 4, 3) := by decide +kernel
theorem dX3_ofJoint_40 : decode cX3_ofJoint 40 = .ok (.iconst 2, 1) := by decide +kernel
theorem dX3_ofJoint_41 : decode cX3_ofJoint 41 = .ok (.istore_n 3, 1) := by decide +kernel
theorem dX3_ofJoint_42 : decode cX3_ofJoint 42 = .ok (.aload_n 0, 1) := by decide +kernel
theorem dX3_ofJoint_43 : decode cX3_ofJoint 43 = .ok (.getfield 7, 3) := by decide +kernel
theorem dX3_ofJoint_46 : decode cX3_ofJoint 46 = .ok (.getfield 40, 3) := by decide +kernel
theorem dX3_ofJoint_49 : decode cX3_ofJoint 49 = .ok (.iload_n 2, 1) := by decide +kernel
theorem dX3_ofJoint_50 : decode cX3_ofJoint 50 = .ok (.iaload, 1) := by decide +kernel
theorem dX3_ofJoint_51 : decode cX3_ofJoint 51 = .ok (.aload_n 0, 1) := by decide +kernel
theorem dX3_ofJoint_52 : decode cX3_ofJoint 52 = .ok (.getfield 7, 3) := by decide +kernel
theorem dX3_ofJoint_55 : decode cX3_ofJoint 55 = .ok (.getfield 55, 3) := by decide +kernel
theorem dX3_ofJoint_58 : decode cX3_ofJoint 58 = .ok (.iload_n 1, 1) := by decide +kernel
theorem dX3_ofJoint_59 : decode cX3_ofJoint 59 = .ok (.iaload, 1) := by decide +kernel
theorem dX3_ofJoint_60 : decode cX3_ofJoint 60 = .ok (.if_icmp .ne 7, 3) := by decide +kernel
theorem dX3_ofJoint_63 : decode cX3_ofJoint 63 = .ok (.iconst 0, 1) := by decide +kernel
theorem dX3_ofJoint_64 : decode cX3_ofJoint 64 = .ok (.goto 4, 3) := by decide +kernel
theorem dX3_ofJoint_67 : decode cX3_ofJoint 67 = .ok (.iconst 2, 1) := by decide +kernel
theorem dX3_ofJoint_68 : decode cX3_ofJoint 68 = .ok (.istore 4, 2) := by decide +kernel
theorem dX3_ofJoint_70 : decode cX3_ofJoint 70 = .ok (.iconst 3, 1) := by decide +kernel
theorem dX3_ofJoint_71 : decode cX3_ofJoint 71 = .ok (.aload_n 0, 1) := by decide +kernel
theorem dX3_ofJoint_72 : decode cX3_ofJoint 72 = .ok (.getfield 7, 3) := by decide +kernel
theorem dX3_ofJoint_75 : decode cX3_ofJoint 75 = .ok (.getfield 17, 3) := by decide +kernel
theorem dX3_ofJoint_78 : decode cX3_ofJoint 78 = .ok (.iload_n 1, 1) := by decide +kernel
theorem dX3_ofJoint_79 : decode cX3_ofJoint 79 = .ok (.iaload, 1) := by decide +kernel
theorem dX3_ofJoint_80 : decode cX3_ofJoint 80 = .ok (.aload_n 0, 1) := by decide +kernel
theorem dX3_ofJoint_81 : decode cX3_ofJoint 81 = .ok (.getfield 7, 3) := by decide +kernel
theorem dX3_ofJoint_84 : decode cX3_ofJoint 84 = .ok (.getfield 17, 3) := by decide +kernel
theorem dX3_ofJoint_87 : decode cX3_ofJoint 87 = .ok (.iload_n 2, 1) := by decide +kernel
theorem dX3_ofJoint_88 : decode cX3_ofJoint 88 = .ok (.iaload, 1) := by decide +kernel
theorem dX3_ofJoint_89 : decode cX3_ofJoint 89 = .ok (.isub, 1) := by decide +kernel
theorem dX3_ofJoint_90 : decode cX3_ofJoint 90 = .ok (.invokestatic 26, 3) := by decide +kernel
theorem dX3_ofJoint_93 : decode cX3_ofJoint 93 = .ok (.iadd, 1) := by decide +kernel
theorem dX3_ofJoint_94 : decode cX3_ofJoint 94 = .ok (.iload_n 3, 1) := by decide +kernel
theorem dX3_ofJoint_95 : decode cX3_ofJoint 95 = .ok (.iadd, 1) := by decide +kernel
theorem dX3_ofJoint_96 : decode cX3_ofJoint 96 = .ok (.iload 4, 2) := by decide +kernel
theorem dX3_ofJoint_98 : decode cX3_ofJoint 98 = .ok (.iadd, 1) := by decide +kernel
theorem dX3_ofJoint_99 : decode cX3_ofJoint 99 = .ok (.ireturn, 1) := by decide +kernel
theorem dX4_init_0 : decode cX4_init 0 = .ok (.aload_n 0, 1) := by decide +kernel
theorem dX4_init_1 : decode cX4_init 1 = .ok (.invokespecial 3, 3) := by decide +kernel
theorem dX4_init_4 : decode cX4_init 4 = .ok (.aload_n 0, 1) := by decide +kernel
theorem dX4_init_5 : decode cX4_init 5 = .ok (.bipush 8, 2) := by decide +kernel
theorem dX4_init_7 : decode cX4_init 7 = .ok (.newarray .int, 2) := by decide +kernel
theorem dX4_init_9 : decode cX4_init 9 = .ok (.putfield 9, 3) := by decide +kernel
theorem dX4_init_12 : decode cX4_init 12 = .ok (.aload_n 0, 1) := by decide +kernel
theorem dX4_init_13 : decode cX4_init 13 = .ok (.bipush 8, 2) := by decide +kernel
theorem dX4_init_15 : decode cX4_init 15 = .ok (.newarray .int, 2) := by decide +kernel
theorem dX4_init_17 : decode cX4_init 17 = .ok (.putfield 15, 3) := by decide +kernel
theorem dX4_init_20 : decode cX4_init 20 = .ok (.aload_n 0, 1) := by decide +kernel
theorem dX4_init_21 : decode cX4_init 21 = .ok (.bipush 8, 2) := by decide +kernel
theorem dX4_init_23 : decode cX4_init 23 = .ok (.newarray .int, 2) := by decide +kernel
theorem dX4_init_25 : decode cX4_init 25 = .ok (.putfield 18, 3) := by decide +kernel
theorem dX4_init_28 : decode cX4_init 28 = .ok (.return_, 1) := by decide +kernel
theorem dX4_add_0 : decode cX4_add 0 = .ok (.aload_n 0, 1) := by decide +kernel
theorem dX4_add_1 : decode cX4_add 1 = .ok (.getfield 21, 3) := by decide +kernel
theorem dX4_add_4 : decode cX4_add 4 = .ok (.ifCond .lt 52, 3) := by decide +kernel
theorem dX4_add_7 : decode cX4_add 7 = .ok (.aload_n 0, 1) := by decide +kernel
theorem dX4_add_8 : decode cX4_add 8 = .ok (.getfield 21, 3) := by decide +kernel
theorem dX4_add_11 : decode cX4_add 11 = .ok (.bipush 8, 2) := by decide +kernel
theorem dX4_add_13 : decode cX4_add 13 = .ok (.if_icmp .ge 43, 3) := by decide +kernel
theorem dX4_add_16 : decode cX4_add 16 = .ok (.aload_n 0, 1) := by decide +kernel
theorem dX4_add_17 : decode cX4_add 17 = .ok (.getfield 9, 3) := by decide +kernel
theorem dX4_add_20 : decode cX4_add 20 = .ok (.aload_n 0, 1) := by decide +kernel
theorem dX4_add_21 : decode cX4_add 21 = .ok (.getfield 21, 3) := by decide +kernel
theorem dX4_add_24 : decode cX4_add 24 = .ok (.iload_n 1, 1) := by decide +kernel
theorem dX4_add_25 : decode cX4_add 25 = .ok (.iastore, 1) := by decide +kernel
theorem dX4_add_26 : decode cX4_add 26 = .ok (.aload_n 0, 1) := by decide +kernel
theorem dX4_add_27 : decode cX4_add 27 = .ok (.getfield 15, 3) := by decide +kernel
theorem dX4_add_30 : decode cX4_add 30 = .ok (.aload_n 0, 1) := by decide +kernel
theorem dX4_add_31 : decode cX4_add 31 = .ok (.getfield 21, 3) := by decide +kernel
theorem dX4_add_34 : decode cX4_add 34 = .ok (.iload_n 2, 1) := by decide +kernel
theorem dX4_add_35 : decode cX4_add 35 = .ok (.iastore, 1) := by decide +kernel
theorem dX4_add_36 : decode cX4_add 36 = .ok (.aload_n 0, 1) := by decide +kernel
theorem dX4_add_37 : decode cX4_add 37 = .ok (.getfield 18, 3) := by decide +kernel
theorem dX4_add_40 : decode cX4_add 40 = .ok (.aload_n 0, 1) := by decide +kernel
theorem dX4_add_41 : decode cX4_add 41 = .ok (.getfield 21, 3) := by decide +kernel
theorem dX4_add_44 : decode cX4_add 44 = .ok (.iload_n 3, 1) := by decide +kernel
theorem dX4_add_45 : decode cX4_add 45 = .ok (.iastore, 1) := by decide +kernel
theorem dX4_add_46 : decode cX4_add 46 = .ok (.aload_n 0, 1) := by decide +kernel
theorem dX4_add_47 : decode cX4_add 47 = .ok (.dup, 1) := by decide +kernel
theorem dX4_add_48 : decode cX4_add 48 = .ok (.getfield 21, 3) := by decide +kernel
theorem dX4_add_51 : decode cX4_add 51 = .ok (.iconst 1, 1) := by decide +kernel
theorem dX4_add_52 : decode cX4_add 52 = .ok (.iadd, 1) := by decide +kernel
theorem dX4_add_53 : decode cX4_add 53 = .ok (.putfield 21, 3) := by decide +kernel
theorem dX4_add_56 : decode cX4_add 56 = .ok (.return_, 1) := by decide +kernel
theorem dX4_become_0 : decode cX4_become 0 = .ok (.aload_n 0, 1) := by decide +kernel
theorem dX4_become_1 : decode cX4_become 1 = .ok (.iconst 0, 1) := by decide +kernel
theorem dX4_become_2 : decode cX4_become 2 = .ok (.putfield 21, 3) := by decide +kernel
theorem dX4_become_5 : decode cX4_become 5 = .ok (.iconst 0, 1) := by decide +kernel
theorem dX4_become_6 : decode cX4_become 6 = .ok (.istore_n 2, 1) := by decide +kernel
theorem dX4_become_7 : decode cX4_become 7 = .ok (.iload_n 2, 1) := by decide +kernel
theorem dX4_become_8 : decode cX4_become 8 = .ok (.bipush 8, 2) := by decide +kernel
theorem dX4_become_10 : decode cX4_become 10 = .ok (.if_icmp .ge 39, 3) := by decide +kernel
theorem dX4_become_13 : decode cX4_become 13 = .ok (.iload_n 2, 1) := by decide +kernel
theorem dX4_become_14 : decode cX4_become 14 = .ok (.aload_n 1, 1) := by decide +kernel
theorem dX4_become_15 : decode cX4_become 15 = .ok (.getfield 21, 3) := by decide +kernel
theorem dX4_become_18 : decode cX4_become 18 = .ok (.if_icmp .ge 31, 3) := by decide +kernel
theorem dX4_become_21 : decode cX4_become 21 = .ok (.aload_n 0, 1) := by decide +kernel
theorem dX4_become_22 : decode cX4_become 22 = .ok (.aload_n 1, 1) := by decide +kernel
theorem dX4_become_23 : decode cX4_become 23 = .ok (.getfield 9, 3) := by decide +kernel
theorem dX4_become_26 : decode cX4_become 26 = .ok (.iload_n 2, 1) := by decide +kernel
theorem dX4_become_27 : decode cX4_become 27 = .ok (.iaload, 1) := by decide +kernel
theorem dX4_become_28 : decode cX4_become 28 = .ok (.aload_n 1, 1) := by decide +kernel
theorem dX4_become_29 : decode cX4_become 29 = .ok (.getfield 15, 3) := by decide +kernel
theorem dX4_become_32 : decode cX4_become 32 = .ok (.iload_n 2, 1) := by decide +kernel
theorem dX4_become_33 : decode cX4_become 33 = .ok (.iaload, 1) := by decide +kernel
theorem dX4_become_34 : decode cX4_become 34 = .ok (.aload_n 1, 1) := by decide +kernel
theorem dX4_become_35 : decode cX4_become 35 = .ok (.getfield 18, 3) := by decide +kernel
theorem dX4_become_38 : decode cX4_become 38 = .ok (.iload_n 2, 1) := by decide +kernel
theorem dX4_become_39 : decode cX4_become 39 = .ok (.iaload, 1) := by decide +kernel
theorem dX4_become_40 : decode cX4_become 40 = .ok (.invokevirtual 25, 3) := by decide +kernel
theorem dX4_become_43 : decode cX4_become 43 = .ok (.iinc 2 1, 3) := by decide +kernel
theorem dX4_become_46 : decode cX4_become 46 = .ok (.goto (-39), 3) := by decide +kernel
theorem dX4_become_49 : decode cX4_become 49 = .ok (.return_, 1) := by decide +kernel
theorem dX4_leftOf_0 : decode cX4_leftOf 0 = .ok (.iload_n 1, 1) := by decide +kernel
theorem dX4_leftOf_1 : decode cX4_leftOf 1 = .ok (.ifCond .le 22, 3) := by decide +kernel
theorem dX4_leftOf_4 : decode cX4_leftOf 4 = .ok (.iload_n 1, 1) := by decide +kernel
theorem dX4_leftOf_5 : decode cX4_leftOf 5 = .ok (.aload_n 0, 1) := by decide +kernel
theorem dX4_leftOf_6 : decode cX4_leftOf 6 = .ok (.getfield 21, 3) := by decide +kernel
theorem dX4_leftOf_9 : decode cX4_leftOf 9 = .ok (.if_icmp .ge 14, 3) := by decide +kernel
theorem dX4_leftOf_12 : decode cX4_leftOf 12 = .ok (.aload_n 0, 1) := by decide +kernel
theorem dX4_leftOf_13 : decode cX4_leftOf 13 = .ok (.getfield 9, 3) := by decide +kernel
theorem dX4_leftOf_16 : decode cX4_leftOf 16 = .ok (.iload_n 1, 1) := by decide +kernel
theorem dX4_leftOf_17 : decode cX4_leftOf 17 = .ok (.iconst 1, 1) := by decide +kernel
theorem dX4_leftOf_18 : decode cX4_leftOf 18 = .ok (.isub, 1) := by decide +kernel
theorem dX4_leftOf_19 : decode cX4_leftOf 19 = .ok (.iaload, 1) := by decide +kernel
theorem dX4_leftOf_20 : decode cX4_leftOf 20 = .ok (.goto 5, 3) := by decide +kernel
theorem dX4_leftOf_23 : decode cX4_leftOf 23 = .ok (.bipush 6, 2) := by decide +kernel
theorem dX4_leftOf_25 : decode cX4_leftOf 25 = .ok (.ireturn, 1) := by decide +kernel
theorem dX4_rightOf_0 : decode cX4_rightOf 0 = .ok (.iload_n 1, 1) := by decide +kernel
theorem dX4_rightOf_1 : decode cX4_rightOf 1 = .ok (.ifCond .lt 24, 3) := by decide +kernel
theorem dX4_rightOf_4 : decode cX4_rightOf 4 = .ok (.iload_n 1, 1) := by decide +kernel
theorem dX4_rightOf_5 : decode cX4_rightOf 5 = .ok (.aload_n 0, 1) := by decide +kernel
theorem dX4_rightOf_6 : decode cX4_rightOf 6 = .ok (.getfield 21, 3) := by decide +kernel
theorem dX4_rightOf_9 : decode cX4_rightOf 9 = .ok (.iconst 1, 1) := by decide +kernel
theorem dX4_rightOf_10 : decode cX4_rightOf 10 = .ok (.isub, 1) := by decide +kernel
theorem dX4_rightOf_11 : decode cX4_rightOf 11 = .ok (.if_icmp .ge 14, 3) := by decide +kernel
theorem dX4_rightOf_14 : decode cX4_rightOf 14 = .ok (.aload_n 0, 1) := by decide +kernel
theorem dX4_rightOf_15 : decode cX4_rightOf 15 = .ok (.getfield 9, 3) := by decide +kernel
theorem dX4_rightOf_18 : decode cX4_rightOf 18 = .ok (.iload_n 1, 1) := by decide +kernel
theorem dX4_rightOf_19 : decode cX4_rightOf 19 = .ok (.iconst 1, 1) := by decide +kernel
theorem dX4_rightOf_20 : decode cX4_rightOf 20 = .ok (.iadd, 1) := by decide +kernel
theorem dX4_rightOf_21 : decode cX4_rightOf 21 = .ok (.iaload, 1) := by decide +kernel
theorem dX4_rightOf_22 : decode cX4_rightOf 22 = .ok (.goto 5, 3) := by decide +kernel
theorem dX4_rightOf_25 : decode cX4_rightOf 25 = .ok (.bipush 6, 2) := by decide +kernel
theorem dX4_rightOf_27 : decode cX4_rightOf 27 = .ok (.ireturn, 1) := by decide +kernel
theorem dX5_init_0 : decode cX5_init 0 = .ok (.aload_n 0, 1) := by decide +kernel
theorem dX5_init_1 : decode cX5_init 1 = .ok (.invokespecial 3, 3) := by decide +kernel
theorem dX5_init_4 : decode cX5_init 4 = .ok (.iload_n 1, 1) := by decide +kernel
theorem dX5_init_5 : decode cX5_init 5 = .ok (.iconst 0, 1) := by decide +kernel
theorem dX5_init_6 : decode cX5_init 6 = .ok (.invokestatic 9, 3) := by decide +kernel
theorem dX5_init_9 : decode cX5_init 9 = .ok (.istore_n 2, 1) := by decide +kernel
theorem dX5_init_10 : decode cX5_init 10 = .ok (.aload_n 0, 1) := by decide +kernel
theorem dX5_init_11 : decode cX5_init 11 = .ok (.iload_n 2, 1) := by decide +kernel
theorem dX5_init_12 : decode cX5_init 12 = .ok (.newarray .int, 2) := by decide +kernel
theorem dX5_init_14 : decode cX5_init 14 = .ok (.putfield 15, 3) := by decide +kernel
theorem dX5_init_17 : decode cX5_init 17 = .ok (.aload_n 0, 1) := by decide +kernel
theorem dX5_init_18 : decode cX5_init 18 = .ok (.iload_n 2, 1) := by decide +kernel
theorem dX5_init_19 : decode cX5_init 19 = .ok (.newarray .int, 2) := by decide +kernel
theorem dX5_init_21 : decode cX5_init 21 = .ok (.putfield 21, 3) := by decide +kernel
theorem dX5_init_24 : decode cX5_init 24 = .ok (.aload_n 0, 1) := by decide +kernel
theorem dX5_init_25 : decode cX5_init 25 = .ok (.iload_n 2, 1) := by decide +kernel
theorem dX5_init_26 : decode cX5_init 26 = .ok (.newarray .int, 2) := by decide +kernel
theorem dX5_init_28 : decode cX5_init 28 = .ok (.putfield 24, 3) := by decide +kernel
theorem dX5_init_31 : decode cX5_init 31 = .ok (.aload_n 0, 1) := by decide +kernel
theorem dX5_init_32 : decode cX5_init 32 = .ok (.iload_n 2, 1) := by decide +kernel
theorem dX5_init_33 : decode cX5_init 33 = .ok (.newarray .int, 2) := by decide +kernel
theorem dX5_init_35 : decode cX5_init 35 = .ok (.putfield 27, 3) := by decide +kernel
theorem dX5_init_38 : decode cX5_init 38 = .ok (.aload_n 0, 1) := by decide +kernel
theorem dX5_init_39 : decode cX5_init 39 = .ok (.iload_n 2, 1) := by decide +kernel
theorem dX5_init_40 : decode cX5_init 40 = .ok (.newarray .int, 2) := by decide +kernel
theorem dX5_init_42 : decode cX5_init 42 = .ok (.putfield 30, 3) := by decide +kernel
theorem dX5_init_45 : decode cX5_init 45 = .ok (.return_, 1) := by decide +kernel
theorem dX5_begin_0 : decode cX5_begin 0 = .ok (.aload_n 0, 1) := by decide +kernel
theorem dX5_begin_1 : decode cX5_begin 1 = .ok (.getfield 15, 3) := by decide +kernel
theorem dX5_begin_4 : decode cX5_begin 4 = .ok (.iload_n 1, 1) := by decide +kernel
theorem dX5_begin_5 : decode cX5_begin 5 = .ok (.ldc 33, 2) := by decide +kernel
theorem dX5_begin_7 : decode cX5_begin 7 = .ok (.iastore, 1) := by decide +kernel
theorem dX5_begin_8 : decode cX5_begin 8 = .ok (.aload_n 0, 1) := by decide +kernel
theorem dX5_begin_9 : decode cX5_begin 9 = .ok (.getfield 21, 3) := by decide +kernel
theorem dX5_begin_12 : decode cX5_begin 12 = .ok (.iload_n 1, 1) := by decide +kernel
theorem dX5_begin_13 : decode cX5_begin 13 = .ok (.ldc 33, 2) := by decide +kernel
theorem dX5_begin_15 : decode cX5_begin 15 = .ok (.iastore, 1) := by decide +kernel
theorem dX5_begin_16 : decode cX5_begin 16 = .ok (.aload_n 0, 1) := by decide +kernel
theorem dX5_begin_17 : decode cX5_begin 17 = .ok (.getfield 24, 3) := by decide +kernel
theorem dX5_begin_20 : decode cX5_begin 20 = .ok (.iload_n 1, 1) := by decide +kernel
theorem dX5_begin_21 : decode cX5_begin 21 = .ok (.iconst 0, 1) := by decide +kernel
theorem dX5_begin_22 : decode cX5_begin 22 = .ok (.iastore, 1) := by decide +kernel
theorem dX5_begin_23 : decode cX5_begin 23 = .ok (.aload_n 0, 1) := by decide +kernel
theorem dX5_begin_24 : decode cX5_begin 24 = .ok (.getfield 27, 3) := by decide +kernel
theorem dX5_begin_27 : decode cX5_begin 27 = .ok (.iload_n 1, 1) := by decide +kernel
theorem dX5_begin_28 : decode cX5_begin 28 = .ok (.iconst 0, 1) := by decide +kernel
theorem dX5_begin_29 : decode cX5_begin 29 = .ok (.iastore, 1) := by decide +kernel
theorem dX5_begin_30 : decode cX5_begin 30 = .ok (.aload_n 0, 1) := by decide +kernel
theorem dX5_begin_31 : decode cX5_begin 31 = .ok (.getfield 30, 3) := by decide +kernel
theorem dX5_begin_34 : decode cX5_begin 34 = .ok (.iload_n 1, 1) := by decide +kernel
theorem dX5_begin_35 : decode cX5_begin 35 = .ok (.iconst 0, 1) := by decide +kernel
theorem dX5_begin_36 : decode cX5_begin 36 = .ok (.iastore, 1) := by decide +kernel
theorem dX5_begin_37 : decode cX5_begin 37 = .ok (.return_, 1) := by decide +kernel
theorem dX5_end_0 : decode cX5_end 0 = .ok (.aload_n 0, 1) := by decide +kernel
theorem dX5_end_1 : decode cX5_end 1 = .ok (.iload_n 1, 1) := by decide +kernel
theorem dX5_end_2 : decode cX5_end 2 = .ok (.invokevirtual 34, 3) := by decide +kernel
theorem dX5_end_5 : decode cX5_end 5 = .ok (.aload_n 0, 1) := by decide +kernel
theorem dX5_end_6 : decode cX5_end 6 = .ok (.getfield 15, 3) := by decide +kernel
theorem dX5_end_9 : decode cX5_end 9 = .ok (.iload_n 1, 1) := by decide +kernel
theorem dX5_end_10 : decode cX5_end 10 = .ok (.iconst 0, 1) := by decide +kernel
theorem dX5_end_11 : decode cX5_end 11 = .ok (.iastore, 1) := by decide +kernel
theorem dX5_end_12 : decode cX5_end 12 = .ok (.aload_n 0, 1) := by decide +kernel
theorem dX5_end_13 : decode cX5_end 13 = .ok (.getfield 27, 3) := by decide +kernel
theorem dX5_end_16 : decode cX5_end 16 = .ok (.iload_n 1, 1) := by decide +kernel
theorem dX5_end_17 : decode cX5_end 17 = .ok (.iconst 1, 1) := by decide +kernel
theorem dX5_end_18 : decode cX5_end 18 = .ok (.iastore, 1) := by decide +kernel
theorem dX5_end_19 : decode cX5_end 19 = .ok (.return_, 1) := by decide +kernel
theorem dX5_offer_0 : decode cX5_offer 0 = .ok (.iload_n 2, 1) := by decide +kernel
theorem dX5_offer_1 : decode cX5_offer 1 = .ok (.aload_n 3, 1) := by decide +kernel
theorem dX5_offer_2 : decode cX5_offer 2 = .ok (.getfield 15, 3) := by decide +kernel
theorem dX5_offer_5 : decode cX5_offer 5 = .ok (.iload 4, 2) := by decide +kernel
theorem dX5_offer_7 : decode cX5_offer 7 = .ok (.iaload, 1) := by decide +kernel
theorem dX5_offer_8 : decode cX5_offer 8 = .ok (.iadd, 1) := by decide +kernel
theorem dX5_offer_9 : decode cX5_offer 9 = .ok (.istore 5, 2) := by decide +kernel
theorem dX5_offer_11 : decode cX5_offer 11 = .ok (.aload_n 0, 1) := by decide +kernel
theorem dX5_offer_12 : decode cX5_offer 12 = .ok (.getfield 24, 3) := by decide +kernel
theorem dX5_offer_15 : decode cX5_offer 15 = .ok (.iload_n 1, 1) := by decide +kernel
theorem dX5_offer_16 : decode cX5_offer 16 = .ok (.aload_n 0, 1) := by decide +kernel
theorem dX5_offer_17 : decode cX5_offer 17 = .ok (.getfield 24, 3) := by decide +kernel
theorem dX5_offer_20 : decode cX5_offer 20 = .ok (.iload_n 1, 1) := by decide +kernel
theorem dX5_offer_21 : decode cX5_offer 21 = .ok (.iaload, 1) := by decide +kernel
theorem dX5_offer_22 : decode cX5_offer 22 = .ok (.iload_n 2, 1) := by decide +kernel
theorem dX5_offer_23 : decode cX5_offer 23 = .ok (.aload_n 3, 1) := by decide +kernel
theorem dX5_offer_24 : decode cX5_offer 24 = .ok (.getfield 24, 3) := by decide +kernel
theorem dX5_offer_27 : decode cX5_offer 27 = .ok (.iload 4, 2) := by decide +kernel
theorem dX5_offer_29 : decode cX5_offer 29 = .ok (.iaload, 1) := by decide +kernel
theorem dX5_offer_30 : decode cX5_offer 30 = .ok (.iadd, 1) := by decide +kernel
theorem dX5_offer_31 : decode cX5_offer 31 = .ok (.invokestatic 9, 3) := by decide +kernel
theorem dX5_offer_34 : decode cX5_offer 34 = .ok (.iastore, 1) := by decide +kernel
theorem dX5_offer_35 : decode cX5_offer 35 = .ok (.iload 5, 2) := by decide +kernel
theorem dX5_offer_37 : decode cX5_offer 37 = .ok (.aload_n 0, 1) := by decide +kernel
theorem dX5_offer_38 : decode cX5_offer 38 = .ok (.getfield 15, 3) := by decide +kernel
theorem dX5_offer_41 : decode cX5_offer 41 = .ok (.iload_n 1, 1) := by decide +kernel
theorem dX5_offer_42 : decode cX5_offer 42 = .ok (.iaload, 1) := by decide +kernel
theorem dX5_offer_43 : decode cX5_offer 43 = .ok (.if_icmp .ge 57, 3) := by decide +kernel
theorem dX5_offer_46 : decode cX5_offer 46 = .ok (.aload_n 0, 1) := by decide +kernel
theorem dX5_offer_47 : decode cX5_offer 47 = .ok (.getfield 21, 3) := by decide +kernel
theorem dX5_offer_50 : decode cX5_offer 50 = .ok (.iload_n 1, 1) := by decide +kernel
theorem dX5_offer_51 : decode cX5_offer 51 = .ok (.aload_n 0, 1) := by decide +kernel
theorem dX5_offer_52 : decode cX5_offer 52 = .ok (.getfield 15, 3) := by decide +kernel
theorem dX5_offer_55 : decode cX5_offer 55 = .ok (.iload_n 1, 1) := by decide +kernel
theorem dX5_offer_56 : decode cX5_offer 56 = .ok (.iaload, 1) := by decide +kernel
theorem dX5_offer_57 : decode cX5_offer 57 = .ok (.iload_n 2, 1) := by decide +kernel
theorem dX5_offer_58 : decode cX5_offer 58 = .ok (.aload_n 3, 1) := by decide +kernel
theorem dX5_offer_59 : decode cX5_offer 59 = .ok (.getfield 21, 3) := by decide +kernel
theorem dX5_offer_62 : decode cX5_offer 62 = .ok (.iload 4, 2) := by decide +kernel
theorem dX5_offer_64 : decode cX5_offer 64 = .ok (.iaload, 1) := by decide +kernel
theorem dX5_offer_65 : decode cX5_offer 65 = .ok (.iadd, 1) := by decide +kernel
theorem dX5_offer_66 : decode cX5_offer 66 = .ok (.invokestatic 38, 3) := by decide +kernel
theorem dX5_offer_69 : decode cX5_offer 69 = .ok (.iastore, 1) := by decide +kernel
theorem dX5_offer_70 : decode cX5_offer 70 = .ok (.aload_n 0, 1) := by decide +kernel
theorem dX5_offer_71 : decode cX5_offer 71 = .ok (.getfield 15, 3) := by decide +kernel
theorem dX5_offer_74 : decode cX5_offer 74 = .ok (.iload_n 1, 1) := by decide +kernel
theorem dX5_offer_75 : decode cX5_offer 75 = .ok (.iload 5, 2) := by decide +kernel
theorem dX5_offer_77 : decode cX5_offer 77 = .ok (.iastore, 1) := by decide +kernel
theorem dX5_offer_78 : decode cX5_offer 78 = .ok (.aload_n 0, 1) := by decide +kernel
theorem dX5_offer_79 : decode cX5_offer 79 = .ok (.getfield 27, 3) := by decide +kernel
theorem dX5_offer_82 : decode cX5_offer 82 = .ok (.iload_n 1, 1) := by decide +kernel
theorem dX5_offer_83 : decode cX5_offer 83 = .ok (.aload_n 3, 1) := by decide +kernel
theorem dX5_offer_84 : decode cX5_offer 84 = .ok (.getfield 27, 3) := by decide +kernel
theorem dX5_offer_87 : decode cX5_offer 87 = .ok (.iload 4, 2) := by decide +kernel
theorem dX5_offer_89 : decode cX5_offer 89 = .ok (.iaload, 1) := by decide +kernel
theorem dX5_offer_90 : decode cX5_offer 90 = .ok (.iastore, 1) := by decide +kernel
theorem dX5_offer_91 : decode cX5_offer 91 = .ok (.aload_n 0, 1) := by decide +kernel
theorem dX5_offer_92 : decode cX5_offer 92 = .ok (.getfield 30, 3) := by decide +kernel
theorem dX5_offer_95 : decode cX5_offer 95 = .ok (.iload_n 1, 1) := by decide +kernel
theorem dX5_offer_96 : decode cX5_offer 96 = .ok (.iload 4, 2) := by decide +kernel
theorem dX5_offer_98 : decode cX5_offer 98 = .ok (.iastore, 1) := by decide +kernel
theorem dX5_offer_99 : decode cX5_offer 99 = .ok (.return_, 1) := by decide +kernel
theorem dX5_offer_100 : decode cX5_offer 100 = .ok (.aload_n 0, 1) := by decide +kernel
theorem dX5_offer_101 : decode cX5_offer 101 = .ok (.getfield 21, 3) := by decide +kernel
theorem dX5_offer_104 : decode cX5_offer 104 = .ok (.iload_n 1, 1) := by decide +kernel
theorem dX5_offer_105 : decode cX5_offer 105 = .ok (.aload_n 0, 1) := by decide +kernel
theorem dX5_offer_106 : decode cX5_offer 106 = .ok (.getfield 21, 3) := by decide +kernel
theorem dX5_offer_109 : decode cX5_offer 109 = .ok (.iload_n 1, 1) := by decide +kernel
theorem dX5_offer_110 : decode cX5_offer 110 = .ok (.iaload, 1) := by decide +kernel
theorem dX5_offer_111 : decode cX5_offer 111 = .ok (.iload 5, 2) := by decide +kernel
theorem dX5_offer_113 : decode cX5_offer 113 = .ok (.invokestatic 38, 3) := by decide +kernel
theorem dX5_offer_116 : decode cX5_offer 116 = .ok (.iastore, 1) := by decide +kernel
theorem dX5_offer_117 : decode cX5_offer 117 = .ok (.iload 5, 2) := by decide +kernel
theorem dX5_offer_119 : decode cX5_offer 119 = .ok (.aload_n 0, 1) := by decide +kernel
theorem dX5_offer_120 : decode cX5_offer 120 = .ok (.getfield 15, 3) := by decide +kernel
theorem dX5_offer_123 : decode cX5_offer 123 = .ok (.iload_n 1, 1) := by decide +kernel
theorem dX5_offer_124 : decode cX5_offer 124 = .ok (.iaload, 1) := by decide +kernel
theorem dX5_offer_125 : decode cX5_offer 125 = .ok (.if_icmp .ne 28, 3) := by decide +kernel
theorem dX5_offer_128 : decode cX5_offer 128 = .ok (.aload_n 0, 1) := by decide +kernel
theorem dX5_offer_129 : decode cX5_offer 129 = .ok (.getfield 27, 3) := by decide +kernel
theorem dX5_offer_132 : decode cX5_offer 132 = .ok (.iload_n 1, 1) := by decide +kernel
theorem dX5_offer_133 : decode cX5_offer 133 = .ok (.ldc 41, 2) := by decide +kernel
theorem dX5_offer_135 : decode cX5_offer 135 = .ok (.aload_n 0, 1) := by decide +kernel
theorem dX5_offer_136 : decode cX5_offer 136 = .ok (.getfield 27, 3) := by decide +kernel
theorem dX5_offer_139 : decode cX5_offer 139 = .ok (.iload_n 1, 1) := by decide +kernel
theorem dX5_offer_140 : decode cX5_offer 140 = .ok (.iaload, 1) := by decide +kernel
theorem dX5_offer_141 : decode cX5_offer 141 = .ok (.aload_n 3, 1) := by decide +kernel
theorem dX5_offer_142 : decode cX5_offer 142 = .ok (.getfield 27, 3) := by decide +kernel
theorem dX5_offer_145 : decode cX5_offer 145 = .ok (.iload 4, 2) := by decide +kernel
theorem dX5_offer_147 : decode cX5_offer 147 = .ok (.iaload, 1) := by decide +kernel
theorem dX5_offer_148 : decode cX5_offer 148 = .ok (.iadd, 1) := by decide +kernel
theorem dX5_offer_149 : decode cX5_offer 149 = .ok (.invokestatic 38, 3) := by decide +kernel
theorem dX5_offer_152 : decode cX5_offer 152 = .ok (.iastore, 1) := by decide +kernel
theorem dX5_offer_153 : decode cX5_offer 153 = .ok (.return_, 1) := by decide +kernel
theorem dX6_init_0 : decode cX6_init 0 = .ok (.aload_n 0, 1) := by decide +kernel
theorem dX6_init_1 : decode cX6_init 1 = .ok (.invokespecial 3, 3) := by decide +kernel
theorem dX6_init_4 : decode cX6_init 4 = .ok (.aload_n 0, 1) := by decide +kernel
theorem dX6_init_5 : decode cX6_init 5 = .ok (.bipush 120, 2) := by decide +kernel
theorem dX6_init_7 : decode cX6_init 7 = .ok (.newarray .int, 2) := by decide +kernel
theorem dX6_init_9 : decode cX6_init 9 = .ok (.putfield 9, 3) := by decide +kernel
theorem dX6_init_12 : decode cX6_init 12 = .ok (.aload_n 0, 1) := by decide +kernel
theorem dX6_init_13 : decode cX6_init 13 = .ok (.new 15, 3) := by decide +kernel
theorem dX6_init_16 : decode cX6_init 16 = .ok (.dup, 1) := by decide +kernel
theorem dX6_init_17 : decode cX6_init 17 = .ok (.invokespecial 17, 3) := by decide +kernel
theorem dX6_init_20 : decode cX6_init 20 = .ok (.putfield 18, 3) := by decide +kernel
theorem dX6_init_23 : decode cX6_init 23 = .ok (.aload_n 0, 1) := by decide +kernel
theorem dX6_init_24 : decode cX6_init 24 = .ok (.new 22, 3) := by decide +kernel
theorem dX6_init_27 : decode cX6_init 27 = .ok (.dup, 1) := by decide +kernel
theorem dX6_init_28 : decode cX6_init 28 = .ok (.invokespecial 24, 3) := by decide +kernel
theorem dX6_init_31 : decode cX6_init 31 = .ok (.putfield 25, 3) := by decide +kernel
theorem dX6_init_34 : decode cX6_init 34 = .ok (.return_, 1) := by decide +kernel
theorem dX6_add_0 : decode cX6_add 0 = .ok (.aload_n 0, 1) := by decide +kernel
theorem dX6_add_1 : decode cX6_add 1 = .ok (.getfield 29, 3) := by decide +kernel
theorem dX6_add_4 : decode cX6_add 4 = .ok (.ifCond .lt 32, 3) := by decide +kernel
theorem dX6_add_7 : decode cX6_add 7 = .ok (.aload_n 0, 1) := by decide +kernel
theorem dX6_add_8 : decode cX6_add 8 = .ok (.getfield 29, 3) := by decide +kernel
theorem dX6_add_11 : decode cX6_add 11 = .ok (.bipush 120, 2) := by decide +kernel
theorem dX6_add_13 : decode cX6_add 13 = .ok (.if_icmp .ge 23, 3) := by decide +kernel
theorem dX6_add_16 : decode cX6_add 16 = .ok (.aload_n 0, 1) := by decide +kernel
theorem dX6_add_17 : decode cX6_add 17 = .ok (.getfield 9, 3) := by decide +kernel
theorem dX6_add_20 : decode cX6_add 20 = .ok (.aload_n 0, 1) := by decide +kernel
theorem dX6_add_21 : decode cX6_add 21 = .ok (.getfield 29, 3) := by decide +kernel
theorem dX6_add_24 : decode cX6_add 24 = .ok (.iload_n 1, 1) := by decide +kernel
theorem dX6_add_25 : decode cX6_add 25 = .ok (.iastore, 1) := by decide +kernel
theorem dX6_add_26 : decode cX6_add 26 = .ok (.aload_n 0, 1) := by decide +kernel
theorem dX6_add_27 : decode cX6_add 27 = .ok (.dup, 1) := by decide +kernel
theorem dX6_add_28 : decode cX6_add 28 = .ok (.getfield 29, 3) := by decide +kernel
theorem dX6_add_31 : decode cX6_add 31 = .ok (.iconst 1, 1) := by decide +kernel
theorem dX6_add_32 : decode cX6_add 32 = .ok (.iadd, 1) := by decide +kernel
theorem dX6_add_33 : decode cX6_add 33 = .ok (.putfield 29, 3) := by decide +kernel
theorem dX6_add_36 : decode cX6_add 36 = .ok (.return_, 1) := by decide +kernel
theorem dX6_read_0 : decode cX6_read 0 = .ok (.aload_n 0, 1) := by decide +kernel
theorem dX6_read_1 : decode cX6_read 1 = .ok (.iconst 0, 1) := by decide +kernel
theorem dX6_read_2 : decode cX6_read 2 = .ok (.putfield 33, 3) := by decide +kernel
theorem dX6_read_5 : decode cX6_read 5 = .ok (.aload_n 0, 1) := by decide +kernel
theorem dX6_read_6 : decode cX6_read 6 = .ok (.iconst (-1), 1) := by decide +kernel
theorem dX6_read_7 : decode cX6_read 7 = .ok (.putfield 36, 3) := by decide +kernel
theorem dX6_read_10 : decode cX6_read 10 = .ok (.aload_n 0, 1) := by decide +kernel
theorem dX6_read_11 : decode cX6_read 11 = .ok (.getfield 18, 3) := by decide +kernel
theorem dX6_read_14 : decode cX6_read 14 = .ok (.iconst 0, 1) := by decide +kernel
theorem dX6_read_15 : decode cX6_read 15 = .ok (.putfield 39, 3) := by decide +kernel
theorem dX6_read_18 : decode cX6_read 18 = .ok (.aload_n 0, 1) := by decide +kernel
theorem dX6_read_19 : decode cX6_read 19 = .ok (.getfield 25, 3) := by decide +kernel
theorem dX6_read_22 : decode cX6_read 22 = .ok (.invokevirtual 40, 3) := by decide +kernel
theorem dX6_read_25 : decode cX6_read 25 = .ok (.aload_n 0, 1) := by decide +kernel
theorem dX6_read_26 : decode cX6_read 26 = .ok (.invokevirtual 43, 3) := by decide +kernel
theorem dX6_read_29 : decode cX6_read 29 = .ok (.istore_n 1, 1) := by decide +kernel
theorem dX6_read_30 : decode cX6_read 30 = .ok (.aload_n 0, 1) := by decide +kernel
theorem dX6_read_31 : decode cX6_read 31 = .ok (.iload_n 1, 1) := by decide +kernel
theorem dX6_read_32 : decode cX6_read 32 = .ok (.bipush 114, 2) := by decide +kernel
theorem dX6_read_34 : decode cX6_read 34 = .ok (.if_icmp .ne 7, 3) := by decide +kernel
theorem dX6_read_37 : decode cX6_read 37 = .ok (.iconst 1, 1) := by decide +kernel
theorem dX6_read_38 : decode cX6_read 38 = .ok (.goto 4, 3) := by decide +kernel
theorem dX6_read_41 : decode cX6_read 41 = .ok (.iconst 0, 1) := by decide +kernel
theorem dX6_read_42 : decode cX6_read 42 = .ok (.putfield 47, 3) := by decide +kernel
theorem dX6_read_45 : decode cX6_read 45 = .ok (.iload_n 1, 1) := by decide +kernel
theorem dX6_read_46 : decode cX6_read 46 = .ok (.bipush 114, 2) := by decide +kernel
theorem dX6_read_48 : decode cX6_read 48 = .ok (.if_icmp .ne 10, 3) := by decide +kernel
theorem dX6_read_51 : decode cX6_read 51 = .ok (.aload_n 0, 1) := by decide +kernel
theorem dX6_read_52 : decode cX6_read 52 = .ok (.invokevirtual 51, 3) := by decide +kernel
theorem dX6_read_55 : decode cX6_read 55 = .ok (.goto 21, 3) := by decide +kernel
theorem dX6_read_58 : decode cX6_read 58 = .ok (.iload_n 1, 1) := by decide +kernel
theorem dX6_read_59 : decode cX6_read 59 = .ok (.bipush 116, 2) := by decide +kernel
theorem dX6_read_61 : decode cX6_read 61 = .ok (.if_icmp .ne 10, 3) := by decide +kernel
theorem dX6_read_64 : decode cX6_read 64 = .ok (.aload_n 0, 1) := by decide +kernel
theorem dX6_read_65 : decode cX6_read 65 = .ok (.invokevirtual 54, 3) := by decide +kernel
theorem dX6_read_68 : decode cX6_read 68 = .ok (.goto 8, 3) := by decide +kernel
theorem dX6_read_71 : decode cX6_read 71 = .ok (.aload_n 0, 1) := by decide +kernel
theorem dX6_read_72 : decode cX6_read 72 = .ok (.invokevirtual 57, 3) := by decide +kernel
theorem dX6_read_75 : decode cX6_read 75 = .ok (.pop, 1) := by decide +kernel
theorem dX6_read_76 : decode cX6_read 76 = .ok (.aload_n 0, 1) := by decide +kernel
theorem dX6_read_77 : decode cX6_read 77 = .ok (.getfield 36, 3) := by decide +kernel
theorem dX6_read_80 : decode cX6_read 80 = .ok (.iconst (-1), 1) := by decide +kernel
theorem dX6_read_81 : decode cX6_read 81 = .ok (.if_icmp .ne 7, 3) := by decide +kernel
theorem dX6_read_84 : decode cX6_read 84 = .ok (.aload_n 0, 1) := by decide +kernel
theorem dX6_read_85 : decode cX6_read 85 = .ok (.invokevirtual 60, 3) := by decide +kernel
theorem dX6_read_88 : decode cX6_read 88 = .ok (.aload_n 0, 1) := by decide +kernel
theorem dX6_read_89 : decode cX6_read 89 = .ok (.getfield 36, 3) := by decide +kernel
theorem dX6_read_92 : decode cX6_read 92 = .ok (.ireturn, 1) := by decide +kernel
theorem dX6_readRow_0 : decode cX6_readRow 0 = .ok (.aload_n 0, 1) := by decide +kernel
theorem dX6_readRow_1 : decode cX6_readRow 1 = .ok (.ldc 63, 2) := by decide +kernel
theorem dX6_readRow_3 : decode cX6_readRow 3 = .ok (.invokevirtual 64, 3) := by decide +kernel
theorem dX6_readRow_6 : decode cX6_readRow 6 = .ok (.ifCond .ne 4, 3) := by decide +kernel
theorem dX6_readRow_9 : decode cX6_readRow 9 = .ok (.return_, 1) := by decide +kernel
theorem dX6_readRow_10 : decode cX6_readRow 10 = .ok (.iconst 0, 1) := by decide +kernel
theorem dX6_readRow_11 : decode cX6_readRow 11 = .ok (.istore_n 1, 1) := by decide +kernel
theorem dX6_readRow_12 : decode cX6_readRow 12 = .ok (.iload_n 1, 1) := by decide +kernel
theorem dX6_readRow_13 : decode cX6_readRow 13 = .ok (.bipush 8, 2) := by decide +kernel
theorem dX6_readRow_15 : decode cX6_readRow 15 = .ok (.if_icmp .ge 60, 3) := by decide +kernel
theorem dX6_readRow_18 : decode cX6_readRow 18 = .ok (.aload_n 0, 1) := by decide +kernel
theorem dX6_readRow_19 : decode cX6_readRow 19 = .ok (.getfield 36, 3) := by decide +kernel
theorem dX6_readRow_22 : decode cX6_readRow 22 = .ok (.iconst (-1), 1) := by decide +kernel
theorem dX6_readRow_23 : decode cX6_readRow 23 = .ok (.if_icmp .ne 52, 3) := by decide +kernel
theorem dX6_readRow_26 : decode cX6_readRow 26 = .ok (.aload_n 0, 1) := by decide +kernel
theorem dX6_readRow_27 : decode cX6_readRow 27 = .ok (.invokevirtual 43, 3) := by decide +kernel
theorem dX6_readRow_30 : decode cX6_readRow 30 = .ok (.istore_n 2, 1) := by decide +kernel
theorem dX6_readRow_31 : decode cX6_readRow 31 = .ok (.iload_n 2, 1) := by decide +kernel
theorem dX6_readRow_32 : decode cX6_readRow 32 = .ok (.bipush 59, 2) := by decide +kernel
theorem dX6_readRow_34 : decode cX6_readRow 34 = .ok (.if_icmp .ne 8, 3) := by decide +kernel
theorem dX6_readRow_37 : decode cX6_readRow 37 = .ok (.iload_n 1, 1) := by decide +kernel
theorem dX6_readRow_38 : decode cX6_readRow 38 = .ok (.ifCond .le 4, 3) := by decide +kernel
theorem dX6_readRow_41 : decode cX6_readRow 41 = .ok (.return_, 1) := by decide +kernel
theorem dX6_readRow_42 : decode cX6_readRow 42 = .ok (.iload_n 2, 1) := by decide +kernel
theorem dX6_readRow_43 : decode cX6_readRow 43 = .ok (.bipush 97, 2) := by decide +kernel
theorem dX6_readRow_45 : decode cX6_readRow 45 = .ok (.bipush 102, 2) := by decide +kernel
theorem dX6_readRow_47 : decode cX6_readRow 47 = .ok (.invokestatic 68, 3) := by decide +kernel
theorem dX6_readRow_50 : decode cX6_readRow 50 = .ok (.ifCond .ne 11, 3) := by decide +kernel
theorem dX6_readRow_53 : decode cX6_readRow 53 = .ok (.aload_n 0, 1) := by decide +kernel
theorem dX6_readRow_54 : decode cX6_readRow 54 = .ok (.invokevirtual 57, 3) := by decide +kernel
theorem dX6_readRow_57 : decode cX6_readRow 57 = .ok (.pop, 1) := by decide +kernel
theorem dX6_readRow_58 : decode cX6_readRow 58 = .ok (.goto 11, 3) := by decide +kernel
theorem dX6_readRow_61 : decode cX6_readRow 61 = .ok (.aload_n 0, 1) := by decide +kernel
theorem dX6_readRow_62 : decode cX6_readRow 62 = .ok (.iload_n 2, 1) := by decide +kernel
theorem dX6_readRow_63 : decode cX6_readRow 63 = .ok (.bipush 97, 2) := by decide +kernel
theorem dX6_readRow_65 : decode cX6_readRow 65 = .ok (.isub, 1) := by decide +kernel
theorem dX6_readRow_66 : decode cX6_readRow 66 = .ok (.invokevirtual 72, 3) := by decide +kernel
theorem dX6_readRow_69 : decode cX6_readRow 69 = .ok (.iinc 1 1, 3) := by decide +kernel
theorem dX6_readRow_72 : decode cX6_readRow 72 = .ok (.goto (-60), 3) := by decide +kernel
theorem dX6_readRow_75 : decode cX6_readRow 75 = .ok (.return_, 1) := by decide +kernel
theorem dX6_readTarget_0 : decode cX6_readTarget 0 = .ok (.aload_n 0, 1) := by decide +kernel
theorem dX6_readTarget_1 : decode cX6_readTarget 1 = .ok (.dup, 1) := by decide +kernel
theorem dX6_readTarget_2 : decode cX6_readTarget 2 = .ok (.getfield 33, 3) := by decide +kernel
theorem dX6_readTarget_5 : decode cX6_readTarget 5 = .ok (.iconst 1, 1) := by decide +kernel
theorem dX6_readTarget_6 : decode cX6_readTarget 6 = .ok (.iadd, 1) := by decide +kernel
theorem dX6_readTarget_7 : decode cX6_readTarget 7 = .ok (.putfield 33, 3) := by decide +kernel
theorem dX6_readTarget_10 : decode cX6_readTarget 10 = .ok (.aload_n 0, 1) := by decide +kernel
theorem dX6_readTarget_11 : decode cX6_readTarget 11 = .ok (.iconst 0, 1) := by decide +kernel
theorem dX6_readTarget_12 : decode cX6_readTarget 12 = .ok (.bipush 9, 2) := by decide +kernel
theorem dX6_readTarget_14 : decode cX6_readTarget 14 = .ok (.invokevirtual 76, 3) := by decide +kernel
theorem dX6_readTarget_17 : decode cX6_readTarget 17 = .ok (.istore_n 2, 1) := by decide +kernel
theorem dX6_readTarget_18 : decode cX6_readTarget 18 = .ok (.aload_n 0, 1) := by decide +kernel
theorem dX6_readTarget_19 : decode cX6_readTarget 19 = .ok (.getfield 36, 3) := by decide +kernel
theorem dX6_readTarget_22 : decode cX6_readTarget 22 = .ok (.iconst (-1), 1) := by decide +kernel
theorem dX6_readTarget_23 : decode cX6_readTarget 23 = .ok (.if_icmp .eq 4, 3) := by decide +kernel
theorem dX6_readTarget_26 : decode cX6_readTarget 26 = .ok (.return_, 1) := by decide +kernel
theorem dX6_readTarget_27 : decode cX6_readTarget 27 = .ok (.aload_n 0, 1) := by decide +kernel
theorem dX6_readTarget_28 : decode cX6_readTarget 28 = .ok (.iconst 1, 1) := by decide +kernel
theorem dX6_readTarget_29 : decode cX6_readTarget 29 = .ok (.bipush 9, 2) := by decide +kernel
theorem dX6_readTarget_31 : decode cX6_readTarget 31 = .ok (.invokevirtual 76, 3) := by decide +kernel
theorem dX6_readTarget_34 : decode cX6_readTarget 34 = .ok (.istore_n 3, 1) := by decide +kernel
theorem dX6_readTarget_35 : decode cX6_readTarget 35 = .ok (.aload_n 0, 1) := by decide +kernel
theorem dX6_readTarget_36 : decode cX6_readTarget 36 = .ok (.getfield 36, 3) := by decide +kernel
theorem dX6_readTarget_39 : decode cX6_readTarget 39 = .ok (.iconst (-1), 1) := by decide +kernel
theorem dX6_readTarget_40 : decode cX6_readTarget 40 = .ok (.if_icmp .ne 13, 3) := by decide +kernel
theorem dX6_readTarget_43 : decode cX6_readTarget 43 = .ok (.aload_n 0, 1) := by decide +kernel
theorem dX6_readTarget_44 : decode cX6_readTarget 44 = .ok (.getfield 18, 3) := by decide +kernel
theorem dX6_readTarget_47 : decode cX6_readTarget 47 = .ok (.iload_n 1, 1) := by decide +kernel
theorem dX6_readTarget_48 : decode cX6_readTarget 48 = .ok (.iload_n 2, 1) := by decide +kernel
theorem dX6_readTarget_49 : decode cX6_readTarget 49 = .ok (.iload_n 3, 1) := by decide +kernel
theorem dX6_readTarget_50 : decode cX6_readTarget 50 = .ok (.invokevirtual 80, 3) := by decide +kernel
theorem dX6_readTarget_53 : decode cX6_readTarget 53 = .ok (.return_, 1) := by decide +kernel
theorem dX6_readTree_0 : decode cX6_readTree 0 = .ok (.aload_n 0, 1) := by decide +kernel
theorem dX6_readTree_1 : decode cX6_readTree 1 = .ok (.ldc 84, 2) := by decide +kernel
theorem dX6_readTree_3 : decode cX6_readTree 3 = .ok (.invokevirtual 64, 3) := by decide +kernel
theorem dX6_readTree_6 : decode cX6_readTree 6 = .ok (.ifCond .eq 10, 3) := by decide +kernel
theorem dX6_readTree_9 : decode cX6_readTree 9 = .ok (.aload_n 0, 1) := by decide +kernel
theorem dX6_readTree_10 : decode cX6_readTree 10 = .ok (.iconst (-1), 1) := by decide +kernel
theorem dX6_readTree_11 : decode cX6_readTree 11 = .ok (.iconst 0, 1) := by decide +kernel
theorem dX6_readTree_12 : decode cX6_readTree 12 = .ok (.invokevirtual 85, 3) := by decide +kernel
theorem dX6_readTree_15 : decode cX6_readTree 15 = .ok (.pop, 1) := by decide +kernel
theorem dX6_readTree_16 : decode cX6_readTree 16 = .ok (.return_, 1) := by decide +kernel
theorem dX6_readNode_0 : decode cX6_readNode 0 = .ok (.aload_n 0, 1) := by decide +kernel
theorem dX6_readNode_1 : decode cX6_readNode 1 = .ok (.invokevirtual 43, 3) := by decide +kernel
theorem dX6_readNode_4 : decode cX6_readNode 4 = .ok (.istore_n 3, 1) := by decide +kernel
theorem dX6_readNode_5 : decode cX6_readNode 5 = .ok (.iload_n 3, 1) := by decide +kernel
theorem dX6_readNode_6 : decode cX6_readNode 6 = .ok (.bipush 42, 2) := by decide +kernel
theorem dX6_readNode_8 : decode cX6_readNode 8 = .ok (.if_icmp .ne 22, 3) := by decide +kernel
theorem dX6_readNode_11 : decode cX6_readNode 11 = .ok (.aload_n 0, 1) := by decide +kernel
theorem dX6_readNode_12 : decode cX6_readNode 12 = .ok (.dup, 1) := by decide +kernel
theorem dX6_readNode_13 : decode cX6_readNode 13 = .ok (.getfield 33, 3) := by decide +kernel
theorem dX6_readNode_16 : decode cX6_readNode 16 = .ok (.iconst 1, 1) := by decide +kernel
theorem dX6_readNode_17 : decode cX6_readNode 17 = .ok (.iadd, 1) := by decide +kernel
theorem dX6_readNode_18 : decode cX6_readNode 18 = .ok (.putfield 33, 3) := by decide +kernel
theorem dX6_readNode_21 : decode cX6_readNode 21 = .ok (.aload_n 0, 1) := by decide +kernel
theorem dX6_readNode_22 : decode cX6_readNode 22 = .ok (.getfield 25, 3) := by decide +kernel
theorem dX6_readNode_25 : decode cX6_readNode 25 = .ok (.iload_n 1, 1) := by decide +kernel
theorem dX6_readNode_26 : decode cX6_readNode 26 = .ok (.invokevirtual 88, 3) := by decide +kernel
theorem dX6_readNode_29 : decode cX6_readNode 29 = .ok (.ireturn, 1) := by decide +kernel
theorem dX6_readNode_30 : decode cX6_readNode 30 = .ok (.iload_n 3, 1) := by decide +kernel
theorem dX6_readNode_31 : decode cX6_readNode 31 = .ok (.invokestatic 92, 3) := by decide +kernel
theorem dX6_readNode_34 : decode cX6_readNode 34 = .ok (.ifCond .eq 9, 3) := by decide +kernel
theorem dX6_readNode_37 : decode cX6_readNode 37 = .ok (.iload_n 2, 1) := by decide +kernel
theorem dX6_readNode_38 : decode cX6_readNode 38 = .ok (.bipush 7, 2) := by decide +kernel
theorem dX6_readNode_40 : decode cX6_readNode 40 = .ok (.if_icmp .lt 8, 3) := by decide +kernel
theorem dX6_readNode_43 : decode cX6_readNode 43 = .ok (.aload_n 0, 1) := by decide +kernel
theorem dX6_readNode_44 : decode cX6_readNode 44 = .ok (.invokevirtual 57, 3) := by decide +kernel
theorem dX6_readNode_47 : decode cX6_readNode 47 = .ok (.ireturn, 1) := by decide +kernel
theorem dX6_readNode_48 : decode cX6_readNode 48 = .ok (.aload_n 0, 1) := by decide +kernel
theorem dX6_readNode_49 : decode cX6_readNode 49 = .ok (.dup, 1) := by decide +kernel
theorem dX6_readNode_50 : decode cX6_readNode 50 = .ok (.getfield 33, 3) := by decide +kernel
theorem dX6_readNode_53 : decode cX6_readNode 53 = .ok (.iconst 1, 1) := by decide +kernel
theorem dX6_readNode_54 : decode cX6_readNode 54 = .ok (.iadd, 1) := by decide +kernel
theorem dX6_readNode_55 : decode cX6_readNode 55 = .ok (.putfield 33, 3) := by decide +kernel
theorem dX6_readNode_58 : decode cX6_readNode 58 = .ok (.aload_n 0, 1) := by decide +kernel
theorem dX6_readNode_59 : decode cX6_readNode 59 = .ok (.iconst 0, 1) := by decide +kernel
theorem dX6_readNode_60 : decode cX6_readNode 60 = .ok (.iload_n 3, 1) := by decide +kernel
theorem dX6_readNode_61 : decode cX6_readNode 61 = .ok (.bipush 76, 2) := by decide +kernel
theorem dX6_readNode_63 : decode cX6_readNode 63 = .ok (.if_icmp .eq 9, 3) := by decide +kernel
theorem dX6_readNode_66 : decode cX6_readNode 66 = .ok (.iload_n 3, 1) := by decide +kernel
theorem dX6_readNode_67 : decode cX6_readNode 67 = .ok (.bipush 82, 2) := by decide +kernel
theorem dX6_readNode_69 : decode cX6_readNode 69 = .ok (.if_icmp .ne 8, 3) := by decide +kernel
theorem dX6_readNode_72 : decode cX6_readNode 72 = .ok (.bipush 6, 2) := by decide +kernel
theorem dX6_readNode_74 : decode cX6_readNode 74 = .ok (.goto 5, 3) := by decide +kernel
theorem dX6_readNode_77 : decode cX6_readNode 77 = .ok (.bipush 9, 2) := by decide +kernel
theorem dX6_readNode_79 : decode cX6_readNode 79 = .ok (.invokevirtual 76, 3) := by decide +kernel
theorem dX6_readNode_82 : decode cX6_readNode 82 = .ok (.istore 4, 2) := by decide +kernel
theorem dX6_readNode_84 : decode cX6_readNode 84 = .ok (.aload_n 0, 1) := by decide +kernel
theorem dX6_readNode_85 : decode cX6_readNode 85 = .ok (.getfield 36, 3) := by decide +kernel
theorem dX6_readNode_88 : decode cX6_readNode 88 = .ok (.iconst (-1), 1) := by decide +kernel
theorem dX6_readNode_89 : decode cX6_readNode 89 = .ok (.if_icmp .eq 5, 3) := by decide +kernel
theorem dX6_readNode_92 : decode cX6_readNode 92 = .ok (.iconst (-1), 1) := by decide +kernel
theorem dX6_readNode_93 : decode cX6_readNode 93 = .ok (.ireturn, 1) := by decide +kernel
theorem dX6_readNode_94 : decode cX6_readNode 94 = .ok (.aload_n 0, 1) := by decide +kernel
theorem dX6_readNode_95 : decode cX6_readNode 95 = .ok (.getfield 25, 3) := by decide +kernel
theorem dX6_readNode_98 : decode cX6_readNode 98 = .ok (.iload_n 3, 1) := by decide +kernel
theorem dX6_readNode_99 : decode cX6_readNode 99 = .ok (.iload 4, 2) := by decide +kernel
theorem dX6_readNode_101 : decode cX6_readNode 101 = .ok (.iload_n 1, 1) := by decide +kernel
theorem dX6_readNode_102 : decode cX6_readNode 102 = .ok (.iload_n 2, 1) := by decide +kernel
theorem dX6_readNode_103 : decode cX6_readNode 103 = .ok (.iconst 1, 1) := by decide +kernel
theorem dX6_readNode_104 : decode cX6_readNode 104 = .ok (.iadd, 1) := by decide +kernel
theorem dX6_readNode_105 : decode cX6_readNode 105 = .ok (.invokevirtual 96, 3) := by decide +kernel
theorem dX6_readNode_108 : decode cX6_readNode 108 = .ok (.istore 5, 2) := by decide +kernel
theorem dX6_readNode_110 : decode cX6_readNode 110 = .ok (.aload_n 0, 1) := by decide +kernel
theorem dX6_readNode_111 : decode cX6_readNode 111 = .ok (.iload 5, 2) := by decide +kernel
theorem dX6_readNode_113 : decode cX6_readNode 113 = .ok (.iload_n 2, 1) := by decide +kernel
theorem dX6_readNode_114 : decode cX6_readNode 114 = .ok (.iconst 1, 1) := by decide +kernel
theorem dX6_readNode_115 : decode cX6_readNode 115 = .ok (.iadd, 1) := by decide +kernel
theorem dX6_readNode_116 : decode cX6_readNode 116 = .ok (.invokevirtual 100, 3) := by decide +kernel
theorem dX6_readNode_119 : decode cX6_readNode 119 = .ok (.ireturn, 1) := by decide +kernel
theorem dX6_readBranches_0 : decode cX6_readBranches 0 = .ok (.aload_n 0, 1) := by decide +kernel
theorem dX6_readBranches_1 : decode cX6_readBranches 1 = .ok (.bipush 40, 2) := by decide +kernel
theorem dX6_readBranches_3 : decode cX6_readBranches 3 = .ok (.invokevirtual 103, 3) := by decide +kernel
theorem dX6_readBranches_6 : decode cX6_readBranches 6 = .ok (.ifCond .ne 5, 3) := by decide +kernel
theorem dX6_readBranches_9 : decode cX6_readBranches 9 = .ok (.iconst (-1), 1) := by decide +kernel
theorem dX6_readBranches_10 : decode cX6_readBranches 10 = .ok (.ireturn, 1) := by decide +kernel
theorem dX6_readBranches_11 : decode cX6_readBranches 11 = .ok (.aload_n 0, 1) := by decide +kernel
theorem dX6_readBranches_12 : decode cX6_readBranches 12 = .ok (.iload_n 1, 1) := by decide +kernel
theorem dX6_readBranches_13 : decode cX6_readBranches 13 = .ok (.iload_n 2, 1) := by decide +kernel
theorem dX6_readBranches_14 : decode cX6_readBranches 14 = .ok (.invokevirtual 85, 3) := by decide +kernel
theorem dX6_readBranches_17 : decode cX6_readBranches 17 = .ok (.istore_n 3, 1) := by decide +kernel
theorem dX6_readBranches_18 : decode cX6_readBranches 18 = .ok (.aload_n 0, 1) := by decide +kernel
theorem dX6_readBranches_19 : decode cX6_readBranches 19 = .ok (.getfield 36, 3) := by decide +kernel
theorem dX6_readBranches_22 : decode cX6_readBranches 22 = .ok (.iconst (-1), 1) := by decide +kernel
theorem dX6_readBranches_23 : decode cX6_readBranches 23 = .ok (.if_icmp .eq 5, 3) := by decide +kernel
theorem dX6_readBranches_26 : decode cX6_readBranches 26 = .ok (.iconst (-1), 1) := by decide +kernel
theorem dX6_readBranches_27 : decode cX6_readBranches 27 = .ok (.ireturn, 1) := by decide +kernel
theorem dX6_readBranches_28 : decode cX6_readBranches 28 = .ok (.aload_n 0, 1) := by decide +kernel
theorem dX6_readBranches_29 : decode cX6_readBranches 29 = .ok (.iload_n 1, 1) := by decide +kernel
theorem dX6_readBranches_30 : decode cX6_readBranches 30 = .ok (.iload_n 2, 1) := by decide +kernel
theorem dX6_readBranches_31 : decode cX6_readBranches 31 = .ok (.invokevirtual 85, 3) := by decide +kernel
theorem dX6_readBranches_34 : decode cX6_readBranches 34 = .ok (.istore 4, 2) := by decide +kernel
theorem dX6_readBranches_36 : decode cX6_readBranches 36 = .ok (.aload_n 0, 1) := by decide +kernel
theorem dX6_readBranches_37 : decode cX6_readBranches 37 = .ok (.getfield 36, 3) := by decide +kernel
theorem dX6_readBranches_40 : decode cX6_readBranches 40 = .ok (.iconst (-1), 1) := by decide +kernel
theorem dX6_readBranches_41 : decode cX6_readBranches 41 = .ok (.if_icmp .ne 12, 3) := by decide +kernel
theorem dX6_readBranches_44 : decode cX6_readBranches 44 = .ok (.aload_n 0, 1) := by decide +kernel
theorem dX6_readBranches_45 : decode cX6_readBranches 45 = .ok (.bipush 41, 2) := by decide +kernel
theorem dX6_readBranches_47 : decode cX6_readBranches 47 = .ok (.invokevirtual 103, 3) := by decide +kernel
theorem dX6_readBranches_50 : decode cX6_readBranches 50 = .ok (.ifCond .ne 5, 3) := by decide +kernel
theorem dX6_readBranches_53 : decode cX6_readBranches 53 = .ok (.iconst (-1), 1) := by decide +kernel
theorem dX6_readBranches_54 : decode cX6_readBranches 54 = .ok (.ireturn, 1) := by decide +kernel
theorem dX6_readBranches_55 : decode cX6_readBranches 55 = .ok (.aload_n 0, 1) := by decide +kernel
theorem dX6_readBranches_56 : decode cX6_readBranches 56 = .ok (.getfield 25, 3) := by decide +kernel
theorem dX6_readBranches_59 : decode cX6_readBranches 59 = .ok (.iload_n 1, 1) := by decide +kernel
theorem dX6_readBranches_60 : decode cX6_readBranches 60 = .ok (.iload_n 3, 1) := by decide +kernel
theorem dX6_readBranches_61 : decode cX6_readBranches 61 = .ok (.iload 4, 2) := by decide +kernel
theorem dX6_readBranches_63 : decode cX6_readBranches 63 = .ok (.invokevirtual 106, 3) := by decide +kernel
theorem dX6_readBranches_66 : decode cX6_readBranches 66 = .ok (.iload_n 1, 1) := by decide +kernel
theorem dX6_readBranches_67 : decode cX6_readBranches 67 = .ok (.ireturn, 1) := by decide +kernel
theorem dX6_isQuestion_0 : decode cX6_isQuestion 0 = .ok (.iload_n 0, 1) := by decide +kernel
theorem dX6_isQuestion_1 : decode cX6_isQuestion 1 = .ok (.bipush 76, 2) := by decide +kernel
theorem dX6_isQuestion_3 : decode cX6_isQuestion 3 = .ok (.if_icmp .eq 21, 3) := by decide +kernel
theorem dX6_isQuestion_6 : decode cX6_isQuestion 6 = .ok (.iload_n 0, 1) := by decide +kernel
theorem dX6_isQuestion_7 : decode cX6_isQuestion 7 = .ok (.bipush 82, 2) := by decide +kernel
theorem dX6_isQuestion_9 : decode cX6_isQuestion 9 = .ok (.if_icmp .eq 15, 3) := by decide +kernel
theorem dX6_isQuestion_12 : decode cX6_isQuestion 12 = .ok (.iload_n 0, 1) := by decide +kernel
theorem dX6_isQuestion_13 : decode cX6_isQuestion 13 = .ok (.bipush 80, 2) := by decide +kernel
theorem dX6_isQuestion_15 : decode cX6_isQuestion 15 = .ok (.if_icmp .eq 9, 3) := by decide +kernel
theorem dX6_isQuestion_18 : decode cX6_isQuestion 18 = .ok (.iload_n 0, 1) := by decide +kernel
theorem dX6_isQuestion_19 : decode cX6_isQuestion 19 = .ok (.bipush 68, 2) := by decide +kernel
theorem dX6_isQuestion_21 : decode cX6_isQuestion 21 = .ok (.if_icmp .ne 7, 3) := by decide +kernel
theorem dX6_isQuestion_24 : decode cX6_isQuestion 24 = .ok (.iconst 1, 1) := by decide +kernel
theorem dX6_isQuestion_25 : decode cX6_isQuestion 25 = .ok (.goto 4, 3) := by decide +kernel
theorem dX6_isQuestion_28 : decode cX6_isQuestion 28 = .ok (.iconst 0, 1) := by decide +kernel
theorem dX6_isQuestion_29 : decode cX6_isQuestion 29 = .ok (.ireturn, 1) := by decide +kernel
theorem dX6_readEnd_0 : decode cX6_readEnd 0 = .ok (.aload_n 0, 1) := by decide +kernel
theorem dX6_readEnd_1 : decode cX6_readEnd 1 = .ok (.bipush 59, 2) := by decide +kernel
theorem dX6_readEnd_3 : decode cX6_readEnd 3 = .ok (.invokevirtual 103, 3) := by decide +kernel
theorem dX6_readEnd_6 : decode cX6_readEnd 6 = .ok (.ifCond .eq 16, 3) := by decide +kernel
theorem dX6_readEnd_9 : decode cX6_readEnd 9 = .ok (.aload_n 0, 1) := by decide +kernel
theorem dX6_readEnd_10 : decode cX6_readEnd 10 = .ok (.invokevirtual 43, 3) := by decide +kernel
theorem dX6_readEnd_13 : decode cX6_readEnd 13 = .ok (.iconst (-1), 1) := by decide +kernel
theorem dX6_readEnd_14 : decode cX6_readEnd 14 = .ok (.if_icmp .eq 8, 3) := by decide +kernel
theorem dX6_readEnd_17 : decode cX6_readEnd 17 = .ok (.aload_n 0, 1) := by decide +kernel
theorem dX6_readEnd_18 : decode cX6_readEnd 18 = .ok (.invokevirtual 57, 3) := by decide +kernel
theorem dX6_readEnd_21 : decode cX6_readEnd 21 = .ok (.pop, 1) := by decide +kernel
theorem dX6_readEnd_22 : decode cX6_readEnd 22 = .ok (.return_, 1) := by decide +kernel
theorem dX6_readWord_0 : decode cX6_readWord 0 = .ok (.aload_n 0, 1) := by decide +kernel
theorem dX6_readWord_1 : decode cX6_readWord 1 = .ok (.getfield 33, 3) := by decide +kernel
theorem dX6_readWord_4 : decode cX6_readWord 4 = .ok (.istore_n 2, 1) := by decide +kernel
theorem dX6_readWord_5 : decode cX6_readWord 5 = .ok (.iconst 0, 1) := by decide +kernel
theorem dX6_readWord_6 : decode cX6_readWord 6 = .ok (.istore_n 3, 1) := by decide +kernel
theorem dX6_readWord_7 : decode cX6_readWord 7 = .ok (.iload_n 3, 1) := by decide +kernel
theorem dX6_readWord_8 : decode cX6_readWord 8 = .ok (.aload_n 1, 1) := by decide +kernel
theorem dX6_readWord_9 : decode cX6_readWord 9 = .ok (.invokevirtual 109, 3) := by decide +kernel
theorem dX6_readWord_12 : decode cX6_readWord 12 = .ok (.if_icmp .ge 66, 3) := by decide +kernel
theorem dX6_readWord_15 : decode cX6_readWord 15 = .ok (.aload_n 0, 1) := by decide +kernel
theorem dX6_readWord_16 : decode cX6_readWord 16 = .ok (.getfield 33, 3) := by decide +kernel
theorem dX6_readWord_19 : decode cX6_readWord 19 = .ok (.aload_n 0, 1) := by decide +kernel
theorem dX6_readWord_20 : decode cX6_readWord 20 = .ok (.getfield 29, 3) := by decide +kernel
theorem dX6_readWord_23 : decode cX6_readWord 23 = .ok (.if_icmp .lt 10, 3) := by decide +kernel
theorem dX6_readWord_26 : decode cX6_readWord 26 = .ok (.aload_n 0, 1) := by decide +kernel
theorem dX6_readWord_27 : decode cX6_readWord 27 = .ok (.invokevirtual 57, 3) := by decide +kernel
theorem dX6_readWord_30 : decode cX6_readWord 30 = .ok (.pop, 1) := by decide +kernel
theorem dX6_readWord_31 : decode cX6_readWord 31 = .ok (.iconst 0, 1) := by decide +kernel
theorem dX6_readWord_32 : decode cX6_readWord 32 = .ok (.ireturn, 1) := by decide +kernel
theorem dX6_readWord_33 : decode cX6_readWord 33 = .ok (.aload_n 0, 1) := by decide +kernel
theorem dX6_readWord_34 : decode cX6_readWord 34 = .ok (.getfield 9, 3) := by decide +kernel
theorem dX6_readWord_37 : decode cX6_readWord 37 = .ok (.aload_n 0, 1) := by decide +kernel
theorem dX6_readWord_38 : decode cX6_readWord 38 = .ok (.getfield 33, 3) := by decide +kernel
theorem dX6_readWord_41 : decode cX6_readWord 41 = .ok (.iaload, 1) := by decide +kernel
theorem dX6_readWord_42 : decode cX6_readWord 42 = .ok (.aload_n 1, 1) := by decide +kernel
theorem dX6_readWord_43 : decode cX6_readWord 43 = .ok (.iload_n 3, 1) := by decide +kernel
theorem dX6_readWord_44 : decode cX6_readWord 44 = .ok (.invokevirtual 114, 3) := by decide +kernel
theorem dX6_readWord_47 : decode cX6_readWord 47 = .ok (.if_icmp .eq 15, 3) := by decide +kernel
theorem dX6_readWord_50 : decode cX6_readWord 50 = .ok (.aload_n 0, 1) := by decide +kernel
theorem dX6_readWord_51 : decode cX6_readWord 51 = .ok (.iload_n 2, 1) := by decide +kernel
theorem dX6_readWord_52 : decode cX6_readWord 52 = .ok (.putfield 33, 3) := by decide +kernel
theorem dX6_readWord_55 : decode cX6_readWord 55 = .ok (.aload_n 0, 1) := by decide +kernel
theorem dX6_readWord_56 : decode cX6_readWord 56 = .ok (.invokevirtual 57, 3) := by decide +kernel
theorem dX6_readWord_59 : decode cX6_readWord 59 = .ok (.pop, 1) := by decide +kernel
theorem dX6_readWord_60 : decode cX6_readWord 60 = .ok (.iconst 0, 1) := by decide +kernel
theorem dX6_readWord_61 : decode cX6_readWord 61 = .ok (.ireturn, 1) := by decide +kernel
theorem dX6_readWord_62 : decode cX6_readWord 62 = .ok (.aload_n 0, 1) := by decide +kernel
theorem dX6_readWord_63 : decode cX6_readWord 63 = .ok (.dup, 1) := by decide +kernel
theorem dX6_readWord_64 : decode cX6_readWord 64 = .ok (.getfield 33, 3) := by decide +kernel
theorem dX6_readWord_67 : decode cX6_readWord 67 = .ok (.iconst 1, 1) := by decide +kernel
theorem dX6_readWord_68 : decode cX6_readWord 68 = .ok (.iadd, 1) := by decide +kernel
theorem dX6_readWord_69 : decode cX6_readWord 69 = .ok (.putfield 33, 3) := by decide +kernel
theorem dX6_readWord_72 : decode cX6_readWord 72 = .ok (.iinc 3 1, 3) := by decide +kernel
theorem dX6_readWord_75 : decode cX6_readWord 75 = .ok (.goto (-68), 3) := by decide +kernel
theorem dX6_readWord_78 : decode cX6_readWord 78 = .ok (.iconst 1, 1) := by decide +kernel
theorem dX6_readWord_79 : decode cX6_readWord 79 = .ok (.ireturn, 1) := by decide +kernel
theorem dX6_readFigure_0 : decode cX6_readFigure 0 = .ok (.aload_n 0, 1) := by decide +kernel
theorem dX6_readFigure_1 : decode cX6_readFigure 1 = .ok (.invokevirtual 43, 3) := by decide +kernel
theorem dX6_readFigure_4 : decode cX6_readFigure 4 = .ok (.bipush 48, 2) := by decide +kernel
theorem dX6_readFigure_6 : decode cX6_readFigure 6 = .ok (.isub, 1) := by decide +kernel
theorem dX6_readFigure_7 : decode cX6_readFigure 7 = .ok (.istore_n 3, 1) := by decide +kernel
theorem dX6_readFigure_8 : decode cX6_readFigure 8 = .ok (.iload_n 3, 1) := by decide +kernel
theorem dX6_readFigure_9 : decode cX6_readFigure 9 = .ok (.iload_n 1, 1) := by decide +kernel
theorem dX6_readFigure_10 : decode cX6_readFigure 10 = .ok (.iload_n 2, 1) := by decide +kernel
theorem dX6_readFigure_11 : decode cX6_readFigure 11 = .ok (.invokestatic 68, 3) := by decide +kernel
theorem dX6_readFigure_14 : decode cX6_readFigure 14 = .ok (.ifCond .ne 8, 3) := by decide +kernel
theorem dX6_readFigure_17 : decode cX6_readFigure 17 = .ok (.aload_n 0, 1) := by decide +kernel
theorem dX6_readFigure_18 : decode cX6_readFigure 18 = .ok (.invokevirtual 57, 3) := by decide +kernel
theorem dX6_readFigure_21 : decode cX6_readFigure 21 = .ok (.ireturn, 1) := by decide +kernel
theorem dX6_readFigure_22 : decode cX6_readFigure 22 = .ok (.aload_n 0, 1) := by decide +kernel
theorem dX6_readFigure_23 : decode cX6_readFigure 23 = .ok (.dup, 1) := by decide +kernel
theorem dX6_readFigure_24 : decode cX6_readFigure 24 = .ok (.getfield 33, 3) := by decide +kernel
theorem dX6_readFigure_27 : decode cX6_readFigure 27 = .ok (.iconst 1, 1) := by decide +kernel
theorem dX6_readFigure_28 : decode cX6_readFigure 28 = .ok (.iadd, 1) := by decide +kernel
theorem dX6_readFigure_29 : decode cX6_readFigure 29 = .ok (.putfield 33, 3) := by decide +kernel
theorem dX6_readFigure_32 : decode cX6_readFigure 32 = .ok (.iload_n 3, 1) := by decide +kernel
theorem dX6_readFigure_33 : decode cX6_readFigure 33 = .ok (.ireturn, 1) := by decide +kernel
theorem dX6_readSign_0 : decode cX6_readSign 0 = .ok (.aload_n 0, 1) := by decide +kernel
theorem dX6_readSign_1 : decode cX6_readSign 1 = .ok (.invokevirtual 43, 3) := by decide +kernel
theorem dX6_readSign_4 : decode cX6_readSign 4 = .ok (.iload_n 1, 1) := by decide +kernel
theorem dX6_readSign_5 : decode cX6_readSign 5 = .ok (.if_icmp .eq 10, 3) := by decide +kernel
theorem dX6_readSign_8 : decode cX6_readSign 8 = .ok (.aload_n 0, 1) := by decide +kernel
theorem dX6_readSign_9 : decode cX6_readSign 9 = .ok (.invokevirtual 57, 3) := by decide +kernel
theorem dX6_readSign_12 : decode cX6_readSign 12 = .ok (.pop, 1) := by decide +kernel
theorem dX6_readSign_13 : decode cX6_readSign 13 = .ok (.iconst 0, 1) := by decide +kernel
theorem dX6_readSign_14 : decode cX6_readSign 14 = .ok (.ireturn, 1) := by decide +kernel
theorem dX6_readSign_15 : decode cX6_readSign 15 = .ok (.aload_n 0, 1) := by decide +kernel
theorem dX6_readSign_16 : decode cX6_readSign 16 = .ok (.dup, 1) := by decide +kernel
theorem dX6_readSign_17 : decode cX6_readSign 17 = .ok (.getfield 33, 3) := by decide +kernel
theorem dX6_readSign_20 : decode cX6_readSign 20 = .ok (.iconst 1, 1) := by decide +kernel
theorem dX6_readSign_21 : decode cX6_readSign 21 = .ok (.iadd, 1) := by decide +kernel
theorem dX6_readSign_22 : decode cX6_readSign 22 = .ok (.putfield 33, 3) := by decide +kernel
theorem dX6_readSign_25 : decode cX6_readSign 25 = .ok (.iconst 1, 1) := by decide +kernel
theorem dX6_readSign_26 : decode cX6_readSign 26 = .ok (.ireturn, 1) := by decide +kernel
theorem dX6_look_0 : decode cX6_look 0 = .ok (.aload_n 0, 1) := by decide +kernel
theorem dX6_look_1 : decode cX6_look 1 = .ok (.getfield 33, 3) := by decide +kernel
theorem dX6_look_4 : decode cX6_look 4 = .ok (.aload_n 0, 1) := by decide +kernel
theorem dX6_look_5 : decode cX6_look 5 = .ok (.getfield 29, 3) := by decide +kernel
theorem dX6_look_8 : decode cX6_look 8 = .ok (.if_icmp .ge 30, 3) := by decide +kernel
theorem dX6_look_11 : decode cX6_look 11 = .ok (.aload_n 0, 1) := by decide +kernel
theorem dX6_look_12 : decode cX6_look 12 = .ok (.getfield 9, 3) := by decide +kernel
theorem dX6_look_15 : decode cX6_look 15 = .ok (.aload_n 0, 1) := by decide +kernel
theorem dX6_look_16 : decode cX6_look 16 = .ok (.getfield 33, 3) := by decide +kernel
theorem dX6_look_19 : decode cX6_look 19 = .ok (.iaload, 1) := by decide +kernel
theorem dX6_look_20 : decode cX6_look 20 = .ok (.bipush 32, 2) := by decide +kernel
theorem dX6_look_22 : decode cX6_look 22 = .ok (.if_icmp .ne 16, 3) := by decide +kernel
theorem dX6_look_25 : decode cX6_look 25 = .ok (.aload_n 0, 1) := by decide +kernel
theorem dX6_look_26 : decode cX6_look 26 = .ok (.dup, 1) := by decide +kernel
theorem dX6_look_27 : decode cX6_look 27 = .ok (.getfield 33, 3) := by decide +kernel
theorem dX6_look_30 : decode cX6_look 30 = .ok (.iconst 1, 1) := by decide +kernel
theorem dX6_look_31 : decode cX6_look 31 = .ok (.iadd, 1) := by decide +kernel
theorem dX6_look_32 : decode cX6_look 32 = .ok (.putfield 33, 3) := by decide +kernel
theorem dX6_look_35 : decode cX6_look 35 = .ok (.goto (-35), 3) := by decide +kernel
theorem dX6_look_38 : decode cX6_look 38 = .ok (.aload_n 0, 1) := by decide +kernel
theorem dX6_look_39 : decode cX6_look 39 = .ok (.getfield 33, 3) := by decide +kernel
theorem dX6_look_42 : decode cX6_look 42 = .ok (.aload_n 0, 1) := by decide +kernel
theorem dX6_look_43 : decode cX6_look 43 = .ok (.getfield 29, 3) := by decide +kernel
theorem dX6_look_46 : decode cX6_look 46 = .ok (.if_icmp .ge 15, 3) := by decide +kernel
theorem dX6_look_49 : decode cX6_look 49 = .ok (.aload_n 0, 1) := by decide +kernel
theorem dX6_look_50 : decode cX6_look 50 = .ok (.getfield 9, 3) := by decide +kernel
theorem dX6_look_53 : decode cX6_look 53 = .ok (.aload_n 0, 1) := by decide +kernel
theorem dX6_look_54 : decode cX6_look 54 = .ok (.getfield 33, 3) := by decide +kernel
theorem dX6_look_57 : decode cX6_look 57 = .ok (.iaload, 1) := by decide +kernel
theorem dX6_look_58 : decode cX6_look 58 = .ok (.goto 4, 3) := by decide +kernel
theorem dX6_look_61 : decode cX6_look 61 = .ok (.iconst (-1), 1) := by decide +kernel
theorem dX6_look_62 : decode cX6_look 62 = .ok (.ireturn, 1) := by decide +kernel
theorem dX6_fail_0 : decode cX6_fail 0 = .ok (.aload_n 0, 1) := by decide +kernel
theorem dX6_fail_1 : decode cX6_fail 1 = .ok (.aload_n 0, 1) := by decide +kernel
theorem dX6_fail_2 : decode cX6_fail 2 = .ok (.getfield 33, 3) := by decide +kernel
theorem dX6_fail_5 : decode cX6_fail 5 = .ok (.putfield 36, 3) := by decide +kernel
theorem dX6_fail_8 : decode cX6_fail 8 = .ok (.iconst (-1), 1) := by decide +kernel
theorem dX6_fail_9 : decode cX6_fail 9 = .ok (.ireturn, 1) := by decide +kernel
theorem dX7_init_0 : decode cX7_init 0 = .ok (.aload_n 0, 1) := by decide +kernel
theorem dX7_init_1 : decode cX7_init 1 = .ok (.invokespecial 3, 3) := by decide +kernel
theorem dX7_init_4 : decode cX7_init 4 = .ok (.aload_n 0, 1) := by decide +kernel
