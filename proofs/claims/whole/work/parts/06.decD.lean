theorem dX10_emptyLeaves_72 : decode cX10_emptyLeaves 72 = .ok (.ireturn, 1) := by decide +kernel
theorem dX10_tree_0 : decode cX10_tree 0 = .ok (.iload_n 1, 1) := by decide +kernel
theorem dX10_tree_1 : decode cX10_tree 1 = .ok (.i2l, 1) := by decide +kernel
theorem dX10_tree_2 : decode cX10_tree 2 = .ok (.lconst 0, 1) := by decide +kernel
theorem dX10_tree_3 : decode cX10_tree 3 = .ok (.ldc2_w 217, 3) := by decide +kernel
theorem dX10_tree_6 : decode cX10_tree 6 = .ok (.invokestatic 89, 3) := by decide +kernel
theorem dX10_tree_9 : decode cX10_tree 9 = .ok (.ifCond .ne 10, 3) := by decide +kernel
theorem dX10_tree_12 : decode cX10_tree 12 = .ok (.aload_n 0, 1) := by decide +kernel
theorem dX10_tree_13 : decode cX10_tree 13 = .ok (.bipush (-2), 2) := by decide +kernel
theorem dX10_tree_15 : decode cX10_tree 15 = .ok (.invokevirtual 105, 3) := by decide +kernel
theorem dX10_tree_18 : decode cX10_tree 18 = .ok (.ireturn, 1) := by decide +kernel
theorem dX10_tree_19 : decode cX10_tree 19 = .ok (.iload_n 1, 1) := by decide +kernel
theorem dX10_tree_20 : decode cX10_tree 20 = .ok (.ifCond .ne 10, 3) := by decide +kernel
theorem dX10_tree_23 : decode cX10_tree 23 = .ok (.aload_n 0, 1) := by decide +kernel
theorem dX10_tree_24 : decode cX10_tree 24 = .ok (.getfield 31, 3) := by decide +kernel
theorem dX10_tree_27 : decode cX10_tree 27 = .ok (.goto 19, 3) := by decide +kernel
theorem dX10_tree_30 : decode cX10_tree 30 = .ok (.iload_n 1, 1) := by decide +kernel
theorem dX10_tree_31 : decode cX10_tree 31 = .ok (.iconst 1, 1) := by decide +kernel
theorem dX10_tree_32 : decode cX10_tree 32 = .ok (.if_icmp .ne 10, 3) := by decide +kernel
theorem dX10_tree_35 : decode cX10_tree 35 = .ok (.aload_n 0, 1) := by decide +kernel
theorem dX10_tree_36 : decode cX10_tree 36 = .ok (.getfield 190, 3) := by decide +kernel
theorem dX10_tree_39 : decode cX10_tree 39 = .ok (.goto 7, 3) := by decide +kernel
theorem dX10_tree_42 : decode cX10_tree 42 = .ok (.aload_n 0, 1) := by decide +kernel
theorem dX10_tree_43 : decode cX10_tree 43 = .ok (.invokevirtual 219, 3) := by decide +kernel
theorem dX10_tree_46 : decode cX10_tree 46 = .ok (.ireturn, 1) := by decide +kernel
theorem dX10_leaf_0 : decode cX10_leaf 0 = .ok (.iload_n 1, 1) := by decide +kernel
theorem dX10_leaf_1 : decode cX10_leaf 1 = .ok (.i2l, 1) := by decide +kernel
theorem dX10_leaf_2 : decode cX10_leaf 2 = .ok (.lconst 0, 1) := by decide +kernel
theorem dX10_leaf_3 : decode cX10_leaf 3 = .ok (.lconst 1, 1) := by decide +kernel
theorem dX10_leaf_4 : decode cX10_leaf 4 = .ok (.invokestatic 89, 3) := by decide +kernel
theorem dX10_leaf_7 : decode cX10_leaf 7 = .ok (.ifCond .eq 26, 3) := by decide +kernel
theorem dX10_leaf_10 : decode cX10_leaf 10 = .ok (.iload_n 1, 1) := by decide +kernel
theorem dX10_leaf_11 : decode cX10_leaf 11 = .ok (.ifCond .ne 14, 3) := by decide +kernel
theorem dX10_leaf_14 : decode cX10_leaf 14 = .ok (.aload_n 0, 1) := by decide +kernel
theorem dX10_leaf_15 : decode cX10_leaf 15 = .ok (.iload_n 2, 1) := by decide +kernel
theorem dX10_leaf_16 : decode cX10_leaf 16 = .ok (.invokevirtual 137, 3) := by decide +kernel
theorem dX10_leaf_19 : decode cX10_leaf 19 = .ok (.ifCond .ne 21, 3) := by decide +kernel
theorem dX10_leaf_22 : decode cX10_leaf 22 = .ok (.goto 11, 3) := by decide +kernel
theorem dX10_leaf_25 : decode cX10_leaf 25 = .ok (.aload_n 0, 1) := by decide +kernel
theorem dX10_leaf_26 : decode cX10_leaf 26 = .ok (.iload_n 2, 1) := by decide +kernel
theorem dX10_leaf_27 : decode cX10_leaf 27 = .ok (.invokevirtual 193, 3) := by decide +kernel
theorem dX10_leaf_30 : decode cX10_leaf 30 = .ok (.ifCond .ne 10, 3) := by decide +kernel
theorem dX10_leaf_33 : decode cX10_leaf 33 = .ok (.aload_n 0, 1) := by decide +kernel
theorem dX10_leaf_34 : decode cX10_leaf 34 = .ok (.bipush (-2), 2) := by decide +kernel
theorem dX10_leaf_36 : decode cX10_leaf 36 = .ok (.invokevirtual 105, 3) := by decide +kernel
theorem dX10_leaf_39 : decode cX10_leaf 39 = .ok (.ireturn, 1) := by decide +kernel
theorem dX10_leaf_40 : decode cX10_leaf 40 = .ok (.aload_n 0, 1) := by decide +kernel
theorem dX10_leaf_41 : decode cX10_leaf 41 = .ok (.iload_n 1, 1) := by decide +kernel
theorem dX10_leaf_42 : decode cX10_leaf 42 = .ok (.ifCond .ne 7, 3) := by decide +kernel
theorem dX10_leaf_45 : decode cX10_leaf 45 = .ok (.iconst 1, 1) := by decide +kernel
theorem dX10_leaf_46 : decode cX10_leaf 46 = .ok (.goto 4, 3) := by decide +kernel
theorem dX10_leaf_49 : decode cX10_leaf 49 = .ok (.iconst 0, 1) := by decide +kernel
theorem dX10_leaf_50 : decode cX10_leaf 50 = .ok (.iload_n 2, 1) := by decide +kernel
theorem dX10_leaf_51 : decode cX10_leaf 51 = .ok (.invokevirtual 213, 3) := by decide +kernel
theorem dX10_leaf_54 : decode cX10_leaf 54 = .ok (.ireturn, 1) := by decide +kernel
theorem dX10_wayLong_0 : decode cX10_wayLong 0 = .ok (.iconst 0, 1) := by decide +kernel
theorem dX10_wayLong_1 : decode cX10_wayLong 1 = .ok (.istore_n 2, 1) := by decide +kernel
theorem dX10_wayLong_2 : decode cX10_wayLong 2 = .ok (.iconst 0, 1) := by decide +kernel
theorem dX10_wayLong_3 : decode cX10_wayLong 3 = .ok (.istore_n 3, 1) := by decide +kernel
theorem dX10_wayLong_4 : decode cX10_wayLong 4 = .ok (.aload_n 0, 1) := by decide +kernel
theorem dX10_wayLong_5 : decode cX10_wayLong 5 = .ok (.getfield 19, 3) := by decide +kernel
theorem dX10_wayLong_8 : decode cX10_wayLong 8 = .ok (.iload_n 2, 1) := by decide +kernel
theorem dX10_wayLong_9 : decode cX10_wayLong 9 = .ok (.iaload, 1) := by decide +kernel
theorem dX10_wayLong_10 : decode cX10_wayLong 10 = .ok (.ifCond .eq 34, 3) := by decide +kernel
theorem dX10_wayLong_13 : decode cX10_wayLong 13 = .ok (.aload_n 0, 1) := by decide +kernel
theorem dX10_wayLong_14 : decode cX10_wayLong 14 = .ok (.iload_n 2, 1) := by decide +kernel
theorem dX10_wayLong_15 : decode cX10_wayLong 15 = .ok (.iload_n 1, 1) := by decide +kernel
theorem dX10_wayLong_16 : decode cX10_wayLong 16 = .ok (.invokevirtual 210, 3) := by decide +kernel
theorem dX10_wayLong_19 : decode cX10_wayLong 19 = .ok (.ifCond .eq 12, 3) := by decide +kernel
theorem dX10_wayLong_22 : decode cX10_wayLong 22 = .ok (.aload_n 0, 1) := by decide +kernel
theorem dX10_wayLong_23 : decode cX10_wayLong 23 = .ok (.getfield 25, 3) := by decide +kernel
theorem dX10_wayLong_26 : decode cX10_wayLong 26 = .ok (.iload_n 2, 1) := by decide +kernel
theorem dX10_wayLong_27 : decode cX10_wayLong 27 = .ok (.iaload, 1) := by decide +kernel
theorem dX10_wayLong_28 : decode cX10_wayLong 28 = .ok (.goto 9, 3) := by decide +kernel
theorem dX10_wayLong_31 : decode cX10_wayLong 31 = .ok (.aload_n 0, 1) := by decide +kernel
theorem dX10_wayLong_32 : decode cX10_wayLong 32 = .ok (.getfield 28, 3) := by decide +kernel
theorem dX10_wayLong_35 : decode cX10_wayLong 35 = .ok (.iload_n 2, 1) := by decide +kernel
theorem dX10_wayLong_36 : decode cX10_wayLong 36 = .ok (.iaload, 1) := by decide +kernel
theorem dX10_wayLong_37 : decode cX10_wayLong 37 = .ok (.istore_n 2, 1) := by decide +kernel
theorem dX10_wayLong_38 : decode cX10_wayLong 38 = .ok (.iinc 3 1, 3) := by decide +kernel
theorem dX10_wayLong_41 : decode cX10_wayLong 41 = .ok (.goto (-37), 3) := by decide +kernel
theorem dX10_wayLong_44 : decode cX10_wayLong 44 = .ok (.iload_n 3, 1) := by decide +kernel
theorem dX10_wayLong_45 : decode cX10_wayLong 45 = .ok (.ireturn, 1) := by decide +kernel
theorem dX10_goesAlong_0 : decode cX10_goesAlong 0 = .ok (.iconst 0, 1) := by decide +kernel
theorem dX10_goesAlong_1 : decode cX10_goesAlong 1 = .ok (.istore_n 3, 1) := by decide +kernel
theorem dX10_goesAlong_2 : decode cX10_goesAlong 2 = .ok (.iconst 0, 1) := by decide +kernel
theorem dX10_goesAlong_3 : decode cX10_goesAlong 3 = .ok (.istore 4, 2) := by decide +kernel
theorem dX10_goesAlong_5 : decode cX10_goesAlong 5 = .ok (.aload_n 0, 1) := by decide +kernel
theorem dX10_goesAlong_6 : decode cX10_goesAlong 6 = .ok (.getfield 19, 3) := by decide +kernel
theorem dX10_goesAlong_9 : decode cX10_goesAlong 9 = .ok (.iload_n 3, 1) := by decide +kernel
theorem dX10_goesAlong_10 : decode cX10_goesAlong 10 = .ok (.iaload, 1) := by decide +kernel
theorem dX10_goesAlong_11 : decode cX10_goesAlong 11 = .ok (.ifCond .eq 49, 3) := by decide +kernel
theorem dX10_goesAlong_14 : decode cX10_goesAlong 14 = .ok (.aload_n 0, 1) := by decide +kernel
theorem dX10_goesAlong_15 : decode cX10_goesAlong 15 = .ok (.iload_n 3, 1) := by decide +kernel
theorem dX10_goesAlong_16 : decode cX10_goesAlong 16 = .ok (.iload_n 1, 1) := by decide +kernel
theorem dX10_goesAlong_17 : decode cX10_goesAlong 17 = .ok (.invokevirtual 206, 3) := by decide +kernel
theorem dX10_goesAlong_20 : decode cX10_goesAlong 20 = .ok (.aload_n 0, 1) := by decide +kernel
theorem dX10_goesAlong_21 : decode cX10_goesAlong 21 = .ok (.iload_n 3, 1) := by decide +kernel
theorem dX10_goesAlong_22 : decode cX10_goesAlong 22 = .ok (.iload_n 2, 1) := by decide +kernel
theorem dX10_goesAlong_23 : decode cX10_goesAlong 23 = .ok (.invokevirtual 210, 3) := by decide +kernel
theorem dX10_goesAlong_26 : decode cX10_goesAlong 26 = .ok (.if_icmp .ne 34, 3) := by decide +kernel
theorem dX10_goesAlong_29 : decode cX10_goesAlong 29 = .ok (.aload_n 0, 1) := by decide +kernel
theorem dX10_goesAlong_30 : decode cX10_goesAlong 30 = .ok (.iload_n 3, 1) := by decide +kernel
theorem dX10_goesAlong_31 : decode cX10_goesAlong 31 = .ok (.iload_n 2, 1) := by decide +kernel
theorem dX10_goesAlong_32 : decode cX10_goesAlong 32 = .ok (.invokevirtual 210, 3) := by decide +kernel
theorem dX10_goesAlong_35 : decode cX10_goesAlong 35 = .ok (.ifCond .eq 12, 3) := by decide +kernel
theorem dX10_goesAlong_38 : decode cX10_goesAlong 38 = .ok (.aload_n 0, 1) := by decide +kernel
theorem dX10_goesAlong_39 : decode cX10_goesAlong 39 = .ok (.getfield 25, 3) := by decide +kernel
theorem dX10_goesAlong_42 : decode cX10_goesAlong 42 = .ok (.iload_n 3, 1) := by decide +kernel
theorem dX10_goesAlong_43 : decode cX10_goesAlong 43 = .ok (.iaload, 1) := by decide +kernel
theorem dX10_goesAlong_44 : decode cX10_goesAlong 44 = .ok (.goto 9, 3) := by decide +kernel
theorem dX10_goesAlong_47 : decode cX10_goesAlong 47 = .ok (.aload_n 0, 1) := by decide +kernel
theorem dX10_goesAlong_48 : decode cX10_goesAlong 48 = .ok (.getfield 28, 3) := by decide +kernel
theorem dX10_goesAlong_51 : decode cX10_goesAlong 51 = .ok (.iload_n 3, 1) := by decide +kernel
theorem dX10_goesAlong_52 : decode cX10_goesAlong 52 = .ok (.iaload, 1) := by decide +kernel
theorem dX10_goesAlong_53 : decode cX10_goesAlong 53 = .ok (.istore_n 3, 1) := by decide +kernel
theorem dX10_goesAlong_54 : decode cX10_goesAlong 54 = .ok (.iinc 4 1, 3) := by decide +kernel
theorem dX10_goesAlong_57 : decode cX10_goesAlong 57 = .ok (.goto (-52), 3) := by decide +kernel
theorem dX10_goesAlong_60 : decode cX10_goesAlong 60 = .ok (.iload 4, 2) := by decide +kernel
theorem dX10_goesAlong_62 : decode cX10_goesAlong 62 = .ok (.ireturn, 1) := by decide +kernel
theorem dX10_chooses_0 : decode cX10_chooses 0 = .ok (.aload_n 0, 1) := by decide +kernel
theorem dX10_chooses_1 : decode cX10_chooses 1 = .ok (.getfield 13, 3) := by decide +kernel
theorem dX10_chooses_4 : decode cX10_chooses 4 = .ok (.iconst 3, 1) := by decide +kernel
theorem dX10_chooses_5 : decode cX10_chooses 5 = .ok (.iload_n 1, 1) := by decide +kernel
theorem dX10_chooses_6 : decode cX10_chooses 6 = .ok (.imul, 1) := by decide +kernel
theorem dX10_chooses_7 : decode cX10_chooses 7 = .ok (.iaload, 1) := by decide +kernel
theorem dX10_chooses_8 : decode cX10_chooses 8 = .ok (.istore_n 2, 1) := by decide +kernel
theorem dX10_chooses_9 : decode cX10_chooses 9 = .ok (.iconst 0, 1) := by decide +kernel
theorem dX10_chooses_10 : decode cX10_chooses 10 = .ok (.istore_n 3, 1) := by decide +kernel
theorem dX10_chooses_11 : decode cX10_chooses 11 = .ok (.aload_n 0, 1) := by decide +kernel
theorem dX10_chooses_12 : decode cX10_chooses 12 = .ok (.iload_n 1, 1) := by decide +kernel
theorem dX10_chooses_13 : decode cX10_chooses 13 = .ok (.invokevirtual 222, 3) := by decide +kernel
theorem dX10_chooses_16 : decode cX10_chooses 16 = .ok (.istore 4, 2) := by decide +kernel
theorem dX10_chooses_18 : decode cX10_chooses 18 = .ok (.aload_n 0, 1) := by decide +kernel
theorem dX10_chooses_19 : decode cX10_chooses 19 = .ok (.iconst 0, 1) := by decide +kernel
theorem dX10_chooses_20 : decode cX10_chooses 20 = .ok (.putfield 225, 3) := by decide +kernel
theorem dX10_chooses_23 : decode cX10_chooses 23 = .ok (.aload_n 0, 1) := by decide +kernel
theorem dX10_chooses_24 : decode cX10_chooses 24 = .ok (.iconst 0, 1) := by decide +kernel
theorem dX10_chooses_25 : decode cX10_chooses 25 = .ok (.putfield 228, 3) := by decide +kernel
theorem dX10_chooses_28 : decode cX10_chooses 28 = .ok (.iload_n 3, 1) := by decide +kernel
theorem dX10_chooses_29 : decode cX10_chooses 29 = .ok (.iload_n 2, 1) := by decide +kernel
theorem dX10_chooses_30 : decode cX10_chooses 30 = .ok (.ishr, 1) := by decide +kernel
theorem dX10_chooses_31 : decode cX10_chooses 31 = .ok (.iconst 1, 1) := by decide +kernel
theorem dX10_chooses_32 : decode cX10_chooses 32 = .ok (.iand, 1) := by decide +kernel
theorem dX10_chooses_33 : decode cX10_chooses 33 = .ok (.ifCond .ne 224, 3) := by decide +kernel
theorem dX10_chooses_36 : decode cX10_chooses 36 = .ok (.iconst (-1), 1) := by decide +kernel
theorem dX10_chooses_37 : decode cX10_chooses 37 = .ok (.istore 5, 2) := by decide +kernel
theorem dX10_chooses_39 : decode cX10_chooses 39 = .ok (.iload_n 3, 1) := by decide +kernel
theorem dX10_chooses_40 : decode cX10_chooses 40 = .ok (.iconst 1, 1) := by decide +kernel
theorem dX10_chooses_41 : decode cX10_chooses 41 = .ok (.iload_n 2, 1) := by decide +kernel
theorem dX10_chooses_42 : decode cX10_chooses 42 = .ok (.ishl, 1) := by decide +kernel
theorem dX10_chooses_43 : decode cX10_chooses 43 = .ok (.ior, 1) := by decide +kernel
theorem dX10_chooses_44 : decode cX10_chooses 44 = .ok (.istore_n 3, 1) := by decide +kernel
theorem dX10_chooses_45 : decode cX10_chooses 45 = .ok (.aload_n 0, 1) := by decide +kernel
theorem dX10_chooses_46 : decode cX10_chooses 46 = .ok (.dup, 1) := by decide +kernel
theorem dX10_chooses_47 : decode cX10_chooses 47 = .ok (.getfield 228, 3) := by decide +kernel
theorem dX10_chooses_50 : decode cX10_chooses 50 = .ok (.iconst 1, 1) := by decide +kernel
theorem dX10_chooses_51 : decode cX10_chooses 51 = .ok (.iadd, 1) := by decide +kernel
theorem dX10_chooses_52 : decode cX10_chooses 52 = .ok (.putfield 228, 3) := by decide +kernel
theorem dX10_chooses_55 : decode cX10_chooses 55 = .ok (.iconst 0, 1) := by decide +kernel
theorem dX10_chooses_56 : decode cX10_chooses 56 = .ok (.istore 6, 2) := by decide +kernel
theorem dX10_chooses_58 : decode cX10_chooses 58 = .ok (.iload 6, 2) := by decide +kernel
theorem dX10_chooses_60 : decode cX10_chooses 60 = .ok (.aload_n 0, 1) := by decide +kernel
theorem dX10_chooses_61 : decode cX10_chooses 61 = .ok (.getfield 86, 3) := by decide +kernel
theorem dX10_chooses_64 : decode cX10_chooses 64 = .ok (.if_icmp .ge 70, 3) := by decide +kernel
theorem dX10_chooses_67 : decode cX10_chooses 67 = .ok (.iload 6, 2) := by decide +kernel
theorem dX10_chooses_69 : decode cX10_chooses 69 = .ok (.aload_n 0, 1) := by decide +kernel
theorem dX10_chooses_70 : decode cX10_chooses 70 = .ok (.getfield 68, 3) := by decide +kernel
theorem dX10_chooses_73 : decode cX10_chooses 73 = .ok (.if_icmp .eq 18, 3) := by decide +kernel
theorem dX10_chooses_76 : decode cX10_chooses 76 = .ok (.aload_n 0, 1) := by decide +kernel
theorem dX10_chooses_77 : decode cX10_chooses 77 = .ok (.iload 6, 2) := by decide +kernel
theorem dX10_chooses_79 : decode cX10_chooses 79 = .ok (.iconst 0, 1) := by decide +kernel
theorem dX10_chooses_80 : decode cX10_chooses 80 = .ok (.invokevirtual 125, 3) := by decide +kernel
theorem dX10_chooses_83 : decode cX10_chooses 83 = .ok (.iload_n 2, 1) := by decide +kernel
theorem dX10_chooses_84 : decode cX10_chooses 84 = .ok (.if_icmp .ne 7, 3) := by decide +kernel
theorem dX10_chooses_87 : decode cX10_chooses 87 = .ok (.iconst 1, 1) := by decide +kernel
theorem dX10_chooses_88 : decode cX10_chooses 88 = .ok (.goto 4, 3) := by decide +kernel
theorem dX10_chooses_91 : decode cX10_chooses 91 = .ok (.iconst 0, 1) := by decide +kernel
theorem dX10_chooses_92 : decode cX10_chooses 92 = .ok (.istore 7, 2) := by decide +kernel
theorem dX10_chooses_94 : decode cX10_chooses 94 = .ok (.iload 7, 2) := by decide +kernel
theorem dX10_chooses_96 : decode cX10_chooses 96 = .ok (.ifCond .eq 13, 3) := by decide +kernel
theorem dX10_chooses_99 : decode cX10_chooses 99 = .ok (.aload_n 0, 1) := by decide +kernel
theorem dX10_chooses_100 : decode cX10_chooses 100 = .ok (.iload 6, 2) := by decide +kernel
theorem dX10_chooses_102 : decode cX10_chooses 102 = .ok (.iload_n 1, 1) := by decide +kernel
theorem dX10_chooses_103 : decode cX10_chooses 103 = .ok (.invokevirtual 231, 3) := by decide +kernel
theorem dX10_chooses_106 : decode cX10_chooses 106 = .ok (.goto 4, 3) := by decide +kernel
theorem dX10_chooses_109 : decode cX10_chooses 109 = .ok (.iconst (-1), 1) := by decide +kernel
theorem dX10_chooses_110 : decode cX10_chooses 110 = .ok (.istore 8, 2) := by decide +kernel
theorem dX10_chooses_112 : decode cX10_chooses 112 = .ok (.iload 8, 2) := by decide +kernel
theorem dX10_chooses_114 : decode cX10_chooses 114 = .ok (.iload 5, 2) := by decide +kernel
theorem dX10_chooses_116 : decode cX10_chooses 116 = .ok (.if_icmp .le 8, 3) := by decide +kernel
theorem dX10_chooses_119 : decode cX10_chooses 119 = .ok (.iload 8, 2) := by decide +kernel
theorem dX10_chooses_121 : decode cX10_chooses 121 = .ok (.goto 5, 3) := by decide +kernel
theorem dX10_chooses_124 : decode cX10_chooses 124 = .ok (.iload 5, 2) := by decide +kernel
theorem dX10_chooses_126 : decode cX10_chooses 126 = .ok (.istore 5, 2) := by decide +kernel
theorem dX10_chooses_128 : decode cX10_chooses 128 = .ok (.iinc 6 1, 3) := by decide +kernel
theorem dX10_chooses_131 : decode cX10_chooses 131 = .ok (.goto (-73), 3) := by decide +kernel
theorem dX10_chooses_134 : decode cX10_chooses 134 = .ok (.iload 5, 2) := by decide +kernel
theorem dX10_chooses_136 : decode cX10_chooses 136 = .ok (.iconst (-1), 1) := by decide +kernel
theorem dX10_chooses_137 : decode cX10_chooses 137 = .ok (.if_icmp .eq 97, 3) := by decide +kernel
theorem dX10_chooses_140 : decode cX10_chooses 140 = .ok (.iconst 0, 1) := by decide +kernel
theorem dX10_chooses_141 : decode cX10_chooses 141 = .ok (.istore 6, 2) := by decide +kernel
theorem dX10_chooses_143 : decode cX10_chooses 143 = .ok (.iconst 0, 1) := by decide +kernel
theorem dX10_chooses_144 : decode cX10_chooses 144 = .ok (.istore 7, 2) := by decide +kernel
theorem dX10_chooses_146 : decode cX10_chooses 146 = .ok (.iload 7, 2) := by decide +kernel
theorem dX10_chooses_148 : decode cX10_chooses 148 = .ok (.aload_n 0, 1) := by decide +kernel
theorem dX10_chooses_149 : decode cX10_chooses 149 = .ok (.getfield 86, 3) := by decide +kernel
theorem dX10_chooses_152 : decode cX10_chooses 152 = .ok (.if_icmp .ge 58, 3) := by decide +kernel
theorem dX10_chooses_155 : decode cX10_chooses 155 = .ok (.iload 7, 2) := by decide +kernel
theorem dX10_chooses_157 : decode cX10_chooses 157 = .ok (.aload_n 0, 1) := by decide +kernel
theorem dX10_chooses_158 : decode cX10_chooses 158 = .ok (.getfield 68, 3) := by decide +kernel
theorem dX10_chooses_161 : decode cX10_chooses 161 = .ok (.if_icmp .eq 43, 3) := by decide +kernel
theorem dX10_chooses_164 : decode cX10_chooses 164 = .ok (.aload_n 0, 1) := by decide +kernel
theorem dX10_chooses_165 : decode cX10_chooses 165 = .ok (.iload 7, 2) := by decide +kernel
theorem dX10_chooses_167 : decode cX10_chooses 167 = .ok (.iconst 0, 1) := by decide +kernel
theorem dX10_chooses_168 : decode cX10_chooses 168 = .ok (.invokevirtual 125, 3) := by decide +kernel
theorem dX10_chooses_171 : decode cX10_chooses 171 = .ok (.iload_n 2, 1) := by decide +kernel
theorem dX10_chooses_172 : decode cX10_chooses 172 = .ok (.if_icmp .ne 32, 3) := by decide +kernel
theorem dX10_chooses_175 : decode cX10_chooses 175 = .ok (.aload_n 0, 1) := by decide +kernel
theorem dX10_chooses_176 : decode cX10_chooses 176 = .ok (.iload 7, 2) := by decide +kernel
theorem dX10_chooses_178 : decode cX10_chooses 178 = .ok (.iload_n 1, 1) := by decide +kernel
theorem dX10_chooses_179 : decode cX10_chooses 179 = .ok (.invokevirtual 231, 3) := by decide +kernel
theorem dX10_chooses_182 : decode cX10_chooses 182 = .ok (.iload 5, 2) := by decide +kernel
theorem dX10_chooses_184 : decode cX10_chooses 184 = .ok (.if_icmp .ne 20, 3) := by decide +kernel
theorem dX10_chooses_187 : decode cX10_chooses 187 = .ok (.aload_n 0, 1) := by decide +kernel
theorem dX10_chooses_188 : decode cX10_chooses 188 = .ok (.getfield 62, 3) := by decide +kernel
theorem dX10_chooses_191 : decode cX10_chooses 191 = .ok (.bipush 40, 2) := by decide +kernel
theorem dX10_chooses_193 : decode cX10_chooses 193 = .ok (.iload_n 1, 1) := by decide +kernel
theorem dX10_chooses_194 : decode cX10_chooses 194 = .ok (.imul, 1) := by decide +kernel
theorem dX10_chooses_195 : decode cX10_chooses 195 = .ok (.iload 6, 2) := by decide +kernel
theorem dX10_chooses_197 : decode cX10_chooses 197 = .ok (.iadd, 1) := by decide +kernel
theorem dX10_chooses_198 : decode cX10_chooses 198 = .ok (.iload 7, 2) := by decide +kernel
theorem dX10_chooses_200 : decode cX10_chooses 200 = .ok (.iastore, 1) := by decide +kernel
theorem dX10_chooses_201 : decode cX10_chooses 201 = .ok (.iinc 6 1, 3) := by decide +kernel
theorem dX10_chooses_204 : decode cX10_chooses 204 = .ok (.iinc 7 1, 3) := by decide +kernel
theorem dX10_chooses_207 : decode cX10_chooses 207 = .ok (.goto (-61), 3) := by decide +kernel
theorem dX10_chooses_210 : decode cX10_chooses 210 = .ok (.aload_n 0, 1) := by decide +kernel
theorem dX10_chooses_211 : decode cX10_chooses 211 = .ok (.getfield 65, 3) := by decide +kernel
theorem dX10_chooses_214 : decode cX10_chooses 214 = .ok (.iload_n 1, 1) := by decide +kernel
theorem dX10_chooses_215 : decode cX10_chooses 215 = .ok (.iload 6, 2) := by decide +kernel
theorem dX10_chooses_217 : decode cX10_chooses 217 = .ok (.iastore, 1) := by decide +kernel
theorem dX10_chooses_218 : decode cX10_chooses 218 = .ok (.aload_n 0, 1) := by decide +kernel
theorem dX10_chooses_219 : decode cX10_chooses 219 = .ok (.dup, 1) := by decide +kernel
theorem dX10_chooses_220 : decode cX10_chooses 220 = .ok (.getfield 225, 3) := by decide +kernel
theorem dX10_chooses_223 : decode cX10_chooses 223 = .ok (.iload 4, 2) := by decide +kernel
theorem dX10_chooses_225 : decode cX10_chooses 225 = .ok (.iload 5, 2) := by decide +kernel
theorem dX10_chooses_227 : decode cX10_chooses 227 = .ok (.isub, 1) := by decide +kernel
theorem dX10_chooses_228 : decode cX10_chooses 228 = .ok (.iadd, 1) := by decide +kernel
theorem dX10_chooses_229 : decode cX10_chooses 229 = .ok (.putfield 225, 3) := by decide +kernel
theorem dX10_chooses_232 : decode cX10_chooses 232 = .ok (.iconst 1, 1) := by decide +kernel
theorem dX10_chooses_233 : decode cX10_chooses 233 = .ok (.ireturn, 1) := by decide +kernel
theorem dX10_chooses_234 : decode cX10_chooses 234 = .ok (.aload_n 0, 1) := by decide +kernel
theorem dX10_chooses_235 : decode cX10_chooses 235 = .ok (.dup, 1) := by decide +kernel
theorem dX10_chooses_236 : decode cX10_chooses 236 = .ok (.getfield 225, 3) := by decide +kernel
theorem dX10_chooses_239 : decode cX10_chooses 239 = .ok (.iload 4, 2) := by decide +kernel
theorem dX10_chooses_241 : decode cX10_chooses 241 = .ok (.iconst 1, 1) := by decide +kernel
theorem dX10_chooses_242 : decode cX10_chooses 242 = .ok (.iadd, 1) := by decide +kernel
theorem dX10_chooses_243 : decode cX10_chooses 243 = .ok (.iadd, 1) := by decide +kernel
theorem dX10_chooses_244 : decode cX10_chooses 244 = .ok (.putfield 225, 3) := by decide +kernel
theorem dX10_chooses_247 : decode cX10_chooses 247 = .ok (.aload_n 0, 1) := by decide +kernel
theorem dX10_chooses_248 : decode cX10_chooses 248 = .ok (.getfield 16, 3) := by decide +kernel
theorem dX10_chooses_251 : decode cX10_chooses 251 = .ok (.iload_n 2, 1) := by decide +kernel
theorem dX10_chooses_252 : decode cX10_chooses 252 = .ok (.iaload, 1) := by decide +kernel
theorem dX10_chooses_253 : decode cX10_chooses 253 = .ok (.istore_n 2, 1) := by decide +kernel
theorem dX10_chooses_254 : decode cX10_chooses 254 = .ok (.goto (-226), 3) := by decide +kernel
theorem dX10_chooses_257 : decode cX10_chooses 257 = .ok (.iconst 0, 1) := by decide +kernel
theorem dX10_chooses_258 : decode cX10_chooses 258 = .ok (.ireturn, 1) := by decide +kernel
theorem dX10_choice_0 : decode cX10_choice 0 = .ok (.iload_n 1, 1) := by decide +kernel
theorem dX10_choice_1 : decode cX10_choice 1 = .ok (.i2l, 1) := by decide +kernel
theorem dX10_choice_2 : decode cX10_choice 2 = .ok (.lconst 0, 1) := by decide +kernel
theorem dX10_choice_3 : decode cX10_choice 3 = .ok (.ldc2_w 234, 3) := by decide +kernel
theorem dX10_choice_6 : decode cX10_choice 6 = .ok (.invokestatic 89, 3) := by decide +kernel
theorem dX10_choice_9 : decode cX10_choice 9 = .ok (.ifCond .eq 23, 3) := by decide +kernel
theorem dX10_choice_12 : decode cX10_choice 12 = .ok (.aload_n 0, 1) := by decide +kernel
theorem dX10_choice_13 : decode cX10_choice 13 = .ok (.getfield 187, 3) := by decide +kernel
theorem dX10_choice_16 : decode cX10_choice 16 = .ok (.ifCond .le 11, 3) := by decide +kernel
theorem dX10_choice_19 : decode cX10_choice 19 = .ok (.iload_n 1, 1) := by decide +kernel
theorem dX10_choice_20 : decode cX10_choice 20 = .ok (.aload_n 0, 1) := by decide +kernel
theorem dX10_choice_21 : decode cX10_choice 21 = .ok (.getfield 187, 3) := by decide +kernel
theorem dX10_choice_24 : decode cX10_choice 24 = .ok (.if_icmp .ge 8, 3) := by decide +kernel
theorem dX10_choice_27 : decode cX10_choice 27 = .ok (.iload_n 2, 1) := by decide +kernel
theorem dX10_choice_28 : decode cX10_choice 28 = .ok (.iconst (-1), 1) := by decide +kernel
theorem dX10_choice_29 : decode cX10_choice 29 = .ok (.if_icmp .ge 10, 3) := by decide +kernel
theorem dX10_choice_32 : decode cX10_choice 32 = .ok (.aload_n 0, 1) := by decide +kernel
theorem dX10_choice_33 : decode cX10_choice 33 = .ok (.bipush (-10), 2) := by decide +kernel
theorem dX10_choice_35 : decode cX10_choice 35 = .ok (.invokevirtual 105, 3) := by decide +kernel
theorem dX10_choice_38 : decode cX10_choice 38 = .ok (.ireturn, 1) := by decide +kernel
theorem dX10_choice_39 : decode cX10_choice 39 = .ok (.aload_n 0, 1) := by decide +kernel
theorem dX10_choice_40 : decode cX10_choice 40 = .ok (.getfield 187, 3) := by decide +kernel
theorem dX10_choice_43 : decode cX10_choice 43 = .ok (.ifCond .eq 11, 3) := by decide +kernel
theorem dX10_choice_46 : decode cX10_choice 46 = .ok (.aload_n 0, 1) := by decide +kernel
theorem dX10_choice_47 : decode cX10_choice 47 = .ok (.iload_n 1, 1) := by decide +kernel
theorem dX10_choice_48 : decode cX10_choice 48 = .ok (.invokevirtual 236, 3) := by decide +kernel
theorem dX10_choice_51 : decode cX10_choice 51 = .ok (.ifCond .ne 8, 3) := by decide +kernel
theorem dX10_choice_54 : decode cX10_choice 54 = .ok (.aload_n 0, 1) := by decide +kernel
theorem dX10_choice_55 : decode cX10_choice 55 = .ok (.invokevirtual 239, 3) := by decide +kernel
theorem dX10_choice_58 : decode cX10_choice 58 = .ok (.ireturn, 1) := by decide +kernel
theorem dX10_choice_59 : decode cX10_choice 59 = .ok (.iload_n 2, 1) := by decide +kernel
theorem dX10_choice_60 : decode cX10_choice 60 = .ok (.iconst (-1), 1) := by decide +kernel
theorem dX10_choice_61 : decode cX10_choice 61 = .ok (.if_icmp .ne 12, 3) := by decide +kernel
theorem dX10_choice_64 : decode cX10_choice 64 = .ok (.aload_n 0, 1) := by decide +kernel
theorem dX10_choice_65 : decode cX10_choice 65 = .ok (.getfield 65, 3) := by decide +kernel
theorem dX10_choice_68 : decode cX10_choice 68 = .ok (.iload_n 1, 1) := by decide +kernel
theorem dX10_choice_69 : decode cX10_choice 69 = .ok (.iaload, 1) := by decide +kernel
theorem dX10_choice_70 : decode cX10_choice 70 = .ok (.goto 29, 3) := by decide +kernel
theorem dX10_choice_73 : decode cX10_choice 73 = .ok (.iload_n 2, 1) := by decide +kernel
theorem dX10_choice_74 : decode cX10_choice 74 = .ok (.aload_n 0, 1) := by decide +kernel
theorem dX10_choice_75 : decode cX10_choice 75 = .ok (.getfield 65, 3) := by decide +kernel
theorem dX10_choice_78 : decode cX10_choice 78 = .ok (.iload_n 1, 1) := by decide +kernel
theorem dX10_choice_79 : decode cX10_choice 79 = .ok (.iaload, 1) := by decide +kernel
theorem dX10_choice_80 : decode cX10_choice 80 = .ok (.if_icmp .ge 17, 3) := by decide +kernel
theorem dX10_choice_83 : decode cX10_choice 83 = .ok (.aload_n 0, 1) := by decide +kernel
theorem dX10_choice_84 : decode cX10_choice 84 = .ok (.getfield 62, 3) := by decide +kernel
theorem dX10_choice_87 : decode cX10_choice 87 = .ok (.bipush 40, 2) := by decide +kernel
theorem dX10_choice_89 : decode cX10_choice 89 = .ok (.iload_n 1, 1) := by decide +kernel
theorem dX10_choice_90 : decode cX10_choice 90 = .ok (.imul, 1) := by decide +kernel
theorem dX10_choice_91 : decode cX10_choice 91 = .ok (.iload_n 2, 1) := by decide +kernel
theorem dX10_choice_92 : decode cX10_choice 92 = .ok (.iadd, 1) := by decide +kernel
theorem dX10_choice_93 : decode cX10_choice 93 = .ok (.iaload, 1) := by decide +kernel
theorem dX10_choice_94 : decode cX10_choice 94 = .ok (.goto 5, 3) := by decide +kernel
theorem dX10_choice_97 : decode cX10_choice 97 = .ok (.bipush (-5), 2) := by decide +kernel
theorem dX10_choice_99 : decode cX10_choice 99 = .ok (.ireturn, 1) := by decide +kernel
theorem dX10_steps_0 : decode cX10_steps 0 = .ok (.aload_n 0, 1) := by decide +kernel
theorem dX10_steps_1 : decode cX10_steps 1 = .ok (.iload_n 1, 1) := by decide +kernel
theorem dX10_steps_2 : decode cX10_steps 2 = .ok (.invokevirtual 193, 3) := by decide +kernel
theorem dX10_steps_5 : decode cX10_steps 5 = .ok (.ifCond .ne 10, 3) := by decide +kernel
theorem dX10_steps_8 : decode cX10_steps 8 = .ok (.aload_n 0, 1) := by decide +kernel
theorem dX10_steps_9 : decode cX10_steps 9 = .ok (.bipush (-2), 2) := by decide +kernel
theorem dX10_steps_11 : decode cX10_steps 11 = .ok (.invokevirtual 105, 3) := by decide +kernel
theorem dX10_steps_14 : decode cX10_steps 14 = .ok (.ireturn, 1) := by decide +kernel
theorem dX10_steps_15 : decode cX10_steps 15 = .ok (.aload_n 0, 1) := by decide +kernel
theorem dX10_steps_16 : decode cX10_steps 16 = .ok (.iload_n 1, 1) := by decide +kernel
theorem dX10_steps_17 : decode cX10_steps 17 = .ok (.invokevirtual 236, 3) := by decide +kernel
theorem dX10_steps_20 : decode cX10_steps 20 = .ok (.ifCond .eq 10, 3) := by decide +kernel
theorem dX10_steps_23 : decode cX10_steps 23 = .ok (.aload_n 0, 1) := by decide +kernel
theorem dX10_steps_24 : decode cX10_steps 24 = .ok (.getfield 225, 3) := by decide +kernel
theorem dX10_steps_27 : decode cX10_steps 27 = .ok (.goto 4, 3) := by decide +kernel
theorem dX10_steps_30 : decode cX10_steps 30 = .ok (.iconst (-1), 1) := by decide +kernel
theorem dX10_steps_31 : decode cX10_steps 31 = .ok (.ireturn, 1) := by decide +kernel
theorem dX10_tried_0 : decode cX10_tried 0 = .ok (.aload_n 0, 1) := by decide +kernel
theorem dX10_tried_1 : decode cX10_tried 1 = .ok (.iload_n 1, 1) := by decide +kernel
theorem dX10_tried_2 : decode cX10_tried 2 = .ok (.invokevirtual 193, 3) := by decide +kernel
theorem dX10_tried_5 : decode cX10_tried 5 = .ok (.ifCond .ne 10, 3) := by decide +kernel
theorem dX10_tried_8 : decode cX10_tried 8 = .ok (.aload_n 0, 1) := by decide +kernel
theorem dX10_tried_9 : decode cX10_tried 9 = .ok (.bipush (-2), 2) := by decide +kernel
theorem dX10_tried_11 : decode cX10_tried 11 = .ok (.invokevirtual 105, 3) := by decide +kernel
theorem dX10_tried_14 : decode cX10_tried 14 = .ok (.ireturn, 1) := by decide +kernel
theorem dX10_tried_15 : decode cX10_tried 15 = .ok (.aload_n 0, 1) := by decide +kernel
theorem dX10_tried_16 : decode cX10_tried 16 = .ok (.iload_n 1, 1) := by decide +kernel
theorem dX10_tried_17 : decode cX10_tried 17 = .ok (.invokevirtual 236, 3) := by decide +kernel
theorem dX10_tried_20 : decode cX10_tried 20 = .ok (.istore_n 2, 1) := by decide +kernel
theorem dX10_tried_21 : decode cX10_tried 21 = .ok (.aload_n 0, 1) := by decide +kernel
theorem dX10_tried_22 : decode cX10_tried 22 = .ok (.getfield 228, 3) := by decide +kernel
theorem dX10_tried_25 : decode cX10_tried 25 = .ok (.ireturn, 1) := by decide +kernel
theorem dX10_fitAs_0 : decode cX10_fitAs 0 = .ok (.aload_n 0, 1) := by decide +kernel
theorem dX10_fitAs_1 : decode cX10_fitAs 1 = .ok (.iload_n 2, 1) := by decide +kernel
theorem dX10_fitAs_2 : decode cX10_fitAs 2 = .ok (.iconst 3, 1) := by decide +kernel
theorem dX10_fitAs_3 : decode cX10_fitAs 3 = .ok (.invokevirtual 125, 3) := by decide +kernel
theorem dX10_fitAs_6 : decode cX10_fitAs 6 = .ok (.aload_n 0, 1) := by decide +kernel
theorem dX10_fitAs_7 : decode cX10_fitAs 7 = .ok (.getfield 13, 3) := by decide +kernel
theorem dX10_fitAs_10 : decode cX10_fitAs 10 = .ok (.iconst 3, 1) := by decide +kernel
theorem dX10_fitAs_11 : decode cX10_fitAs 11 = .ok (.iload_n 3, 1) := by decide +kernel
theorem dX10_fitAs_12 : decode cX10_fitAs 12 = .ok (.imul, 1) := by decide +kernel
theorem dX10_fitAs_13 : decode cX10_fitAs 13 = .ok (.iconst 1, 1) := by decide +kernel
theorem dX10_fitAs_14 : decode cX10_fitAs 14 = .ok (.iadd, 1) := by decide +kernel
theorem dX10_fitAs_15 : decode cX10_fitAs 15 = .ok (.iaload, 1) := by decide +kernel
theorem dX10_fitAs_16 : decode cX10_fitAs 16 = .ok (.invokestatic 242, 3) := by decide +kernel
theorem dX10_fitAs_19 : decode cX10_fitAs 19 = .ok (.istore 4, 2) := by decide +kernel
theorem dX10_fitAs_21 : decode cX10_fitAs 21 = .ok (.iload 4, 2) := by decide +kernel
theorem dX10_fitAs_23 : decode cX10_fitAs 23 = .ok (.aload_n 0, 1) := by decide +kernel
theorem dX10_fitAs_24 : decode cX10_fitAs 24 = .ok (.iload_n 2, 1) := by decide +kernel
theorem dX10_fitAs_25 : decode cX10_fitAs 25 = .ok (.iconst 4, 1) := by decide +kernel
theorem dX10_fitAs_26 : decode cX10_fitAs 26 = .ok (.invokevirtual 125, 3) := by decide +kernel
theorem dX10_fitAs_29 : decode cX10_fitAs 29 = .ok (.aload_n 0, 1) := by decide +kernel
theorem dX10_fitAs_30 : decode cX10_fitAs 30 = .ok (.getfield 13, 3) := by decide +kernel
theorem dX10_fitAs_33 : decode cX10_fitAs 33 = .ok (.iconst 3, 1) := by decide +kernel
theorem dX10_fitAs_34 : decode cX10_fitAs 34 = .ok (.iload_n 3, 1) := by decide +kernel
theorem dX10_fitAs_35 : decode cX10_fitAs 35 = .ok (.imul, 1) := by decide +kernel
theorem dX10_fitAs_36 : decode cX10_fitAs 36 = .ok (.iconst 2, 1) := by decide +kernel
theorem dX10_fitAs_37 : decode cX10_fitAs 37 = .ok (.iadd, 1) := by decide +kernel
theorem dX10_fitAs_38 : decode cX10_fitAs 38 = .ok (.iaload, 1) := by decide +kernel
theorem dX10_fitAs_39 : decode cX10_fitAs 39 = .ok (.invokestatic 242, 3) := by decide +kernel
theorem dX10_fitAs_42 : decode cX10_fitAs 42 = .ok (.iadd, 1) := by decide +kernel
theorem dX10_fitAs_43 : decode cX10_fitAs 43 = .ok (.istore 5, 2) := by decide +kernel
theorem dX10_fitAs_45 : decode cX10_fitAs 45 = .ok (.iload 5, 2) := by decide +kernel
theorem dX10_fitAs_47 : decode cX10_fitAs 47 = .ok (.aload_n 0, 1) := by decide +kernel
theorem dX10_fitAs_48 : decode cX10_fitAs 48 = .ok (.iload_n 2, 1) := by decide +kernel
theorem dX10_fitAs_49 : decode cX10_fitAs 49 = .ok (.iconst 1, 1) := by decide +kernel
theorem dX10_fitAs_50 : decode cX10_fitAs 50 = .ok (.invokevirtual 125, 3) := by decide +kernel
theorem dX10_fitAs_53 : decode cX10_fitAs 53 = .ok (.aload_n 0, 1) := by decide +kernel
theorem dX10_fitAs_54 : decode cX10_fitAs 54 = .ok (.iload_n 3, 1) := by decide +kernel
theorem dX10_fitAs_55 : decode cX10_fitAs 55 = .ok (.invokevirtual 196, 3) := by decide +kernel
theorem dX10_fitAs_58 : decode cX10_fitAs 58 = .ok (.if_icmp .ne 7, 3) := by decide +kernel
theorem dX10_fitAs_61 : decode cX10_fitAs 61 = .ok (.iconst 0, 1) := by decide +kernel
theorem dX10_fitAs_62 : decode cX10_fitAs 62 = .ok (.goto 4, 3) := by decide +kernel
theorem dX10_fitAs_65 : decode cX10_fitAs 65 = .ok (.iconst 2, 1) := by decide +kernel
theorem dX10_fitAs_66 : decode cX10_fitAs 66 = .ok (.iadd, 1) := by decide +kernel
theorem dX10_fitAs_67 : decode cX10_fitAs 67 = .ok (.aload_n 0, 1) := by decide +kernel
theorem dX10_fitAs_68 : decode cX10_fitAs 68 = .ok (.iload_n 2, 1) := by decide +kernel
theorem dX10_fitAs_69 : decode cX10_fitAs 69 = .ok (.iconst 2, 1) := by decide +kernel
theorem dX10_fitAs_70 : decode cX10_fitAs 70 = .ok (.invokevirtual 125, 3) := by decide +kernel
theorem dX10_fitAs_73 : decode cX10_fitAs 73 = .ok (.aload_n 0, 1) := by decide +kernel
theorem dX10_fitAs_74 : decode cX10_fitAs 74 = .ok (.iload_n 3, 1) := by decide +kernel
theorem dX10_fitAs_75 : decode cX10_fitAs 75 = .ok (.invokevirtual 199, 3) := by decide +kernel
theorem dX10_fitAs_78 : decode cX10_fitAs 78 = .ok (.if_icmp .ne 7, 3) := by decide +kernel
theorem dX10_fitAs_81 : decode cX10_fitAs 81 = .ok (.iconst 0, 1) := by decide +kernel
theorem dX10_fitAs_82 : decode cX10_fitAs 82 = .ok (.goto 4, 3) := by decide +kernel
theorem dX10_fitAs_85 : decode cX10_fitAs 85 = .ok (.iconst 2, 1) := by decide +kernel
theorem dX10_fitAs_86 : decode cX10_fitAs 86 = .ok (.iadd, 1) := by decide +kernel
theorem dX10_fitAs_87 : decode cX10_fitAs 87 = .ok (.istore 6, 2) := by decide +kernel
theorem dX10_fitAs_89 : decode cX10_fitAs 89 = .ok (.iload_n 1, 1) := by decide +kernel
theorem dX10_fitAs_90 : decode cX10_fitAs 90 = .ok (.ifCond .ne 8, 3) := by decide +kernel
theorem dX10_fitAs_93 : decode cX10_fitAs 93 = .ok (.iload 5, 2) := by decide +kernel
theorem dX10_fitAs_95 : decode cX10_fitAs 95 = .ok (.goto 45, 3) := by decide +kernel
theorem dX10_fitAs_98 : decode cX10_fitAs 98 = .ok (.iload_n 1, 1) := by decide +kernel
theorem dX10_fitAs_99 : decode cX10_fitAs 99 = .ok (.iconst 1, 1) := by decide +kernel
theorem dX10_fitAs_100 : decode cX10_fitAs 100 = .ok (.if_icmp .ne 8, 3) := by decide +kernel
theorem dX10_fitAs_103 : decode cX10_fitAs 103 = .ok (.iload 6, 2) := by decide +kernel
theorem dX10_fitAs_105 : decode cX10_fitAs 105 = .ok (.goto 35, 3) := by decide +kernel
theorem dX10_fitAs_108 : decode cX10_fitAs 108 = .ok (.iload_n 1, 1) := by decide +kernel
theorem dX10_fitAs_109 : decode cX10_fitAs 109 = .ok (.iconst 2, 1) := by decide +kernel
theorem dX10_fitAs_110 : decode cX10_fitAs 110 = .ok (.if_icmp .ne 11, 3) := by decide +kernel
theorem dX10_fitAs_113 : decode cX10_fitAs 113 = .ok (.iload 5, 2) := by decide +kernel
theorem dX10_fitAs_115 : decode cX10_fitAs 115 = .ok (.iload 4, 2) := by decide +kernel
theorem dX10_fitAs_117 : decode cX10_fitAs 117 = .ok (.iadd, 1) := by decide +kernel
theorem dX10_fitAs_118 : decode cX10_fitAs 118 = .ok (.goto 22, 3) := by decide +kernel
theorem dX10_fitAs_121 : decode cX10_fitAs 121 = .ok (.iload_n 1, 1) := by decide +kernel
theorem dX10_fitAs_122 : decode cX10_fitAs 122 = .ok (.iconst 3, 1) := by decide +kernel
theorem dX10_fitAs_123 : decode cX10_fitAs 123 = .ok (.if_icmp .ne 10, 3) := by decide +kernel
theorem dX10_fitAs_126 : decode cX10_fitAs 126 = .ok (.iconst 2, 1) := by decide +kernel
theorem dX10_fitAs_127 : decode cX10_fitAs 127 = .ok (.iload 6, 2) := by decide +kernel
theorem dX10_fitAs_129 : decode cX10_fitAs 129 = .ok (.imul, 1) := by decide +kernel
theorem dX10_fitAs_130 : decode cX10_fitAs 130 = .ok (.goto 10, 3) := by decide +kernel
theorem dX10_fitAs_133 : decode cX10_fitAs 133 = .ok (.iload 5, 2) := by decide +kernel
theorem dX10_fitAs_135 : decode cX10_fitAs 135 = .ok (.iload 4, 2) := by decide +kernel
theorem dX10_fitAs_137 : decode cX10_fitAs 137 = .ok (.iadd, 1) := by decide +kernel
theorem dX10_fitAs_138 : decode cX10_fitAs 138 = .ok (.iconst 2, 1) := by decide +kernel
theorem dX10_fitAs_139 : decode cX10_fitAs 139 = .ok (.idiv, 1) := by decide +kernel
theorem dX10_fitAs_140 : decode cX10_fitAs 140 = .ok (.ireturn, 1) := by decide +kernel
theorem dX10_fit_0 : decode cX10_fit 0 = .ok (.aload_n 0, 1) := by decide +kernel
theorem dX10_fit_1 : decode cX10_fit 1 = .ok (.iload_n 1, 1) := by decide +kernel
theorem dX10_fit_2 : decode cX10_fit 2 = .ok (.invokevirtual 137, 3) := by decide +kernel
theorem dX10_fit_5 : decode cX10_fit 5 = .ok (.ifCond .eq 24, 3) := by decide +kernel
theorem dX10_fit_8 : decode cX10_fit 8 = .ok (.aload_n 0, 1) := by decide +kernel
theorem dX10_fit_9 : decode cX10_fit 9 = .ok (.iload_n 2, 1) := by decide +kernel
theorem dX10_fit_10 : decode cX10_fit 10 = .ok (.invokevirtual 193, 3) := by decide +kernel
theorem dX10_fit_13 : decode cX10_fit 13 = .ok (.ifCond .eq 16, 3) := by decide +kernel
theorem dX10_fit_16 : decode cX10_fit 16 = .ok (.aload_n 0, 1) := by decide +kernel
theorem dX10_fit_17 : decode cX10_fit 17 = .ok (.aload_n 0, 1) := by decide +kernel
theorem dX10_fit_18 : decode cX10_fit 18 = .ok (.getfield 145, 3) := by decide +kernel
theorem dX10_fit_21 : decode cX10_fit 21 = .ok (.iload_n 1, 1) := by decide +kernel
theorem dX10_fit_22 : decode cX10_fit 22 = .ok (.iload_n 2, 1) := by decide +kernel
theorem dX10_fit_23 : decode cX10_fit 23 = .ok (.invokevirtual 245, 3) := by decide +kernel
theorem dX10_fit_26 : decode cX10_fit 26 = .ok (.goto 9, 3) := by decide +kernel
theorem dX10_fit_29 : decode cX10_fit 29 = .ok (.aload_n 0, 1) := by decide +kernel
theorem dX10_fit_30 : decode cX10_fit 30 = .ok (.bipush (-2), 2) := by decide +kernel
theorem dX10_fit_32 : decode cX10_fit 32 = .ok (.invokevirtual 105, 3) := by decide +kernel
theorem dX10_fit_35 : decode cX10_fit 35 = .ok (.ireturn, 1) := by decide +kernel
theorem dX10_jointOf_0 : decode cX10_jointOf 0 = .ok (.aload_n 0, 1) := by decide +kernel
theorem dX10_jointOf_1 : decode cX10_jointOf 1 = .ok (.iload_n 1, 1) := by decide +kernel
theorem dX10_jointOf_2 : decode cX10_jointOf 2 = .ok (.invokevirtual 140, 3) := by decide +kernel
theorem dX10_jointOf_5 : decode cX10_jointOf 5 = .ok (.iload_n 2, 1) := by decide +kernel
theorem dX10_jointOf_6 : decode cX10_jointOf 6 = .ok (.if_icmp .ne 5, 3) := by decide +kernel
theorem dX10_jointOf_9 : decode cX10_jointOf 9 = .ok (.iconst 0, 1) := by decide +kernel
theorem dX10_jointOf_10 : decode cX10_jointOf 10 = .ok (.ireturn, 1) := by decide +kernel
theorem dX10_jointOf_11 : decode cX10_jointOf 11 = .ok (.iconst 3, 1) := by decide +kernel
theorem dX10_jointOf_12 : decode cX10_jointOf 12 = .ok (.aload_n 0, 1) := by decide +kernel
theorem dX10_jointOf_13 : decode cX10_jointOf 13 = .ok (.iload_n 1, 1) := by decide +kernel
theorem dX10_jointOf_14 : decode cX10_jointOf 14 = .ok (.iconst 3, 1) := by decide +kernel
theorem dX10_jointOf_15 : decode cX10_jointOf 15 = .ok (.invokevirtual 125, 3) := by decide +kernel
theorem dX10_jointOf_18 : decode cX10_jointOf 18 = .ok (.aload_n 0, 1) := by decide +kernel
theorem dX10_jointOf_19 : decode cX10_jointOf 19 = .ok (.iload_n 2, 1) := by decide +kernel
theorem dX10_jointOf_20 : decode cX10_jointOf 20 = .ok (.iconst 3, 1) := by decide +kernel
theorem dX10_jointOf_21 : decode cX10_jointOf 21 = .ok (.invokevirtual 125, 3) := by decide +kernel
theorem dX10_jointOf_24 : decode cX10_jointOf 24 = .ok (.invokestatic 242, 3) := by decide +kernel
theorem dX10_jointOf_27 : decode cX10_jointOf 27 = .ok (.iadd, 1) := by decide +kernel
theorem dX10_jointOf_28 : decode cX10_jointOf 28 = .ok (.aload_n 0, 1) := by decide +kernel
theorem dX10_jointOf_29 : decode cX10_jointOf 29 = .ok (.iload_n 1, 1) := by decide +kernel
theorem dX10_jointOf_30 : decode cX10_jointOf 30 = .ok (.iconst 2, 1) := by decide +kernel
theorem dX10_jointOf_31 : decode cX10_jointOf 31 = .ok (.invokevirtual 125, 3) := by decide +kernel
theorem dX10_jointOf_34 : decode cX10_jointOf 34 = .ok (.aload_n 0, 1) := by decide +kernel
theorem dX10_jointOf_35 : decode cX10_jointOf 35 = .ok (.iload_n 2, 1) := by decide +kernel
theorem dX10_jointOf_36 : decode cX10_jointOf 36 = .ok (.iconst 0, 1) := by decide +kernel
theorem dX10_jointOf_37 : decode cX10_jointOf 37 = .ok (.invokevirtual 125, 3) := by decide +kernel
theorem dX10_jointOf_40 : decode cX10_jointOf 40 = .ok (.if_icmp .ne 7, 3) := by decide +kernel
theorem dX10_jointOf_43 : decode cX10_jointOf 43 = .ok (.iconst 0, 1) := by decide +kernel
theorem dX10_jointOf_44 : decode cX10_jointOf 44 = .ok (.goto 4, 3) := by decide +kernel
theorem dX10_jointOf_47 : decode cX10_jointOf 47 = .ok (.iconst 2, 1) := by decide +kernel
theorem dX10_jointOf_48 : decode cX10_jointOf 48 = .ok (.iadd, 1) := by decide +kernel
theorem dX10_jointOf_49 : decode cX10_jointOf 49 = .ok (.aload_n 0, 1) := by decide +kernel
theorem dX10_jointOf_50 : decode cX10_jointOf 50 = .ok (.iload_n 2, 1) := by decide +kernel
theorem dX10_jointOf_51 : decode cX10_jointOf 51 = .ok (.iconst 1, 1) := by decide +kernel
theorem dX10_jointOf_52 : decode cX10_jointOf 52 = .ok (.invokevirtual 125, 3) := by decide +kernel
theorem dX10_jointOf_55 : decode cX10_jointOf 55 = .ok (.aload_n 0, 1) := by decide +kernel
theorem dX10_jointOf_56 : decode cX10_jointOf 56 = .ok (.iload_n 1, 1) := by decide +kernel
theorem dX10_jointOf_57 : decode cX10_jointOf 57 = .ok (.iconst 0, 1) := by decide +kernel
theorem dX10_jointOf_58 : decode cX10_jointOf 58 = .ok (.invokevirtual 125, 3) := by decide +kernel
theorem dX10_jointOf_61 : decode cX10_jointOf 61 = .ok (.if_icmp .ne 7, 3) := by decide +kernel
theorem dX10_jointOf_64 : decode cX10_jointOf 64 = .ok (.iconst 0, 1) := by decide +kernel
theorem dX10_jointOf_65 : decode cX10_jointOf 65 = .ok (.goto 4, 3) := by decide +kernel
theorem dX10_jointOf_68 : decode cX10_jointOf 68 = .ok (.iconst 2, 1) := by decide +kernel
theorem dX10_jointOf_69 : decode cX10_jointOf 69 = .ok (.iadd, 1) := by decide +kernel
theorem dX10_jointOf_70 : decode cX10_jointOf 70 = .ok (.ireturn, 1) := by decide +kernel
theorem dX10_joint_0 : decode cX10_joint 0 = .ok (.aload_n 0, 1) := by decide +kernel
theorem dX10_joint_1 : decode cX10_joint 1 = .ok (.iload_n 1, 1) := by decide +kernel
theorem dX10_joint_2 : decode cX10_joint 2 = .ok (.invokevirtual 137, 3) := by decide +kernel
theorem dX10_joint_5 : decode cX10_joint 5 = .ok (.ifCond .eq 20, 3) := by decide +kernel
theorem dX10_joint_8 : decode cX10_joint 8 = .ok (.aload_n 0, 1) := by decide +kernel
theorem dX10_joint_9 : decode cX10_joint 9 = .ok (.iload_n 2, 1) := by decide +kernel
theorem dX10_joint_10 : decode cX10_joint 10 = .ok (.invokevirtual 137, 3) := by decide +kernel
theorem dX10_joint_13 : decode cX10_joint 13 = .ok (.ifCond .eq 12, 3) := by decide +kernel
theorem dX10_joint_16 : decode cX10_joint 16 = .ok (.aload_n 0, 1) := by decide +kernel
theorem dX10_joint_17 : decode cX10_joint 17 = .ok (.iload_n 1, 1) := by decide +kernel
theorem dX10_joint_18 : decode cX10_joint 18 = .ok (.iload_n 2, 1) := by decide +kernel
theorem dX10_joint_19 : decode cX10_joint 19 = .ok (.invokevirtual 249, 3) := by decide +kernel
theorem dX10_joint_22 : decode cX10_joint 22 = .ok (.goto 9, 3) := by decide +kernel
theorem dX10_joint_25 : decode cX10_joint 25 = .ok (.aload_n 0, 1) := by decide +kernel
theorem dX10_joint_26 : decode cX10_joint 26 = .ok (.bipush (-2), 2) := by decide +kernel
theorem dX10_joint_28 : decode cX10_joint 28 = .ok (.invokevirtual 105, 3) := by decide +kernel
theorem dX10_joint_31 : decode cX10_joint 31 = .ok (.ireturn, 1) := by decide +kernel
theorem dX10_begins_0 : decode cX10_begins 0 = .ok (.aload_n 0, 1) := by decide +kernel
theorem dX10_begins_1 : decode cX10_begins 1 = .ok (.iconst (-1), 1) := by decide +kernel
theorem dX10_begins_2 : decode cX10_begins 2 = .ok (.putfield 252, 3) := by decide +kernel
theorem dX10_begins_5 : decode cX10_begins 5 = .ok (.aload_n 0, 1) := by decide +kernel
theorem dX10_begins_6 : decode cX10_begins 6 = .ok (.iconst (-1), 1) := by decide +kernel
theorem dX10_begins_7 : decode cX10_begins 7 = .ok (.putfield 255, 3) := by decide +kernel
theorem dX10_begins_10 : decode cX10_begins 10 = .ok (.aload_n 0, 1) := by decide +kernel
theorem dX10_begins_11 : decode cX10_begins 11 = .ok (.iconst (-1), 1) := by decide +kernel
theorem dX10_begins_12 : decode cX10_begins 12 = .ok (.putfield 258, 3) := by decide +kernel
theorem dX10_begins_15 : decode cX10_begins 15 = .ok (.aload_n 0, 1) := by decide +kernel
theorem dX10_begins_16 : decode cX10_begins 16 = .ok (.iconst 0, 1) := by decide +kernel
theorem dX10_begins_17 : decode cX10_begins 17 = .ok (.putfield 261, 3) := by decide +kernel
theorem dX10_begins_20 : decode cX10_begins 20 = .ok (.return_, 1) := by decide +kernel
theorem dX10_offers_0 : decode cX10_offers 0 = .ok (.aload_n 0, 1) := by decide +kernel
theorem dX10_offers_1 : decode cX10_offers 1 = .ok (.getfield 252, 3) := by decide +kernel
theorem dX10_offers_4 : decode cX10_offers 4 = .ok (.iconst (-1), 1) := by decide +kernel
theorem dX10_offers_5 : decode cX10_offers 5 = .ok (.if_icmp .eq 11, 3) := by decide +kernel
theorem dX10_offers_8 : decode cX10_offers 8 = .ok (.iload_n 1, 1) := by decide +kernel
theorem dX10_offers_9 : decode cX10_offers 9 = .ok (.aload_n 0, 1) := by decide +kernel
theorem dX10_offers_10 : decode cX10_offers 10 = .ok (.getfield 252, 3) := by decide +kernel
theorem dX10_offers_13 : decode cX10_offers 13 = .ok (.if_icmp .ge 19, 3) := by decide +kernel
theorem dX10_offers_16 : decode cX10_offers 16 = .ok (.aload_n 0, 1) := by decide +kernel
theorem dX10_offers_17 : decode cX10_offers 17 = .ok (.aload_n 0, 1) := by decide +kernel
theorem dX10_offers_18 : decode cX10_offers 18 = .ok (.getfield 252, 3) := by decide +kernel
theorem dX10_offers_21 : decode cX10_offers 21 = .ok (.putfield 255, 3) := by decide +kernel
theorem dX10_offers_24 : decode cX10_offers 24 = .ok (.aload_n 0, 1) := by decide +kernel
theorem dX10_offers_25 : decode cX10_offers 25 = .ok (.iload_n 1, 1) := by decide +kernel
theorem dX10_offers_26 : decode cX10_offers 26 = .ok (.putfield 252, 3) := by decide +kernel
theorem dX10_offers_29 : decode cX10_offers 29 = .ok (.goto 24, 3) := by decide +kernel
theorem dX10_offers_32 : decode cX10_offers 32 = .ok (.aload_n 0, 1) := by decide +kernel
theorem dX10_offers_33 : decode cX10_offers 33 = .ok (.getfield 255, 3) := by decide +kernel
theorem dX10_offers_36 : decode cX10_offers 36 = .ok (.iconst (-1), 1) := by decide +kernel
theorem dX10_offers_37 : decode cX10_offers 37 = .ok (.if_icmp .eq 11, 3) := by decide +kernel
theorem dX10_offers_40 : decode cX10_offers 40 = .ok (.iload_n 1, 1) := by decide +kernel
theorem dX10_offers_41 : decode cX10_offers 41 = .ok (.aload_n 0, 1) := by decide +kernel
theorem dX10_offers_42 : decode cX10_offers 42 = .ok (.getfield 255, 3) := by decide +kernel
theorem dX10_offers_45 : decode cX10_offers 45 = .ok (.if_icmp .ge 8, 3) := by decide +kernel
theorem dX10_offers_48 : decode cX10_offers 48 = .ok (.aload_n 0, 1) := by decide +kernel
theorem dX10_offers_49 : decode cX10_offers 49 = .ok (.iload_n 1, 1) := by decide +kernel
theorem dX10_offers_50 : decode cX10_offers 50 = .ok (.putfield 255, 3) := by decide +kernel
theorem dX10_offers_53 : decode cX10_offers 53 = .ok (.return_, 1) := by decide +kernel
theorem dX10_takesIn_0 : decode cX10_takesIn 0 = .ok (.aload_n 0, 1) := by decide +kernel
theorem dX10_takesIn_1 : decode cX10_takesIn 1 = .ok (.getfield 252, 3) := by decide +kernel
theorem dX10_takesIn_4 : decode cX10_takesIn 4 = .ok (.istore_n 3, 1) := by decide +kernel
theorem dX10_takesIn_5 : decode cX10_takesIn 5 = .ok (.aload_n 0, 1) := by decide +kernel
theorem dX10_takesIn_6 : decode cX10_takesIn 6 = .ok (.getfield 71, 3) := by decide +kernel
theorem dX10_takesIn_9 : decode cX10_takesIn 9 = .ok (.iload_n 1, 1) := by decide +kernel
theorem dX10_takesIn_10 : decode cX10_takesIn 10 = .ok (.iaload, 1) := by decide +kernel
theorem dX10_takesIn_11 : decode cX10_takesIn 11 = .ok (.iload_n 2, 1) := by decide +kernel
theorem dX10_takesIn_12 : decode cX10_takesIn 12 = .ok (.iadd, 1) := by decide +kernel
theorem dX10_takesIn_13 : decode cX10_takesIn 13 = .ok (.istore 4, 2) := by decide +kernel
theorem dX10_takesIn_15 : decode cX10_takesIn 15 = .ok (.aload_n 0, 1) := by decide +kernel
theorem dX10_takesIn_16 : decode cX10_takesIn 16 = .ok (.iload 4, 2) := by decide +kernel
theorem dX10_takesIn_18 : decode cX10_takesIn 18 = .ok (.invokevirtual 264, 3) := by decide +kernel
theorem dX10_takesIn_21 : decode cX10_takesIn 21 = .ok (.aload_n 0, 1) := by decide +kernel
theorem dX10_takesIn_22 : decode cX10_takesIn 22 = .ok (.getfield 74, 3) := by decide +kernel
theorem dX10_takesIn_25 : decode cX10_takesIn 25 = .ok (.iload_n 1, 1) := by decide +kernel
theorem dX10_takesIn_26 : decode cX10_takesIn 26 = .ok (.iaload, 1) := by decide +kernel
theorem dX10_takesIn_27 : decode cX10_takesIn 27 = .ok (.iconst (-1), 1) := by decide +kernel
theorem dX10_takesIn_28 : decode cX10_takesIn 28 = .ok (.if_icmp .eq 15, 3) := by decide +kernel
theorem dX10_takesIn_31 : decode cX10_takesIn 31 = .ok (.aload_n 0, 1) := by decide +kernel
theorem dX10_takesIn_32 : decode cX10_takesIn 32 = .ok (.aload_n 0, 1) := by decide +kernel
theorem dX10_takesIn_33 : decode cX10_takesIn 33 = .ok (.getfield 74, 3) := by decide +kernel
theorem dX10_takesIn_36 : decode cX10_takesIn 36 = .ok (.iload_n 1, 1) := by decide +kernel
theorem dX10_takesIn_37 : decode cX10_takesIn 37 = .ok (.iaload, 1) := by decide +kernel
theorem dX10_takesIn_38 : decode cX10_takesIn 38 = .ok (.iload_n 2, 1) := by decide +kernel
theorem dX10_takesIn_39 : decode cX10_takesIn 39 = .ok (.iadd, 1) := by decide +kernel
theorem dX10_takesIn_40 : decode cX10_takesIn 40 = .ok (.invokevirtual 264, 3) := by decide +kernel
theorem dX10_takesIn_43 : decode cX10_takesIn 43 = .ok (.iload_n 3, 1) := by decide +kernel
theorem dX10_takesIn_44 : decode cX10_takesIn 44 = .ok (.iconst (-1), 1) := by decide +kernel
theorem dX10_takesIn_45 : decode cX10_takesIn 45 = .ok (.if_icmp .eq 9, 3) := by decide +kernel
theorem dX10_takesIn_48 : decode cX10_takesIn 48 = .ok (.iload 4, 2) := by decide +kernel
theorem dX10_takesIn_50 : decode cX10_takesIn 50 = .ok (.iload_n 3, 1) := by decide +kernel
theorem dX10_takesIn_51 : decode cX10_takesIn 51 = .ok (.if_icmp .ge 7, 3) := by decide +kernel
theorem dX10_takesIn_54 : decode cX10_takesIn 54 = .ok (.lconst 0, 1) := by decide +kernel
theorem dX10_takesIn_55 : decode cX10_takesIn 55 = .ok (.goto 8, 3) := by decide +kernel
theorem dX10_takesIn_58 : decode cX10_takesIn 58 = .ok (.aload_n 0, 1) := by decide +kernel
theorem dX10_takesIn_59 : decode cX10_takesIn 59 = .ok (.getfield 261, 3) := by decide +kernel
theorem dX10_takesIn_62 : decode cX10_takesIn 62 = .ok (.i2l, 1) := by decide +kernel
theorem dX10_takesIn_63 : decode cX10_takesIn 63 = .ok (.lstore 5, 2) := by decide +kernel
theorem dX10_takesIn_65 : decode cX10_takesIn 65 = .ok (.aload_n 0, 1) := by decide +kernel
theorem dX10_takesIn_66 : decode cX10_takesIn 66 = .ok (.iload_n 3, 1) := by decide +kernel
theorem dX10_takesIn_67 : decode cX10_takesIn 67 = .ok (.iconst (-1), 1) := by decide +kernel
theorem dX10_takesIn_68 : decode cX10_takesIn 68 = .ok (.if_icmp .eq 16, 3) := by decide +kernel
theorem dX10_takesIn_71 : decode cX10_takesIn 71 = .ok (.iload 4, 2) := by decide +kernel
theorem dX10_takesIn_73 : decode cX10_takesIn 73 = .ok (.iload_n 3, 1) := by decide +kernel
theorem dX10_takesIn_74 : decode cX10_takesIn 74 = .ok (.if_icmp .le 10, 3) := by decide +kernel
theorem dX10_takesIn_77 : decode cX10_takesIn 77 = .ok (.aload_n 0, 1) := by decide +kernel
theorem dX10_takesIn_78 : decode cX10_takesIn 78 = .ok (.getfield 261, 3) := by decide +kernel
theorem dX10_takesIn_81 : decode cX10_takesIn 81 = .ok (.goto 37, 3) := by decide +kernel
theorem dX10_takesIn_84 : decode cX10_takesIn 84 = .ok (.lload 5, 2) := by decide +kernel
theorem dX10_takesIn_86 : decode cX10_takesIn 86 = .ok (.aload_n 0, 1) := by decide +kernel
theorem dX10_takesIn_87 : decode cX10_takesIn 87 = .ok (.getfield 80, 3) := by decide +kernel
theorem dX10_takesIn_90 : decode cX10_takesIn 90 = .ok (.iload_n 1, 1) := by decide +kernel
theorem dX10_takesIn_91 : decode cX10_takesIn 91 = .ok (.iaload, 1) := by decide +kernel
theorem dX10_takesIn_92 : decode cX10_takesIn 92 = .ok (.i2l, 1) := by decide +kernel
theorem dX10_takesIn_93 : decode cX10_takesIn 93 = .ok (.ladd, 1) := by decide +kernel
theorem dX10_takesIn_94 : decode cX10_takesIn 94 = .ok (.ldc2_w 268, 3) := by decide +kernel
theorem dX10_takesIn_97 : decode cX10_takesIn 97 = .ok (.lcmp, 1) := by decide +kernel
theorem dX10_takesIn_98 : decode cX10_takesIn 98 = .ok (.ifCond .le 9, 3) := by decide +kernel
theorem dX10_takesIn_101 : decode cX10_takesIn 101 = .ok (.ldc_w 270, 3) := by decide +kernel
theorem dX10_takesIn_104 : decode cX10_takesIn 104 = .ok (.goto 14, 3) := by decide +kernel
theorem dX10_takesIn_107 : decode cX10_takesIn 107 = .ok (.lload 5, 2) := by decide +kernel
theorem dX10_takesIn_109 : decode cX10_takesIn 109 = .ok (.aload_n 0, 1) := by decide +kernel
theorem dX10_takesIn_110 : decode cX10_takesIn 110 = .ok (.getfield 80, 3) := by decide +kernel
theorem dX10_takesIn_113 : decode cX10_takesIn 113 = .ok (.iload_n 1, 1) := by decide +kernel
theorem dX10_takesIn_114 : decode cX10_takesIn 114 = .ok (.iaload, 1) := by decide +kernel
theorem dX10_takesIn_115 : decode cX10_takesIn 115 = .ok (.i2l, 1) := by decide +kernel
theorem dX10_takesIn_116 : decode cX10_takesIn 116 = .ok (.ladd, 1) := by decide +kernel
theorem dX10_takesIn_117 : decode cX10_takesIn 117 = .ok (.l2i, 1) := by decide +kernel
theorem dX10_takesIn_118 : decode cX10_takesIn 118 = .ok (.putfield 261, 3) := by decide +kernel
theorem dX10_takesIn_121 : decode cX10_takesIn 121 = .ok (.aload_n 0, 1) := by decide +kernel
theorem dX10_takesIn_122 : decode cX10_takesIn 122 = .ok (.aload_n 0, 1) := by decide +kernel
theorem dX10_takesIn_123 : decode cX10_takesIn 123 = .ok (.getfield 77, 3) := by decide +kernel
theorem dX10_takesIn_126 : decode cX10_takesIn 126 = .ok (.iload_n 1, 1) := by decide +kernel
theorem dX10_takesIn_127 : decode cX10_takesIn 127 = .ok (.iaload, 1) := by decide +kernel
theorem dX10_takesIn_128 : decode cX10_takesIn 128 = .ok (.iload_n 2, 1) := by decide +kernel
theorem dX10_takesIn_129 : decode cX10_takesIn 129 = .ok (.iadd, 1) := by decide +kernel
theorem dX10_takesIn_130 : decode cX10_takesIn 130 = .ok (.aload_n 0, 1) := by decide +kernel
theorem dX10_takesIn_131 : decode cX10_takesIn 131 = .ok (.getfield 258, 3) := by decide +kernel
theorem dX10_takesIn_134 : decode cX10_takesIn 134 = .ok (.if_icmp .le 14, 3) := by decide +kernel
theorem dX10_takesIn_137 : decode cX10_takesIn 137 = .ok (.aload_n 0, 1) := by decide +kernel
theorem dX10_takesIn_138 : decode cX10_takesIn 138 = .ok (.getfield 77, 3) := by decide +kernel
theorem dX10_takesIn_141 : decode cX10_takesIn 141 = .ok (.iload_n 1, 1) := by decide +kernel
theorem dX10_takesIn_142 : decode cX10_takesIn 142 = .ok (.iaload, 1) := by decide +kernel
theorem dX10_takesIn_143 : decode cX10_takesIn 143 = .ok (.iload_n 2, 1) := by decide +kernel
theorem dX10_takesIn_144 : decode cX10_takesIn 144 = .ok (.iadd, 1) := by decide +kernel
theorem dX10_takesIn_145 : decode cX10_takesIn 145 = .ok (.goto 7, 3) := by decide +kernel
theorem dX10_takesIn_148 : decode cX10_takesIn 148 = .ok (.aload_n 0, 1) := by decide +kernel
theorem dX10_takesIn_149 : decode cX10_takesIn 149 = .ok (.getfield 258, 3) := by decide +kernel
theorem dX10_takesIn_152 : decode cX10_takesIn 152 = .ok (.putfield 258, 3) := by decide +kernel
theorem dX10_takesIn_155 : decode cX10_takesIn 155 = .ok (.return_, 1) := by decide +kernel
theorem dX10_chains_0 : decode cX10_chains 0 = .ok (.aload_n 0, 1) := by decide +kernel
theorem dX10_chains_1 : decode cX10_chains 1 = .ok (.getfield 187, 3) := by decide +kernel
theorem dX10_chains_4 : decode cX10_chains 4 = .ok (.ifCond .le 7, 3) := by decide +kernel
theorem dX10_chains_7 : decode cX10_chains 7 = .ok (.iconst 1, 1) := by decide +kernel
theorem dX10_chains_8 : decode cX10_chains 8 = .ok (.goto 4, 3) := by decide +kernel
theorem dX10_chains_11 : decode cX10_chains 11 = .ok (.iconst 0, 1) := by decide +kernel
theorem dX10_chains_12 : decode cX10_chains 12 = .ok (.istore_n 2, 1) := by decide +kernel
theorem dX10_chains_13 : decode cX10_chains 13 = .ok (.iconst 0, 1) := by decide +kernel
theorem dX10_chains_14 : decode cX10_chains 14 = .ok (.istore_n 3, 1) := by decide +kernel
theorem dX10_chains_15 : decode cX10_chains 15 = .ok (.iload_n 3, 1) := by decide +kernel
theorem dX10_chains_16 : decode cX10_chains 16 = .ok (.aload_n 0, 1) := by decide +kernel
theorem dX10_chains_17 : decode cX10_chains 17 = .ok (.getfield 187, 3) := by decide +kernel
theorem dX10_chains_20 : decode cX10_chains 20 = .ok (.if_icmp .ge 19, 3) := by decide +kernel
theorem dX10_chains_23 : decode cX10_chains 23 = .ok (.iload_n 2, 1) := by decide +kernel
theorem dX10_chains_24 : decode cX10_chains 24 = .ok (.ifCond .eq 15, 3) := by decide +kernel
theorem dX10_chains_27 : decode cX10_chains 27 = .ok (.aload_n 0, 1) := by decide +kernel
theorem dX10_chains_28 : decode cX10_chains 28 = .ok (.iload_n 3, 1) := by decide +kernel
theorem dX10_chains_29 : decode cX10_chains 29 = .ok (.invokevirtual 236, 3) := by decide +kernel
theorem dX10_chains_32 : decode cX10_chains 32 = .ok (.istore_n 2, 1) := by decide +kernel
theorem dX10_chains_33 : decode cX10_chains 33 = .ok (.iinc 3 1, 3) := by decide +kernel
theorem dX10_chains_36 : decode cX10_chains 36 = .ok (.goto (-21), 3) := by decide +kernel
theorem dX10_chains_39 : decode cX10_chains 39 = .ok (.aload_n 0, 1) := by decide +kernel
theorem dX10_chains_40 : decode cX10_chains 40 = .ok (.getfield 187, 3) := by decide +kernel
theorem dX10_chains_43 : decode cX10_chains 43 = .ok (.iconst 1, 1) := by decide +kernel
theorem dX10_chains_44 : decode cX10_chains 44 = .ok (.isub, 1) := by decide +kernel
theorem dX10_chains_45 : decode cX10_chains 45 = .ok (.istore_n 3, 1) := by decide +kernel
theorem dX10_chains_46 : decode cX10_chains 46 = .ok (.iload_n 3, 1) := by decide +kernel
theorem dX10_chains_47 : decode cX10_chains 47 = .ok (.ifCond .lt 241, 3) := by decide +kernel
theorem dX10_chains_50 : decode cX10_chains 50 = .ok (.iload_n 2, 1) := by decide +kernel
theorem dX10_chains_51 : decode cX10_chains 51 = .ok (.ifCond .eq 237, 3) := by decide +kernel
theorem dX10_chains_54 : decode cX10_chains 54 = .ok (.iconst 0, 1) := by decide +kernel
theorem dX10_chains_55 : decode cX10_chains 55 = .ok (.istore 4, 2) := by decide +kernel
theorem dX10_chains_57 : decode cX10_chains 57 = .ok (.iload 4, 2) := by decide +kernel
theorem dX10_chains_59 : decode cX10_chains 59 = .ok (.aload_n 0, 1) := by decide +kernel
theorem dX10_chains_60 : decode cX10_chains 60 = .ok (.getfield 65, 3) := by decide +kernel
theorem dX10_chains_63 : decode cX10_chains 63 = .ok (.iload_n 3, 1) := by decide +kernel
theorem dX10_chains_64 : decode cX10_chains 64 = .ok (.iaload, 1) := by decide +kernel
theorem dX10_chains_65 : decode cX10_chains 65 = .ok (.if_icmp .ge 217, 3) := by decide +kernel
theorem dX10_chains_68 : decode cX10_chains 68 = .ok (.bipush 40, 2) := by decide +kernel
theorem dX10_chains_70 : decode cX10_chains 70 = .ok (.iload_n 3, 1) := by decide +kernel
theorem dX10_chains_71 : decode cX10_chains 71 = .ok (.imul, 1) := by decide +kernel
theorem dX10_chains_72 : decode cX10_chains 72 = .ok (.iload 4, 2) := by decide +kernel
theorem dX10_chains_74 : decode cX10_chains 74 = .ok (.iadd, 1) := by decide +kernel
theorem dX10_chains_75 : decode cX10_chains 75 = .ok (.istore 5, 2) := by decide +kernel
theorem dX10_chains_77 : decode cX10_chains 77 = .ok (.aload_n 0, 1) := by decide +kernel
theorem dX10_chains_78 : decode cX10_chains 78 = .ok (.getfield 62, 3) := by decide +kernel
theorem dX10_chains_81 : decode cX10_chains 81 = .ok (.iload 5, 2) := by decide +kernel
theorem dX10_chains_83 : decode cX10_chains 83 = .ok (.iaload, 1) := by decide +kernel
theorem dX10_chains_84 : decode cX10_chains 84 = .ok (.istore 6, 2) := by decide +kernel
theorem dX10_chains_86 : decode cX10_chains 86 = .ok (.aload_n 0, 1) := by decide +kernel
theorem dX10_chains_87 : decode cX10_chains 87 = .ok (.iload_n 1, 1) := by decide +kernel
theorem dX10_chains_88 : decode cX10_chains 88 = .ok (.iload 6, 2) := by decide +kernel
theorem dX10_chains_90 : decode cX10_chains 90 = .ok (.iload_n 3, 1) := by decide +kernel
theorem dX10_chains_91 : decode cX10_chains 91 = .ok (.invokevirtual 245, 3) := by decide +kernel
theorem dX10_chains_94 : decode cX10_chains 94 = .ok (.istore 7, 2) := by decide +kernel
theorem dX10_chains_96 : decode cX10_chains 96 = .ok (.aload_n 0, 1) := by decide +kernel
theorem dX10_chains_97 : decode cX10_chains 97 = .ok (.invokevirtual 271, 3) := by decide +kernel
theorem dX10_chains_100 : decode cX10_chains 100 = .ok (.iconst 0, 1) := by decide +kernel
theorem dX10_chains_101 : decode cX10_chains 101 = .ok (.istore 8, 2) := by decide +kernel
theorem dX10_chains_103 : decode cX10_chains 103 = .ok (.iload_n 3, 1) := by decide +kernel
theorem dX10_chains_104 : decode cX10_chains 104 = .ok (.iconst 1, 1) := by decide +kernel
theorem dX10_chains_105 : decode cX10_chains 105 = .ok (.iadd, 1) := by decide +kernel
theorem dX10_chains_106 : decode cX10_chains 106 = .ok (.aload_n 0, 1) := by decide +kernel
theorem dX10_chains_107 : decode cX10_chains 107 = .ok (.getfield 187, 3) := by decide +kernel
theorem dX10_chains_110 : decode cX10_chains 110 = .ok (.if_icmp .ge 52, 3) := by decide +kernel
theorem dX10_chains_113 : decode cX10_chains 113 = .ok (.iload 8, 2) := by decide +kernel
theorem dX10_chains_115 : decode cX10_chains 115 = .ok (.aload_n 0, 1) := by decide +kernel
theorem dX10_chains_116 : decode cX10_chains 116 = .ok (.getfield 65, 3) := by decide +kernel
theorem dX10_chains_119 : decode cX10_chains 119 = .ok (.iload_n 3, 1) := by decide +kernel
theorem dX10_chains_120 : decode cX10_chains 120 = .ok (.iconst 1, 1) := by decide +kernel
theorem dX10_chains_121 : decode cX10_chains 121 = .ok (.iadd, 1) := by decide +kernel
theorem dX10_chains_122 : decode cX10_chains 122 = .ok (.iaload, 1) := by decide +kernel
theorem dX10_chains_123 : decode cX10_chains 123 = .ok (.if_icmp .ge 39, 3) := by decide +kernel
theorem dX10_chains_126 : decode cX10_chains 126 = .ok (.bipush 40, 2) := by decide +kernel
theorem dX10_chains_128 : decode cX10_chains 128 = .ok (.iload_n 3, 1) := by decide +kernel
theorem dX10_chains_129 : decode cX10_chains 129 = .ok (.iconst 1, 1) := by decide +kernel
theorem dX10_chains_130 : decode cX10_chains 130 = .ok (.iadd, 1) := by decide +kernel
theorem dX10_chains_131 : decode cX10_chains 131 = .ok (.imul, 1) := by decide +kernel
theorem dX10_chains_132 : decode cX10_chains 132 = .ok (.iload 8, 2) := by decide +kernel
theorem dX10_chains_134 : decode cX10_chains 134 = .ok (.iadd, 1) := by decide +kernel
theorem dX10_chains_135 : decode cX10_chains 135 = .ok (.istore 9, 2) := by decide +kernel
theorem dX10_chains_137 : decode cX10_chains 137 = .ok (.aload_n 0, 1) := by decide +kernel
theorem dX10_chains_138 : decode cX10_chains 138 = .ok (.iload 9, 2) := by decide +kernel
theorem dX10_chains_140 : decode cX10_chains 140 = .ok (.aload_n 0, 1) := by decide +kernel
theorem dX10_chains_141 : decode cX10_chains 141 = .ok (.iload 6, 2) := by decide +kernel
theorem dX10_chains_143 : decode cX10_chains 143 = .ok (.aload_n 0, 1) := by decide +kernel
theorem dX10_chains_144 : decode cX10_chains 144 = .ok (.getfield 62, 3) := by decide +kernel
theorem dX10_chains_147 : decode cX10_chains 147 = .ok (.iload 9, 2) := by decide +kernel
theorem dX10_chains_149 : decode cX10_chains 149 = .ok (.iaload, 1) := by decide +kernel
theorem dX10_chains_150 : decode cX10_chains 150 = .ok (.invokevirtual 249, 3) := by decide +kernel
theorem dX10_chains_153 : decode cX10_chains 153 = .ok (.invokevirtual 274, 3) := by decide +kernel
theorem dX10_chains_156 : decode cX10_chains 156 = .ok (.iinc 8 1, 3) := by decide +kernel
theorem dX10_chains_159 : decode cX10_chains 159 = .ok (.goto (-56), 3) := by decide +kernel
theorem dX10_chains_162 : decode cX10_chains 162 = .ok (.iload_n 3, 1) := by decide +kernel
theorem dX10_chains_163 : decode cX10_chains 163 = .ok (.iconst 1, 1) := by decide +kernel
theorem dX10_chains_164 : decode cX10_chains 164 = .ok (.iadd, 1) := by decide +kernel
theorem dX10_chains_165 : decode cX10_chains 165 = .ok (.aload_n 0, 1) := by decide +kernel
theorem dX10_chains_166 : decode cX10_chains 166 = .ok (.getfield 187, 3) := by decide +kernel
theorem dX10_chains_169 : decode cX10_chains 169 = .ok (.if_icmp .ne 7, 3) := by decide +kernel
theorem dX10_chains_172 : decode cX10_chains 172 = .ok (.iconst 1, 1) := by decide +kernel
theorem dX10_chains_173 : decode cX10_chains 173 = .ok (.goto 4, 3) := by decide +kernel
theorem dX10_chains_176 : decode cX10_chains 176 = .ok (.iconst 0, 1) := by decide +kernel
theorem dX10_chains_177 : decode cX10_chains 177 = .ok (.istore 8, 2) := by decide +kernel
theorem dX10_chains_179 : decode cX10_chains 179 = .ok (.aload_n 0, 1) := by decide +kernel
theorem dX10_chains_180 : decode cX10_chains 180 = .ok (.getfield 71, 3) := by decide +kernel
theorem dX10_chains_183 : decode cX10_chains 183 = .ok (.iload 5, 2) := by decide +kernel
theorem dX10_chains_185 : decode cX10_chains 185 = .ok (.iload 7, 2) := by decide +kernel
theorem dX10_chains_187 : decode cX10_chains 187 = .ok (.iload 8, 2) := by decide +kernel
theorem dX10_chains_189 : decode cX10_chains 189 = .ok (.ifCond .eq 7, 3) := by decide +kernel
theorem dX10_chains_192 : decode cX10_chains 192 = .ok (.iconst 0, 1) := by decide +kernel
theorem dX10_chains_193 : decode cX10_chains 193 = .ok (.goto 7, 3) := by decide +kernel
theorem dX10_chains_196 : decode cX10_chains 196 = .ok (.aload_n 0, 1) := by decide +kernel
theorem dX10_chains_197 : decode cX10_chains 197 = .ok (.getfield 252, 3) := by decide +kernel
theorem dX10_chains_200 : decode cX10_chains 200 = .ok (.iadd, 1) := by decide +kernel
theorem dX10_chains_201 : decode cX10_chains 201 = .ok (.iastore, 1) := by decide +kernel
theorem dX10_chains_202 : decode cX10_chains 202 = .ok (.aload_n 0, 1) := by decide +kernel
theorem dX10_chains_203 : decode cX10_chains 203 = .ok (.getfield 74, 3) := by decide +kernel
theorem dX10_chains_206 : decode cX10_chains 206 = .ok (.iload 5, 2) := by decide +kernel
theorem dX10_chains_208 : decode cX10_chains 208 = .ok (.iload 8, 2) := by decide +kernel
theorem dX10_chains_210 : decode cX10_chains 210 = .ok (.ifCond .ne 11, 3) := by decide +kernel
theorem dX10_chains_213 : decode cX10_chains 213 = .ok (.aload_n 0, 1) := by decide +kernel
theorem dX10_chains_214 : decode cX10_chains 214 = .ok (.getfield 255, 3) := by decide +kernel
theorem dX10_chains_217 : decode cX10_chains 217 = .ok (.iconst (-1), 1) := by decide +kernel
theorem dX10_chains_218 : decode cX10_chains 218 = .ok (.if_icmp .ne 7, 3) := by decide +kernel
theorem dX10_chains_221 : decode cX10_chains 221 = .ok (.iconst (-1), 1) := by decide +kernel
theorem dX10_chains_222 : decode cX10_chains 222 = .ok (.goto 10, 3) := by decide +kernel
theorem dX10_chains_225 : decode cX10_chains 225 = .ok (.iload 7, 2) := by decide +kernel
theorem dX10_chains_227 : decode cX10_chains 227 = .ok (.aload_n 0, 1) := by decide +kernel
theorem dX10_chains_228 : decode cX10_chains 228 = .ok (.getfield 255, 3) := by decide +kernel
theorem dX10_chains_231 : decode cX10_chains 231 = .ok (.iadd, 1) := by decide +kernel
theorem dX10_chains_232 : decode cX10_chains 232 = .ok (.iastore, 1) := by decide +kernel
theorem dX10_chains_233 : decode cX10_chains 233 = .ok (.aload_n 0, 1) := by decide +kernel
theorem dX10_chains_234 : decode cX10_chains 234 = .ok (.getfield 77, 3) := by decide +kernel
theorem dX10_chains_237 : decode cX10_chains 237 = .ok (.iload 5, 2) := by decide +kernel
theorem dX10_chains_239 : decode cX10_chains 239 = .ok (.iload 7, 2) := by decide +kernel
theorem dX10_chains_241 : decode cX10_chains 241 = .ok (.iload 8, 2) := by decide +kernel
theorem dX10_chains_243 : decode cX10_chains 243 = .ok (.ifCond .eq 7, 3) := by decide +kernel
theorem dX10_chains_246 : decode cX10_chains 246 = .ok (.iconst 0, 1) := by decide +kernel
theorem dX10_chains_247 : decode cX10_chains 247 = .ok (.goto 7, 3) := by decide +kernel
theorem dX10_chains_250 : decode cX10_chains 250 = .ok (.aload_n 0, 1) := by decide +kernel
theorem dX10_chains_251 : decode cX10_chains 251 = .ok (.getfield 258, 3) := by decide +kernel
theorem dX10_chains_254 : decode cX10_chains 254 = .ok (.iadd, 1) := by decide +kernel
theorem dX10_chains_255 : decode cX10_chains 255 = .ok (.iastore, 1) := by decide +kernel
theorem dX10_chains_256 : decode cX10_chains 256 = .ok (.aload_n 0, 1) := by decide +kernel
theorem dX10_chains_257 : decode cX10_chains 257 = .ok (.getfield 80, 3) := by decide +kernel
theorem dX10_chains_260 : decode cX10_chains 260 = .ok (.iload 5, 2) := by decide +kernel
theorem dX10_chains_262 : decode cX10_chains 262 = .ok (.iload 8, 2) := by decide +kernel
theorem dX10_chains_264 : decode cX10_chains 264 = .ok (.ifCond .eq 7, 3) := by decide +kernel
theorem dX10_chains_267 : decode cX10_chains 267 = .ok (.iconst 1, 1) := by decide +kernel
theorem dX10_chains_268 : decode cX10_chains 268 = .ok (.goto 7, 3) := by decide +kernel
theorem dX10_chains_271 : decode cX10_chains 271 = .ok (.aload_n 0, 1) := by decide +kernel
theorem dX10_chains_272 : decode cX10_chains 272 = .ok (.getfield 261, 3) := by decide +kernel
theorem dX10_chains_275 : decode cX10_chains 275 = .ok (.iastore, 1) := by decide +kernel
theorem dX10_chains_276 : decode cX10_chains 276 = .ok (.iinc 4 1, 3) := by decide +kernel
theorem dX10_chains_279 : decode cX10_chains 279 = .ok (.goto (-222), 3) := by decide +kernel
theorem dX10_chains_282 : decode cX10_chains 282 = .ok (.iinc 3 (-1), 3) := by decide +kernel
theorem dX10_chains_285 : decode cX10_chains 285 = .ok (.goto (-239), 3) := by decide +kernel
theorem dX10_chains_288 : decode cX10_chains 288 = .ok (.aload_n 0, 1) := by decide +kernel
theorem dX10_chains_289 : decode cX10_chains 289 = .ok (.invokevirtual 271, 3) := by decide +kernel
theorem dX10_chains_292 : decode cX10_chains 292 = .ok (.iconst 0, 1) := by decide +kernel
theorem dX10_chains_293 : decode cX10_chains 293 = .ok (.istore_n 3, 1) := by decide +kernel
theorem dX10_chains_294 : decode cX10_chains 294 = .ok (.iload_n 2, 1) := by decide +kernel
theorem dX10_chains_295 : decode cX10_chains 295 = .ok (.ifCond .eq 25, 3) := by decide +kernel
theorem dX10_chains_298 : decode cX10_chains 298 = .ok (.iload_n 3, 1) := by decide +kernel
theorem dX10_chains_299 : decode cX10_chains 299 = .ok (.aload_n 0, 1) := by decide +kernel
theorem dX10_chains_300 : decode cX10_chains 300 = .ok (.getfield 65, 3) := by decide +kernel
theorem dX10_chains_303 : decode cX10_chains 303 = .ok (.iconst 0, 1) := by decide +kernel
theorem dX10_chains_304 : decode cX10_chains 304 = .ok (.iaload, 1) := by decide +kernel
theorem dX10_chains_305 : decode cX10_chains 305 = .ok (.if_icmp .ge 15, 3) := by decide +kernel
theorem dX10_chains_308 : decode cX10_chains 308 = .ok (.aload_n 0, 1) := by decide +kernel
theorem dX10_chains_309 : decode cX10_chains 309 = .ok (.iload_n 3, 1) := by decide +kernel
theorem dX10_chains_310 : decode cX10_chains 310 = .ok (.iconst 0, 1) := by decide +kernel
theorem dX10_chains_311 : decode cX10_chains 311 = .ok (.invokevirtual 274, 3) := by decide +kernel
theorem dX10_chains_314 : decode cX10_chains 314 = .ok (.iinc 3 1, 3) := by decide +kernel
theorem dX10_chains_317 : decode cX10_chains 317 = .ok (.goto (-23), 3) := by decide +kernel
theorem dX10_chains_320 : decode cX10_chains 320 = .ok (.iload_n 2, 1) := by decide +kernel
theorem dX10_chains_321 : decode cX10_chains 321 = .ok (.ireturn, 1) := by decide +kernel
theorem dX10_layChain_0 : decode cX10_layChain 0 = .ok (.aload_n 0, 1) := by decide +kernel
theorem dX10_layChain_1 : decode cX10_layChain 1 = .ok (.getfield 252, 3) := by decide +kernel
theorem dX10_layChain_4 : decode cX10_layChain 4 = .ok (.istore_n 1, 1) := by decide +kernel
theorem dX10_layChain_5 : decode cX10_layChain 5 = .ok (.iconst 0, 1) := by decide +kernel
theorem dX10_layChain_6 : decode cX10_layChain 6 = .ok (.istore_n 2, 1) := by decide +kernel
theorem dX10_layChain_7 : decode cX10_layChain 7 = .ok (.iload_n 2, 1) := by decide +kernel
theorem dX10_layChain_8 : decode cX10_layChain 8 = .ok (.aload_n 0, 1) := by decide +kernel
theorem dX10_layChain_9 : decode cX10_layChain 9 = .ok (.getfield 187, 3) := by decide +kernel
theorem dX10_layChain_12 : decode cX10_layChain 12 = .ok (.if_icmp .ge 132, 3) := by decide +kernel
theorem dX10_layChain_15 : decode cX10_layChain 15 = .ok (.iconst (-1), 1) := by decide +kernel
theorem dX10_layChain_16 : decode cX10_layChain 16 = .ok (.istore_n 3, 1) := by decide +kernel
theorem dX10_layChain_17 : decode cX10_layChain 17 = .ok (.aload_n 0, 1) := by decide +kernel
theorem dX10_layChain_18 : decode cX10_layChain 18 = .ok (.getfield 65, 3) := by decide +kernel
theorem dX10_layChain_21 : decode cX10_layChain 21 = .ok (.iload_n 2, 1) := by decide +kernel
theorem dX10_layChain_22 : decode cX10_layChain 22 = .ok (.iaload, 1) := by decide +kernel
theorem dX10_layChain_23 : decode cX10_layChain 23 = .ok (.iconst 1, 1) := by decide +kernel
theorem dX10_layChain_24 : decode cX10_layChain 24 = .ok (.isub, 1) := by decide +kernel
theorem dX10_layChain_25 : decode cX10_layChain 25 = .ok (.istore 4, 2) := by decide +kernel
theorem dX10_layChain_27 : decode cX10_layChain 27 = .ok (.iload 4, 2) := by decide +kernel
theorem dX10_layChain_29 : decode cX10_layChain 29 = .ok (.ifCond .lt 68, 3) := by decide +kernel
theorem dX10_layChain_32 : decode cX10_layChain 32 = .ok (.bipush 40, 2) := by decide +kernel
theorem dX10_layChain_34 : decode cX10_layChain 34 = .ok (.iload_n 2, 1) := by decide +kernel
theorem dX10_layChain_35 : decode cX10_layChain 35 = .ok (.imul, 1) := by decide +kernel
theorem dX10_layChain_36 : decode cX10_layChain 36 = .ok (.iload 4, 2) := by decide +kernel
theorem dX10_layChain_38 : decode cX10_layChain 38 = .ok (.iadd, 1) := by decide +kernel
theorem dX10_layChain_39 : decode cX10_layChain 39 = .ok (.istore 5, 2) := by decide +kernel
theorem dX10_layChain_41 : decode cX10_layChain 41 = .ok (.iload_n 2, 1) := by decide +kernel
theorem dX10_layChain_42 : decode cX10_layChain 42 = .ok (.ifCond .ne 7, 3) := by decide +kernel
theorem dX10_layChain_45 : decode cX10_layChain 45 = .ok (.iconst 0, 1) := by decide +kernel
theorem dX10_layChain_46 : decode cX10_layChain 46 = .ok (.goto 22, 3) := by decide +kernel
theorem dX10_layChain_49 : decode cX10_layChain 49 = .ok (.aload_n 0, 1) := by decide +kernel
theorem dX10_layChain_50 : decode cX10_layChain 50 = .ok (.aload_n 0, 1) := by decide +kernel
theorem dX10_layChain_51 : decode cX10_layChain 51 = .ok (.getfield 83, 3) := by decide +kernel
theorem dX10_layChain_54 : decode cX10_layChain 54 = .ok (.iload_n 2, 1) := by decide +kernel
theorem dX10_layChain_55 : decode cX10_layChain 55 = .ok (.iconst 1, 1) := by decide +kernel
theorem dX10_layChain_56 : decode cX10_layChain 56 = .ok (.isub, 1) := by decide +kernel
theorem dX10_layChain_57 : decode cX10_layChain 57 = .ok (.iaload, 1) := by decide +kernel
theorem dX10_layChain_58 : decode cX10_layChain 58 = .ok (.aload_n 0, 1) := by decide +kernel
theorem dX10_layChain_59 : decode cX10_layChain 59 = .ok (.getfield 62, 3) := by decide +kernel
theorem dX10_layChain_62 : decode cX10_layChain 62 = .ok (.iload 5, 2) := by decide +kernel
theorem dX10_layChain_64 : decode cX10_layChain 64 = .ok (.iaload, 1) := by decide +kernel
theorem dX10_layChain_65 : decode cX10_layChain 65 = .ok (.invokevirtual 249, 3) := by decide +kernel
theorem dX10_layChain_68 : decode cX10_layChain 68 = .ok (.istore 6, 2) := by decide +kernel
theorem dX10_layChain_70 : decode cX10_layChain 70 = .ok (.aload_n 0, 1) := by decide +kernel
theorem dX10_layChain_71 : decode cX10_layChain 71 = .ok (.getfield 71, 3) := by decide +kernel
theorem dX10_layChain_74 : decode cX10_layChain 74 = .ok (.iload 5, 2) := by decide +kernel
theorem dX10_layChain_76 : decode cX10_layChain 76 = .ok (.iaload, 1) := by decide +kernel
theorem dX10_layChain_77 : decode cX10_layChain 77 = .ok (.iload 6, 2) := by decide +kernel
theorem dX10_layChain_79 : decode cX10_layChain 79 = .ok (.iadd, 1) := by decide +kernel
theorem dX10_layChain_80 : decode cX10_layChain 80 = .ok (.iload_n 1, 1) := by decide +kernel
theorem dX10_layChain_81 : decode cX10_layChain 81 = .ok (.if_icmp .ne 8, 3) := by decide +kernel
theorem dX10_layChain_84 : decode cX10_layChain 84 = .ok (.iload 4, 2) := by decide +kernel
theorem dX10_layChain_86 : decode cX10_layChain 86 = .ok (.goto 4, 3) := by decide +kernel
theorem dX10_layChain_89 : decode cX10_layChain 89 = .ok (.iload_n 3, 1) := by decide +kernel
theorem dX10_layChain_90 : decode cX10_layChain 90 = .ok (.istore_n 3, 1) := by decide +kernel
theorem dX10_layChain_91 : decode cX10_layChain 91 = .ok (.iinc 4 (-1), 3) := by decide +kernel
theorem dX10_layChain_94 : decode cX10_layChain 94 = .ok (.goto (-67), 3) := by decide +kernel
theorem dX10_layChain_97 : decode cX10_layChain 97 = .ok (.bipush 40, 2) := by decide +kernel
theorem dX10_layChain_99 : decode cX10_layChain 99 = .ok (.iload_n 2, 1) := by decide +kernel
theorem dX10_layChain_100 : decode cX10_layChain 100 = .ok (.imul, 1) := by decide +kernel
theorem dX10_layChain_101 : decode cX10_layChain 101 = .ok (.iload_n 3, 1) := by decide +kernel
theorem dX10_layChain_102 : decode cX10_layChain 102 = .ok (.iadd, 1) := by decide +kernel
theorem dX10_layChain_103 : decode cX10_layChain 103 = .ok (.istore 4, 2) := by decide +kernel
theorem dX10_layChain_105 : decode cX10_layChain 105 = .ok (.aload_n 0, 1) := by decide +kernel
theorem dX10_layChain_106 : decode cX10_layChain 106 = .ok (.getfield 62, 3) := by decide +kernel
theorem dX10_layChain_109 : decode cX10_layChain 109 = .ok (.iload 4, 2) := by decide +kernel
theorem dX10_layChain_111 : decode cX10_layChain 111 = .ok (.iaload, 1) := by decide +kernel
theorem dX10_layChain_112 : decode cX10_layChain 112 = .ok (.istore 5, 2) := by decide +kernel
theorem dX10_layChain_114 : decode cX10_layChain 114 = .ok (.aload_n 0, 1) := by decide +kernel
theorem dX10_layChain_115 : decode cX10_layChain 115 = .ok (.getfield 71, 3) := by decide +kernel
theorem dX10_layChain_118 : decode cX10_layChain 118 = .ok (.iload 4, 2) := by decide +kernel
theorem dX10_layChain_120 : decode cX10_layChain 120 = .ok (.iaload, 1) := by decide +kernel
theorem dX10_layChain_121 : decode cX10_layChain 121 = .ok (.aload_n 0, 1) := by decide +kernel
theorem dX10_layChain_122 : decode cX10_layChain 122 = .ok (.iload 5, 2) := by decide +kernel
theorem dX10_layChain_124 : decode cX10_layChain 124 = .ok (.iload_n 2, 1) := by decide +kernel
theorem dX10_layChain_125 : decode cX10_layChain 125 = .ok (.invokevirtual 277, 3) := by decide +kernel
theorem dX10_layChain_128 : decode cX10_layChain 128 = .ok (.isub, 1) := by decide +kernel
theorem dX10_layChain_129 : decode cX10_layChain 129 = .ok (.istore_n 1, 1) := by decide +kernel
theorem dX10_layChain_130 : decode cX10_layChain 130 = .ok (.aload_n 0, 1) := by decide +kernel
theorem dX10_layChain_131 : decode cX10_layChain 131 = .ok (.getfield 83, 3) := by decide +kernel
theorem dX10_layChain_134 : decode cX10_layChain 134 = .ok (.iload_n 2, 1) := by decide +kernel
theorem dX10_layChain_135 : decode cX10_layChain 135 = .ok (.iload 5, 2) := by decide +kernel
theorem dX10_layChain_137 : decode cX10_layChain 137 = .ok (.iastore, 1) := by decide +kernel
theorem dX10_layChain_138 : decode cX10_layChain 138 = .ok (.iinc 2 1, 3) := by decide +kernel
theorem dX10_layChain_141 : decode cX10_layChain 141 = .ok (.goto (-134), 3) := by decide +kernel
theorem dX10_layChain_144 : decode cX10_layChain 144 = .ok (.return_, 1) := by decide +kernel
theorem dX10_fitNow_0 : decode cX10_fitNow 0 = .ok (.aload_n 0, 1) := by decide +kernel
theorem dX10_fitNow_1 : decode cX10_fitNow 1 = .ok (.aload_n 0, 1) := by decide +kernel
theorem dX10_fitNow_2 : decode cX10_fitNow 2 = .ok (.getfield 280, 3) := by decide +kernel
theorem dX10_fitNow_5 : decode cX10_fitNow 5 = .ok (.iload_n 1, 1) := by decide +kernel
theorem dX10_fitNow_6 : decode cX10_fitNow 6 = .ok (.iload_n 2, 1) := by decide +kernel
theorem dX10_fitNow_7 : decode cX10_fitNow 7 = .ok (.invokevirtual 245, 3) := by decide +kernel
theorem dX10_fitNow_10 : decode cX10_fitNow 10 = .ok (.ireturn, 1) := by decide +kernel
theorem dX10_chainsNow_0 : decode cX10_chainsNow 0 = .ok (.aload_n 0, 1) := by decide +kernel
theorem dX10_chainsNow_1 : decode cX10_chainsNow 1 = .ok (.aload_n 0, 1) := by decide +kernel
theorem dX10_chainsNow_2 : decode cX10_chainsNow 2 = .ok (.getfield 145, 3) := by decide +kernel
theorem dX10_chainsNow_5 : decode cX10_chainsNow 5 = .ok (.putfield 280, 3) := by decide +kernel
theorem dX10_chainsNow_8 : decode cX10_chainsNow 8 = .ok (.aload_n 0, 1) := by decide +kernel
theorem dX10_chainsNow_9 : decode cX10_chainsNow 9 = .ok (.aload_n 0, 1) := by decide +kernel
theorem dX10_chainsNow_10 : decode cX10_chainsNow 10 = .ok (.getfield 145, 3) := by decide +kernel
theorem dX10_chainsNow_13 : decode cX10_chainsNow 13 = .ok (.invokevirtual 283, 3) := by decide +kernel
theorem dX10_chainsNow_16 : decode cX10_chainsNow 16 = .ok (.ireturn, 1) := by decide +kernel
theorem dX10_cost_0 : decode cX10_cost 0 = .ok (.aload_n 0, 1) := by decide +kernel
theorem dX10_cost_1 : decode cX10_cost 1 = .ok (.invokevirtual 286, 3) := by decide +kernel
theorem dX10_cost_4 : decode cX10_cost 4 = .ok (.ifCond .eq 10, 3) := by decide +kernel
theorem dX10_cost_7 : decode cX10_cost 7 = .ok (.aload_n 0, 1) := by decide +kernel
theorem dX10_cost_8 : decode cX10_cost 8 = .ok (.getfield 252, 3) := by decide +kernel
theorem dX10_cost_11 : decode cX10_cost 11 = .ok (.goto 7, 3) := by decide +kernel
theorem dX10_cost_14 : decode cX10_cost 14 = .ok (.aload_n 0, 1) := by decide +kernel
theorem dX10_cost_15 : decode cX10_cost 15 = .ok (.invokevirtual 239, 3) := by decide +kernel
theorem dX10_cost_18 : decode cX10_cost 18 = .ok (.ireturn, 1) := by decide +kernel
theorem dX10_chain_0 : decode cX10_chain 0 = .ok (.iload_n 1, 1) := by decide +kernel
theorem dX10_chain_1 : decode cX10_chain 1 = .ok (.i2l, 1) := by decide +kernel
theorem dX10_chain_2 : decode cX10_chain 2 = .ok (.lconst 0, 1) := by decide +kernel
theorem dX10_chain_3 : decode cX10_chain 3 = .ok (.ldc2_w 234, 3) := by decide +kernel
theorem dX10_chain_6 : decode cX10_chain 6 = .ok (.invokestatic 89, 3) := by decide +kernel
theorem dX10_chain_9 : decode cX10_chain 9 = .ok (.ifCond .eq 18, 3) := by decide +kernel
theorem dX10_chain_12 : decode cX10_chain 12 = .ok (.aload_n 0, 1) := by decide +kernel
theorem dX10_chain_13 : decode cX10_chain 13 = .ok (.getfield 187, 3) := by decide +kernel
theorem dX10_chain_16 : decode cX10_chain 16 = .ok (.ifCond .le 18, 3) := by decide +kernel
theorem dX10_chain_19 : decode cX10_chain 19 = .ok (.iload_n 1, 1) := by decide +kernel
theorem dX10_chain_20 : decode cX10_chain 20 = .ok (.aload_n 0, 1) := by decide +kernel
theorem dX10_chain_21 : decode cX10_chain 21 = .ok (.getfield 187, 3) := by decide +kernel
theorem dX10_chain_24 : decode cX10_chain 24 = .ok (.if_icmp .lt 10, 3) := by decide +kernel
theorem dX10_chain_27 : decode cX10_chain 27 = .ok (.aload_n 0, 1) := by decide +kernel
theorem dX10_chain_28 : decode cX10_chain 28 = .ok (.bipush (-2), 2) := by decide +kernel
theorem dX10_chain_30 : decode cX10_chain 30 = .ok (.invokevirtual 105, 3) := by decide +kernel
theorem dX10_chain_33 : decode cX10_chain 33 = .ok (.ireturn, 1) := by decide +kernel
theorem dX10_chain_34 : decode cX10_chain 34 = .ok (.aload_n 0, 1) := by decide +kernel
theorem dX10_chain_35 : decode cX10_chain 35 = .ok (.invokevirtual 286, 3) := by decide +kernel
theorem dX10_chain_38 : decode cX10_chain 38 = .ok (.ifCond .ne 8, 3) := by decide +kernel
theorem dX10_chain_41 : decode cX10_chain 41 = .ok (.aload_n 0, 1) := by decide +kernel
theorem dX10_chain_42 : decode cX10_chain 42 = .ok (.invokevirtual 239, 3) := by decide +kernel
theorem dX10_chain_45 : decode cX10_chain 45 = .ok (.ireturn, 1) := by decide +kernel
theorem dX10_chain_46 : decode cX10_chain 46 = .ok (.aload_n 0, 1) := by decide +kernel
theorem dX10_chain_47 : decode cX10_chain 47 = .ok (.invokevirtual 290, 3) := by decide +kernel
theorem dX10_chain_50 : decode cX10_chain 50 = .ok (.aload_n 0, 1) := by decide +kernel
theorem dX10_chain_51 : decode cX10_chain 51 = .ok (.getfield 83, 3) := by decide +kernel
theorem dX10_chain_54 : decode cX10_chain 54 = .ok (.iload_n 1, 1) := by decide +kernel
theorem dX10_chain_55 : decode cX10_chain 55 = .ok (.iaload, 1) := by decide +kernel
theorem dX10_chain_56 : decode cX10_chain 56 = .ok (.ireturn, 1) := by decide +kernel
theorem dX10_ways_0 : decode cX10_ways 0 = .ok (.aload_n 0, 1) := by decide +kernel
theorem dX10_ways_1 : decode cX10_ways 1 = .ok (.invokevirtual 286, 3) := by decide +kernel
theorem dX10_ways_4 : decode cX10_ways 4 = .ok (.ifCond .eq 10, 3) := by decide +kernel
theorem dX10_ways_7 : decode cX10_ways 7 = .ok (.aload_n 0, 1) := by decide +kernel
theorem dX10_ways_8 : decode cX10_ways 8 = .ok (.getfield 261, 3) := by decide +kernel
theorem dX10_ways_11 : decode cX10_ways 11 = .ok (.goto 7, 3) := by decide +kernel
theorem dX10_ways_14 : decode cX10_ways 14 = .ok (.aload_n 0, 1) := by decide +kernel
theorem dX10_ways_15 : decode cX10_ways 15 = .ok (.invokevirtual 239, 3) := by decide +kernel
theorem dX10_ways_18 : decode cX10_ways 18 = .ok (.ireturn, 1) := by decide +kernel
theorem dX10_next_0 : decode cX10_next 0 = .ok (.aload_n 0, 1) := by decide +kernel
theorem dX10_next_1 : decode cX10_next 1 = .ok (.invokevirtual 286, 3) := by decide +kernel
theorem dX10_next_4 : decode cX10_next 4 = .ok (.ifCond .eq 10, 3) := by decide +kernel
theorem dX10_next_7 : decode cX10_next 7 = .ok (.aload_n 0, 1) := by decide +kernel
theorem dX10_next_8 : decode cX10_next 8 = .ok (.getfield 255, 3) := by decide +kernel
theorem dX10_next_11 : decode cX10_next 11 = .ok (.goto 7, 3) := by decide +kernel
theorem dX10_next_14 : decode cX10_next 14 = .ok (.aload_n 0, 1) := by decide +kernel
theorem dX10_next_15 : decode cX10_next 15 = .ok (.invokevirtual 239, 3) := by decide +kernel
theorem dX10_next_18 : decode cX10_next 18 = .ok (.ireturn, 1) := by decide +kernel
theorem dX10_dearest_0 : decode cX10_dearest 0 = .ok (.aload_n 0, 1) := by decide +kernel
theorem dX10_dearest_1 : decode cX10_dearest 1 = .ok (.invokevirtual 286, 3) := by decide +kernel
theorem dX10_dearest_4 : decode cX10_dearest 4 = .ok (.ifCond .eq 10, 3) := by decide +kernel
theorem dX10_dearest_7 : decode cX10_dearest 7 = .ok (.aload_n 0, 1) := by decide +kernel
theorem dX10_dearest_8 : decode cX10_dearest 8 = .ok (.getfield 258, 3) := by decide +kernel
theorem dX10_dearest_11 : decode cX10_dearest 11 = .ok (.goto 7, 3) := by decide +kernel
theorem dX10_dearest_14 : decode cX10_dearest 14 = .ok (.aload_n 0, 1) := by decide +kernel
theorem dX10_dearest_15 : decode cX10_dearest 15 = .ok (.invokevirtual 239, 3) := by decide +kernel
theorem dX10_dearest_18 : decode cX10_dearest 18 = .ok (.ireturn, 1) := by decide +kernel
theorem dX10_without_0 : decode cX10_without 0 = .ok (.aload_n 0, 1) := by decide +kernel
theorem dX10_without_1 : decode cX10_without 1 = .ok (.iload_n 1, 1) := by decide +kernel
theorem dX10_without_2 : decode cX10_without 2 = .ok (.invokevirtual 137, 3) := by decide +kernel
theorem dX10_without_5 : decode cX10_without 5 = .ok (.ifCond .ne 10, 3) := by decide +kernel
theorem dX10_without_8 : decode cX10_without 8 = .ok (.aload_n 0, 1) := by decide +kernel
theorem dX10_without_9 : decode cX10_without 9 = .ok (.bipush (-2), 2) := by decide +kernel
theorem dX10_without_11 : decode cX10_without 11 = .ok (.invokevirtual 105, 3) := by decide +kernel
theorem dX10_without_14 : decode cX10_without 14 = .ok (.ireturn, 1) := by decide +kernel
theorem dX10_without_15 : decode cX10_without 15 = .ok (.aload_n 0, 1) := by decide +kernel
theorem dX10_without_16 : decode cX10_without 16 = .ok (.invokevirtual 286, 3) := by decide +kernel
theorem dX10_without_19 : decode cX10_without 19 = .ok (.ifCond .ne 8, 3) := by decide +kernel
theorem dX10_without_22 : decode cX10_without 22 = .ok (.aload_n 0, 1) := by decide +kernel
theorem dX10_without_23 : decode cX10_without 23 = .ok (.invokevirtual 239, 3) := by decide +kernel
theorem dX10_without_26 : decode cX10_without 26 = .ok (.ireturn, 1) := by decide +kernel
theorem dX10_without_27 : decode cX10_without 27 = .ok (.aload_n 0, 1) := by decide +kernel
theorem dX10_without_28 : decode cX10_without 28 = .ok (.iload_n 1, 1) := by decide +kernel
theorem dX10_without_29 : decode cX10_without 29 = .ok (.putfield 68, 3) := by decide +kernel
theorem dX10_without_32 : decode cX10_without 32 = .ok (.aload_n 0, 1) := by decide +kernel
theorem dX10_without_33 : decode cX10_without 33 = .ok (.aload_n 0, 1) := by decide +kernel
theorem dX10_without_34 : decode cX10_without 34 = .ok (.getfield 145, 3) := by decide +kernel
theorem dX10_without_37 : decode cX10_without 37 = .ok (.invokevirtual 283, 3) := by decide +kernel
theorem dX10_without_40 : decode cX10_without 40 = .ok (.istore_n 2, 1) := by decide +kernel
theorem dX10_without_41 : decode cX10_without 41 = .ok (.aload_n 0, 1) := by decide +kernel
theorem dX10_without_42 : decode cX10_without 42 = .ok (.iconst (-1), 1) := by decide +kernel
theorem dX10_without_43 : decode cX10_without 43 = .ok (.putfield 68, 3) := by decide +kernel
theorem dX10_without_46 : decode cX10_without 46 = .ok (.iload_n 2, 1) := by decide +kernel
theorem dX10_without_47 : decode cX10_without 47 = .ok (.ifCond .eq 10, 3) := by decide +kernel
theorem dX10_without_50 : decode cX10_without 50 = .ok (.aload_n 0, 1) := by decide +kernel
theorem dX10_without_51 : decode cX10_without 51 = .ok (.getfield 252, 3) := by decide +kernel
theorem dX10_without_54 : decode cX10_without 54 = .ok (.goto 7, 3) := by decide +kernel
theorem dX10_without_57 : decode cX10_without 57 = .ok (.aload_n 0, 1) := by decide +kernel
theorem dX10_without_58 : decode cX10_without 58 = .ok (.invokevirtual 239, 3) := by decide +kernel
theorem dX10_without_61 : decode cX10_without 61 = .ok (.ireturn, 1) := by decide +kernel
theorem dX10_about_0 : decode cX10_about 0 = .ok (.iload_n 1, 1) := by decide +kernel
theorem dX10_about_1 : decode cX10_about 1 = .ok (.i2l, 1) := by decide +kernel
theorem dX10_about_2 : decode cX10_about 2 = .ok (.lconst 0, 1) := by decide +kernel
theorem dX10_about_3 : decode cX10_about 3 = .ok (.ldc2_w 103, 3) := by decide +kernel
theorem dX10_about_6 : decode cX10_about 6 = .ok (.invokestatic 89, 3) := by decide +kernel
theorem dX10_about_9 : decode cX10_about 9 = .ok (.ifCond .ne 10, 3) := by decide +kernel
theorem dX10_about_12 : decode cX10_about 12 = .ok (.aload_n 0, 1) := by decide +kernel
theorem dX10_about_13 : decode cX10_about 13 = .ok (.bipush (-2), 2) := by decide +kernel
theorem dX10_about_15 : decode cX10_about 15 = .ok (.invokevirtual 105, 3) := by decide +kernel
theorem dX10_about_18 : decode cX10_about 18 = .ok (.ireturn, 1) := by decide +kernel
theorem dX10_about_19 : decode cX10_about 19 = .ok (.aload_n 0, 1) := by decide +kernel
theorem dX10_about_20 : decode cX10_about 20 = .ok (.invokevirtual 286, 3) := by decide +kernel
theorem dX10_about_23 : decode cX10_about 23 = .ok (.ifCond .ne 8, 3) := by decide +kernel
theorem dX10_about_26 : decode cX10_about 26 = .ok (.aload_n 0, 1) := by decide +kernel
theorem dX10_about_27 : decode cX10_about 27 = .ok (.invokevirtual 239, 3) := by decide +kernel
theorem dX10_about_30 : decode cX10_about 30 = .ok (.ireturn, 1) := by decide +kernel
theorem dX10_about_31 : decode cX10_about 31 = .ok (.aload_n 0, 1) := by decide +kernel
theorem dX10_about_32 : decode cX10_about 32 = .ok (.invokevirtual 290, 3) := by decide +kernel
theorem dX10_about_35 : decode cX10_about 35 = .ok (.iconst 0, 1) := by decide +kernel
theorem dX10_about_36 : decode cX10_about 36 = .ok (.istore_n 2, 1) := by decide +kernel
theorem dX10_about_37 : decode cX10_about 37 = .ok (.iconst 0, 1) := by decide +kernel
theorem dX10_about_38 : decode cX10_about 38 = .ok (.istore_n 3, 1) := by decide +kernel
theorem dX10_about_39 : decode cX10_about 39 = .ok (.iconst 0, 1) := by decide +kernel
theorem dX10_about_40 : decode cX10_about 40 = .ok (.istore 4, 2) := by decide +kernel
theorem dX10_about_42 : decode cX10_about 42 = .ok (.iconst 0, 1) := by decide +kernel
theorem dX10_about_43 : decode cX10_about 43 = .ok (.istore 5, 2) := by decide +kernel
theorem dX10_about_45 : decode cX10_about 45 = .ok (.iconst 0, 1) := by decide +kernel
theorem dX10_about_46 : decode cX10_about 46 = .ok (.istore 6, 2) := by decide +kernel
theorem dX10_about_48 : decode cX10_about 48 = .ok (.iload 6, 2) := by decide +kernel
theorem dX10_about_50 : decode cX10_about 50 = .ok (.aload_n 0, 1) := by decide +kernel
theorem dX10_about_51 : decode cX10_about 51 = .ok (.getfield 187, 3) := by decide +kernel
theorem dX10_about_54 : decode cX10_about 54 = .ok (.if_icmp .ge 119, 3) := by decide +kernel
theorem dX10_about_57 : decode cX10_about 57 = .ok (.iload_n 3, 1) := by decide +kernel
theorem dX10_about_58 : decode cX10_about 58 = .ok (.aload_n 0, 1) := by decide +kernel
theorem dX10_about_59 : decode cX10_about 59 = .ok (.aload_n 0, 1) := by decide +kernel
theorem dX10_about_60 : decode cX10_about 60 = .ok (.getfield 145, 3) := by decide +kernel
theorem dX10_about_63 : decode cX10_about 63 = .ok (.aload_n 0, 1) := by decide +kernel
theorem dX10_about_64 : decode cX10_about 64 = .ok (.getfield 83, 3) := by decide +kernel
theorem dX10_about_67 : decode cX10_about 67 = .ok (.iload 6, 2) := by decide +kernel
theorem dX10_about_69 : decode cX10_about 69 = .ok (.iaload, 1) := by decide +kernel
theorem dX10_about_70 : decode cX10_about 70 = .ok (.iload 6, 2) := by decide +kernel
theorem dX10_about_72 : decode cX10_about 72 = .ok (.invokevirtual 245, 3) := by decide +kernel
theorem dX10_about_75 : decode cX10_about 75 = .ok (.iadd, 1) := by decide +kernel
theorem dX10_about_76 : decode cX10_about 76 = .ok (.istore_n 3, 1) := by decide +kernel
theorem dX10_about_77 : decode cX10_about 77 = .ok (.iload 6, 2) := by decide +kernel
theorem dX10_about_79 : decode cX10_about 79 = .ok (.ifCond .ne 7, 3) := by decide +kernel
theorem dX10_about_82 : decode cX10_about 82 = .ok (.iconst 0, 1) := by decide +kernel
theorem dX10_about_83 : decode cX10_about 83 = .ok (.goto 23, 3) := by decide +kernel
theorem dX10_about_86 : decode cX10_about 86 = .ok (.aload_n 0, 1) := by decide +kernel
theorem dX10_about_87 : decode cX10_about 87 = .ok (.aload_n 0, 1) := by decide +kernel
theorem dX10_about_88 : decode cX10_about 88 = .ok (.getfield 83, 3) := by decide +kernel
theorem dX10_about_91 : decode cX10_about 91 = .ok (.iload 6, 2) := by decide +kernel
theorem dX10_about_93 : decode cX10_about 93 = .ok (.iconst 1, 1) := by decide +kernel
theorem dX10_about_94 : decode cX10_about 94 = .ok (.isub, 1) := by decide +kernel
theorem dX10_about_95 : decode cX10_about 95 = .ok (.iaload, 1) := by decide +kernel
theorem dX10_about_96 : decode cX10_about 96 = .ok (.aload_n 0, 1) := by decide +kernel
theorem dX10_about_97 : decode cX10_about 97 = .ok (.getfield 83, 3) := by decide +kernel
theorem dX10_about_100 : decode cX10_about 100 = .ok (.iload 6, 2) := by decide +kernel
theorem dX10_about_102 : decode cX10_about 102 = .ok (.iaload, 1) := by decide +kernel
theorem dX10_about_103 : decode cX10_about 103 = .ok (.invokevirtual 249, 3) := by decide +kernel
theorem dX10_about_106 : decode cX10_about 106 = .ok (.istore 7, 2) := by decide +kernel
theorem dX10_about_108 : decode cX10_about 108 = .ok (.iload_n 2, 1) := by decide +kernel
theorem dX10_about_109 : decode cX10_about 109 = .ok (.iload 6, 2) := by decide +kernel
theorem dX10_about_111 : decode cX10_about 111 = .ok (.ifCond .le 30, 3) := by decide +kernel
theorem dX10_about_114 : decode cX10_about 114 = .ok (.aload_n 0, 1) := by decide +kernel
theorem dX10_about_115 : decode cX10_about 115 = .ok (.aload_n 0, 1) := by decide +kernel
theorem dX10_about_116 : decode cX10_about 116 = .ok (.getfield 83, 3) := by decide +kernel
theorem dX10_about_119 : decode cX10_about 119 = .ok (.iload 6, 2) := by decide +kernel
theorem dX10_about_121 : decode cX10_about 121 = .ok (.iconst 1, 1) := by decide +kernel
theorem dX10_about_122 : decode cX10_about 122 = .ok (.isub, 1) := by decide +kernel
theorem dX10_about_123 : decode cX10_about 123 = .ok (.iaload, 1) := by decide +kernel
theorem dX10_about_124 : decode cX10_about 124 = .ok (.invokevirtual 140, 3) := by decide +kernel
theorem dX10_about_127 : decode cX10_about 127 = .ok (.aload_n 0, 1) := by decide +kernel
theorem dX10_about_128 : decode cX10_about 128 = .ok (.getfield 83, 3) := by decide +kernel
theorem dX10_about_131 : decode cX10_about 131 = .ok (.iload 6, 2) := by decide +kernel
theorem dX10_about_133 : decode cX10_about 133 = .ok (.iaload, 1) := by decide +kernel
theorem dX10_about_134 : decode cX10_about 134 = .ok (.if_icmp .ne 7, 3) := by decide +kernel
theorem dX10_about_137 : decode cX10_about 137 = .ok (.iconst 1, 1) := by decide +kernel
theorem dX10_about_138 : decode cX10_about 138 = .ok (.goto 4, 3) := by decide +kernel
theorem dX10_about_141 : decode cX10_about 141 = .ok (.iconst 0, 1) := by decide +kernel
theorem dX10_about_142 : decode cX10_about 142 = .ok (.iadd, 1) := by decide +kernel
theorem dX10_about_143 : decode cX10_about 143 = .ok (.istore_n 2, 1) := by decide +kernel
theorem dX10_about_144 : decode cX10_about 144 = .ok (.iload 4, 2) := by decide +kernel
theorem dX10_about_146 : decode cX10_about 146 = .ok (.iload 7, 2) := by decide +kernel
theorem dX10_about_148 : decode cX10_about 148 = .ok (.iadd, 1) := by decide +kernel
theorem dX10_about_149 : decode cX10_about 149 = .ok (.istore 4, 2) := by decide +kernel
theorem dX10_about_151 : decode cX10_about 151 = .ok (.iload 7, 2) := by decide +kernel
theorem dX10_about_153 : decode cX10_about 153 = .ok (.iload 5, 2) := by decide +kernel
theorem dX10_about_155 : decode cX10_about 155 = .ok (.if_icmp .le 8, 3) := by decide +kernel
theorem dX10_about_158 : decode cX10_about 158 = .ok (.iload 7, 2) := by decide +kernel
theorem dX10_about_160 : decode cX10_about 160 = .ok (.goto 5, 3) := by decide +kernel
theorem dX10_about_163 : decode cX10_about 163 = .ok (.iload 5, 2) := by decide +kernel
theorem dX10_about_165 : decode cX10_about 165 = .ok (.istore 5, 2) := by decide +kernel
theorem dX10_about_167 : decode cX10_about 167 = .ok (.iinc 6 1, 3) := by decide +kernel
theorem dX10_about_170 : decode cX10_about 170 = .ok (.goto (-122), 3) := by decide +kernel
theorem dX10_about_173 : decode cX10_about 173 = .ok (.iload_n 1, 1) := by decide +kernel
theorem dX10_about_174 : decode cX10_about 174 = .ok (.ifCond .ne 7, 3) := by decide +kernel
theorem dX10_about_177 : decode cX10_about 177 = .ok (.iload_n 2, 1) := by decide +kernel
theorem dX10_about_178 : decode cX10_about 178 = .ok (.goto 24, 3) := by decide +kernel
theorem dX10_about_181 : decode cX10_about 181 = .ok (.iload_n 1, 1) := by decide +kernel
theorem dX10_about_182 : decode cX10_about 182 = .ok (.iconst 1, 1) := by decide +kernel
theorem dX10_about_183 : decode cX10_about 183 = .ok (.if_icmp .ne 7, 3) := by decide +kernel
theorem dX10_about_186 : decode cX10_about 186 = .ok (.iload_n 3, 1) := by decide +kernel
theorem dX10_about_187 : decode cX10_about 187 = .ok (.goto 15, 3) := by decide +kernel
theorem dX10_about_190 : decode cX10_about 190 = .ok (.iload_n 1, 1) := by decide +kernel
theorem dX10_about_191 : decode cX10_about 191 = .ok (.iconst 2, 1) := by decide +kernel
theorem dX10_about_192 : decode cX10_about 192 = .ok (.if_icmp .ne 8, 3) := by decide +kernel
theorem dX10_about_195 : decode cX10_about 195 = .ok (.iload 4, 2) := by decide +kernel
theorem dX10_about_197 : decode cX10_about 197 = .ok (.goto 5, 3) := by decide +kernel
theorem dX10_about_200 : decode cX10_about 200 = .ok (.iload 5, 2) := by decide +kernel
theorem dX10_about_202 : decode cX10_about 202 = .ok (.ireturn, 1) := by decide +kernel
theorem dX10_cheapest_0 : decode cX10_cheapest 0 = .ok (.iload_n 1, 1) := by decide +kernel
theorem dX10_cheapest_1 : decode cX10_cheapest 1 = .ok (.i2l, 1) := by decide +kernel
theorem dX10_cheapest_2 : decode cX10_cheapest 2 = .ok (.lconst 0, 1) := by decide +kernel
theorem dX10_cheapest_3 : decode cX10_cheapest 3 = .ok (.lconst 1, 1) := by decide +kernel
theorem dX10_cheapest_4 : decode cX10_cheapest 4 = .ok (.invokestatic 89, 3) := by decide +kernel
theorem dX10_cheapest_7 : decode cX10_cheapest 7 = .ok (.ifCond .ne 10, 3) := by decide +kernel
theorem dX10_cheapest_10 : decode cX10_cheapest 10 = .ok (.aload_n 0, 1) := by decide +kernel
theorem dX10_cheapest_11 : decode cX10_cheapest 11 = .ok (.bipush (-2), 2) := by decide +kernel
theorem dX10_cheapest_13 : decode cX10_cheapest 13 = .ok (.invokevirtual 105, 3) := by decide +kernel
theorem dX10_cheapest_16 : decode cX10_cheapest 16 = .ok (.ireturn, 1) := by decide +kernel
theorem dX10_cheapest_17 : decode cX10_cheapest 17 = .ok (.aload_n 0, 1) := by decide +kernel
theorem dX10_cheapest_18 : decode cX10_cheapest 18 = .ok (.invokevirtual 286, 3) := by decide +kernel
theorem dX10_cheapest_21 : decode cX10_cheapest 21 = .ok (.ifCond .ne 8, 3) := by decide +kernel
theorem dX10_cheapest_24 : decode cX10_cheapest 24 = .ok (.aload_n 0, 1) := by decide +kernel
theorem dX10_cheapest_25 : decode cX10_cheapest 25 = .ok (.invokevirtual 239, 3) := by decide +kernel
theorem dX10_cheapest_28 : decode cX10_cheapest 28 = .ok (.ireturn, 1) := by decide +kernel
theorem dX10_cheapest_29 : decode cX10_cheapest 29 = .ok (.iconst 0, 1) := by decide +kernel
theorem dX10_cheapest_30 : decode cX10_cheapest 30 = .ok (.istore_n 2, 1) := by decide +kernel
theorem dX10_cheapest_31 : decode cX10_cheapest 31 = .ok (.iconst (-1), 1) := by decide +kernel
theorem dX10_cheapest_32 : decode cX10_cheapest 32 = .ok (.istore_n 3, 1) := by decide +kernel
theorem dX10_cheapest_33 : decode cX10_cheapest 33 = .ok (.iconst 0, 1) := by decide +kernel
theorem dX10_cheapest_34 : decode cX10_cheapest 34 = .ok (.istore 4, 2) := by decide +kernel
theorem dX10_cheapest_36 : decode cX10_cheapest 36 = .ok (.iload 4, 2) := by decide +kernel
theorem dX10_cheapest_38 : decode cX10_cheapest 38 = .ok (.iconst 5, 1) := by decide +kernel
theorem dX10_cheapest_39 : decode cX10_cheapest 39 = .ok (.if_icmp .ge 63, 3) := by decide +kernel
theorem dX10_cheapest_42 : decode cX10_cheapest 42 = .ok (.aload_n 0, 1) := by decide +kernel
theorem dX10_cheapest_43 : decode cX10_cheapest 43 = .ok (.iload 4, 2) := by decide +kernel
theorem dX10_cheapest_45 : decode cX10_cheapest 45 = .ok (.invokevirtual 283, 3) := by decide +kernel
theorem dX10_cheapest_48 : decode cX10_cheapest 48 = .ok (.istore 5, 2) := by decide +kernel
theorem dX10_cheapest_50 : decode cX10_cheapest 50 = .ok (.iload_n 3, 1) := by decide +kernel
theorem dX10_cheapest_51 : decode cX10_cheapest 51 = .ok (.iconst (-1), 1) := by decide +kernel
theorem dX10_cheapest_52 : decode cX10_cheapest 52 = .ok (.if_icmp .eq 11, 3) := by decide +kernel
theorem dX10_cheapest_55 : decode cX10_cheapest 55 = .ok (.aload_n 0, 1) := by decide +kernel
theorem dX10_cheapest_56 : decode cX10_cheapest 56 = .ok (.getfield 252, 3) := by decide +kernel
theorem dX10_cheapest_59 : decode cX10_cheapest 59 = .ok (.iload_n 3, 1) := by decide +kernel
theorem dX10_cheapest_60 : decode cX10_cheapest 60 = .ok (.if_icmp .ge 7, 3) := by decide +kernel
theorem dX10_cheapest_63 : decode cX10_cheapest 63 = .ok (.iconst 1, 1) := by decide +kernel
theorem dX10_cheapest_64 : decode cX10_cheapest 64 = .ok (.goto 4, 3) := by decide +kernel
theorem dX10_cheapest_67 : decode cX10_cheapest 67 = .ok (.iconst 0, 1) := by decide +kernel
theorem dX10_cheapest_68 : decode cX10_cheapest 68 = .ok (.istore 6, 2) := by decide +kernel
theorem dX10_cheapest_70 : decode cX10_cheapest 70 = .ok (.iload 6, 2) := by decide +kernel
theorem dX10_cheapest_72 : decode cX10_cheapest 72 = .ok (.ifCond .eq 8, 3) := by decide +kernel
theorem dX10_cheapest_75 : decode cX10_cheapest 75 = .ok (.iload 4, 2) := by decide +kernel
theorem dX10_cheapest_77 : decode cX10_cheapest 77 = .ok (.goto 4, 3) := by decide +kernel
theorem dX10_cheapest_80 : decode cX10_cheapest 80 = .ok (.iload_n 2, 1) := by decide +kernel
theorem dX10_cheapest_81 : decode cX10_cheapest 81 = .ok (.istore_n 2, 1) := by decide +kernel
theorem dX10_cheapest_82 : decode cX10_cheapest 82 = .ok (.iload 6, 2) := by decide +kernel
theorem dX10_cheapest_84 : decode cX10_cheapest 84 = .ok (.ifCond .eq 10, 3) := by decide +kernel
theorem dX10_cheapest_87 : decode cX10_cheapest 87 = .ok (.aload_n 0, 1) := by decide +kernel
theorem dX10_cheapest_88 : decode cX10_cheapest 88 = .ok (.getfield 252, 3) := by decide +kernel
theorem dX10_cheapest_91 : decode cX10_cheapest 91 = .ok (.goto 4, 3) := by decide +kernel
theorem dX10_cheapest_94 : decode cX10_cheapest 94 = .ok (.iload_n 3, 1) := by decide +kernel
theorem dX10_cheapest_95 : decode cX10_cheapest 95 = .ok (.istore_n 3, 1) := by decide +kernel
theorem dX10_cheapest_96 : decode cX10_cheapest 96 = .ok (.iinc 4 1, 3) := by decide +kernel
theorem dX10_cheapest_99 : decode cX10_cheapest 99 = .ok (.goto (-63), 3) := by decide +kernel
theorem dX10_cheapest_102 : decode cX10_cheapest 102 = .ok (.iload_n 1, 1) := by decide +kernel
theorem dX10_cheapest_103 : decode cX10_cheapest 103 = .ok (.ifCond .ne 7, 3) := by decide +kernel
theorem dX10_cheapest_106 : decode cX10_cheapest 106 = .ok (.iload_n 2, 1) := by decide +kernel
theorem dX10_cheapest_107 : decode cX10_cheapest 107 = .ok (.goto 4, 3) := by decide +kernel
theorem dX10_cheapest_110 : decode cX10_cheapest 110 = .ok (.iload_n 3, 1) := by decide +kernel
theorem dX10_cheapest_111 : decode cX10_cheapest 111 = .ok (.ireturn, 1) := by decide +kernel
theorem dX10_toldOf_0 : decode cX10_toldOf 0 = .ok (.iload_n 1, 1) := by decide +kernel
theorem dX10_toldOf_1 : decode cX10_toldOf 1 = .ok (.tableswitch 51 3 6 #[31, 36, 41, 46], 31) := by decide +kernel
theorem dX10_toldOf_32 : decode cX10_toldOf 32 = .ok (.aload_n 0, 1) := by decide +kernel
theorem dX10_toldOf_33 : decode cX10_toldOf 33 = .ok (.getfield 150, 3) := by decide +kernel
theorem dX10_toldOf_36 : decode cX10_toldOf 36 = .ok (.ireturn, 1) := by decide +kernel
theorem dX10_toldOf_37 : decode cX10_toldOf 37 = .ok (.aload_n 0, 1) := by decide +kernel
theorem dX10_toldOf_38 : decode cX10_toldOf 38 = .ok (.getfield 86, 3) := by decide +kernel
theorem dX10_toldOf_41 : decode cX10_toldOf 41 = .ok (.ireturn, 1) := by decide +kernel
theorem dX10_toldOf_42 : decode cX10_toldOf 42 = .ok (.aload_n 0, 1) := by decide +kernel
theorem dX10_toldOf_43 : decode cX10_toldOf 43 = .ok (.getfield 187, 3) := by decide +kernel
theorem dX10_toldOf_46 : decode cX10_toldOf 46 = .ok (.ireturn, 1) := by decide +kernel
theorem dX10_toldOf_47 : decode cX10_toldOf 47 = .ok (.aload_n 0, 1) := by decide +kernel
theorem dX10_toldOf_48 : decode cX10_toldOf 48 = .ok (.getfield 145, 3) := by decide +kernel
theorem dX10_toldOf_51 : decode cX10_toldOf 51 = .ok (.ireturn, 1) := by decide +kernel
theorem dX10_toldOf_52 : decode cX10_toldOf 52 = .ok (.aload_n 0, 1) := by decide +kernel
theorem dX10_toldOf_53 : decode cX10_toldOf 53 = .ok (.getfield 35, 3) := by decide +kernel
theorem dX10_toldOf_56 : decode cX10_toldOf 56 = .ok (.iload_n 1, 1) := by decide +kernel
theorem dX10_toldOf_57 : decode cX10_toldOf 57 = .ok (.iaload, 1) := by decide +kernel
theorem dX10_toldOf_58 : decode cX10_toldOf 58 = .ok (.ireturn, 1) := by decide +kernel
theorem dX10_told_0 : decode cX10_told 0 = .ok (.iload_n 1, 1) := by decide +kernel
theorem dX10_told_1 : decode cX10_told 1 = .ok (.i2l, 1) := by decide +kernel
theorem dX10_told_2 : decode cX10_told 2 = .ok (.lconst 0, 1) := by decide +kernel
theorem dX10_told_3 : decode cX10_told 3 = .ok (.ldc2_w 99, 3) := by decide +kernel
theorem dX10_told_6 : decode cX10_told 6 = .ok (.invokestatic 89, 3) := by decide +kernel
theorem dX10_told_9 : decode cX10_told 9 = .ok (.ifCond .eq 11, 3) := by decide +kernel
theorem dX10_told_12 : decode cX10_told 12 = .ok (.aload_n 0, 1) := by decide +kernel
theorem dX10_told_13 : decode cX10_told 13 = .ok (.iload_n 1, 1) := by decide +kernel
theorem dX10_told_14 : decode cX10_told 14 = .ok (.invokevirtual 293, 3) := by decide +kernel
theorem dX10_told_17 : decode cX10_told 17 = .ok (.goto 9, 3) := by decide +kernel
theorem dX10_told_20 : decode cX10_told 20 = .ok (.aload_n 0, 1) := by decide +kernel
theorem dX10_told_21 : decode cX10_told 21 = .ok (.bipush (-2), 2) := by decide +kernel
theorem dX10_told_23 : decode cX10_told 23 = .ok (.invokevirtual 105, 3) := by decide +kernel
theorem dX10_told_26 : decode cX10_told 26 = .ok (.ireturn, 1) := by decide +kernel
theorem dX10_sums_0 : decode cX10_sums 0 = .ok (.lload_n 0, 1) := by decide +kernel
theorem dX10_sums_1 : decode cX10_sums 1 = .ok (.lstore 4, 2) := by decide +kernel
theorem dX10_sums_3 : decode cX10_sums 3 = .ok (.iconst 0, 1) := by decide +kernel
theorem dX10_sums_4 : decode cX10_sums 4 = .ok (.istore 6, 2) := by decide +kernel
theorem dX10_sums_6 : decode cX10_sums 6 = .ok (.iload 6, 2) := by decide +kernel
theorem dX10_sums_8 : decode cX10_sums 8 = .ok (.iload_n 3, 1) := by decide +kernel
theorem dX10_sums_9 : decode cX10_sums 9 = .ok (.if_icmp .ge 23, 3) := by decide +kernel
theorem dX10_sums_12 : decode cX10_sums 12 = .ok (.ldc2_w 296, 3) := by decide +kernel
theorem dX10_sums_15 : decode cX10_sums 15 = .ok (.lload 4, 2) := by decide +kernel
theorem dX10_sums_17 : decode cX10_sums 17 = .ok (.lmul, 1) := by decide +kernel
theorem dX10_sums_18 : decode cX10_sums 18 = .ok (.aload_n 2, 1) := by decide +kernel
theorem dX10_sums_19 : decode cX10_sums 19 = .ok (.iload 6, 2) := by decide +kernel
theorem dX10_sums_21 : decode cX10_sums 21 = .ok (.iaload, 1) := by decide +kernel
theorem dX10_sums_22 : decode cX10_sums 22 = .ok (.i2l, 1) := by decide +kernel
theorem dX10_sums_23 : decode cX10_sums 23 = .ok (.ladd, 1) := by decide +kernel
theorem dX10_sums_24 : decode cX10_sums 24 = .ok (.lstore 4, 2) := by decide +kernel
theorem dX10_sums_26 : decode cX10_sums 26 = .ok (.iinc 6 1, 3) := by decide +kernel
theorem dX10_sums_29 : decode cX10_sums 29 = .ok (.goto (-23), 3) := by decide +kernel
theorem dX10_sums_32 : decode cX10_sums 32 = .ok (.lload 4, 2) := by decide +kernel
theorem dX10_sums_34 : decode cX10_sums 34 = .ok (.lreturn, 1) := by decide +kernel
theorem dX10_digest_0 : decode cX10_digest 0 = .ok (.ldc2_w 298, 3) := by decide +kernel
theorem dX10_digest_3 : decode cX10_digest 3 = .ok (.lstore_n 1, 1) := by decide +kernel
theorem dX10_digest_4 : decode cX10_digest 4 = .ok (.iconst 0, 1) := by decide +kernel
theorem dX10_digest_5 : decode cX10_digest 5 = .ok (.istore_n 3, 1) := by decide +kernel
theorem dX10_digest_6 : decode cX10_digest 6 = .ok (.iload_n 3, 1) := by decide +kernel
theorem dX10_digest_7 : decode cX10_digest 7 = .ok (.bipush 7, 2) := by decide +kernel
theorem dX10_digest_9 : decode cX10_digest 9 = .ok (.if_icmp .ge 22, 3) := by decide +kernel
theorem dX10_digest_12 : decode cX10_digest 12 = .ok (.ldc2_w 296, 3) := by decide +kernel
theorem dX10_digest_15 : decode cX10_digest 15 = .ok (.lload_n 1, 1) := by decide +kernel
theorem dX10_digest_16 : decode cX10_digest 16 = .ok (.lmul, 1) := by decide +kernel
theorem dX10_digest_17 : decode cX10_digest 17 = .ok (.aload_n 0, 1) := by decide +kernel
theorem dX10_digest_18 : decode cX10_digest 18 = .ok (.iload_n 3, 1) := by decide +kernel
theorem dX10_digest_19 : decode cX10_digest 19 = .ok (.invokevirtual 293, 3) := by decide +kernel
theorem dX10_digest_22 : decode cX10_digest 22 = .ok (.i2l, 1) := by decide +kernel
theorem dX10_digest_23 : decode cX10_digest 23 = .ok (.ladd, 1) := by decide +kernel
theorem dX10_digest_24 : decode cX10_digest 24 = .ok (.lstore_n 1, 1) := by decide +kernel
theorem dX10_digest_25 : decode cX10_digest 25 = .ok (.iinc 3 1, 3) := by decide +kernel
theorem dX10_digest_28 : decode cX10_digest 28 = .ok (.goto (-22), 3) := by decide +kernel
theorem dX10_digest_31 : decode cX10_digest 31 = .ok (.lload_n 1, 1) := by decide +kernel
theorem dX10_digest_32 : decode cX10_digest 32 = .ok (.aload_n 0, 1) := by decide +kernel
theorem dX10_digest_33 : decode cX10_digest 33 = .ok (.getfield 7, 3) := by decide +kernel
theorem dX10_digest_36 : decode cX10_digest 36 = .ok (.bipush 6, 2) := by decide +kernel
theorem dX10_digest_38 : decode cX10_digest 38 = .ok (.aload_n 0, 1) := by decide +kernel
theorem dX10_digest_39 : decode cX10_digest 39 = .ok (.getfield 86, 3) := by decide +kernel
theorem dX10_digest_42 : decode cX10_digest 42 = .ok (.imul, 1) := by decide +kernel
theorem dX10_digest_43 : decode cX10_digest 43 = .ok (.invokestatic 300, 3) := by decide +kernel
theorem dX10_digest_46 : decode cX10_digest 46 = .ok (.lstore_n 1, 1) := by decide +kernel
theorem dX10_digest_47 : decode cX10_digest 47 = .ok (.lload_n 1, 1) := by decide +kernel
theorem dX10_digest_48 : decode cX10_digest 48 = .ok (.aload_n 0, 1) := by decide +kernel
theorem dX10_digest_49 : decode cX10_digest 49 = .ok (.getfield 16, 3) := by decide +kernel
theorem dX10_digest_52 : decode cX10_digest 52 = .ok (.bipush 6, 2) := by decide +kernel
theorem dX10_digest_54 : decode cX10_digest 54 = .ok (.invokestatic 300, 3) := by decide +kernel
theorem dX10_digest_57 : decode cX10_digest 57 = .ok (.lstore_n 1, 1) := by decide +kernel
theorem dX10_digest_58 : decode cX10_digest 58 = .ok (.lload_n 1, 1) := by decide +kernel
theorem dX10_digest_59 : decode cX10_digest 59 = .ok (.aload_n 0, 1) := by decide +kernel
theorem dX10_digest_60 : decode cX10_digest 60 = .ok (.getfield 13, 3) := by decide +kernel
theorem dX10_digest_63 : decode cX10_digest 63 = .ok (.iconst 3, 1) := by decide +kernel
theorem dX10_digest_64 : decode cX10_digest 64 = .ok (.aload_n 0, 1) := by decide +kernel
theorem dX10_digest_65 : decode cX10_digest 65 = .ok (.getfield 187, 3) := by decide +kernel
theorem dX10_digest_68 : decode cX10_digest 68 = .ok (.imul, 1) := by decide +kernel
theorem dX10_digest_69 : decode cX10_digest 69 = .ok (.invokestatic 300, 3) := by decide +kernel
theorem dX10_digest_72 : decode cX10_digest 72 = .ok (.lstore_n 1, 1) := by decide +kernel
theorem dX10_digest_73 : decode cX10_digest 73 = .ok (.ldc2_w 296, 3) := by decide +kernel
theorem dX10_digest_76 : decode cX10_digest 76 = .ok (.ldc2_w 296, 3) := by decide +kernel
theorem dX10_digest_79 : decode cX10_digest 79 = .ok (.lload_n 1, 1) := by decide +kernel
theorem dX10_digest_80 : decode cX10_digest 80 = .ok (.lmul, 1) := by decide +kernel
theorem dX10_digest_81 : decode cX10_digest 81 = .ok (.aload_n 0, 1) := by decide +kernel
theorem dX10_digest_82 : decode cX10_digest 82 = .ok (.getfield 31, 3) := by decide +kernel
theorem dX10_digest_85 : decode cX10_digest 85 = .ok (.i2l, 1) := by decide +kernel
theorem dX10_digest_86 : decode cX10_digest 86 = .ok (.ladd, 1) := by decide +kernel
theorem dX10_digest_87 : decode cX10_digest 87 = .ok (.lmul, 1) := by decide +kernel
theorem dX10_digest_88 : decode cX10_digest 88 = .ok (.aload_n 0, 1) := by decide +kernel
theorem dX10_digest_89 : decode cX10_digest 89 = .ok (.getfield 190, 3) := by decide +kernel
theorem dX10_digest_92 : decode cX10_digest 92 = .ok (.i2l, 1) := by decide +kernel
theorem dX10_digest_93 : decode cX10_digest 93 = .ok (.ladd, 1) := by decide +kernel
theorem dX10_digest_94 : decode cX10_digest 94 = .ok (.lstore_n 1, 1) := by decide +kernel
theorem dX10_digest_95 : decode cX10_digest 95 = .ok (.aload_n 0, 1) := by decide +kernel
theorem dX10_digest_96 : decode cX10_digest 96 = .ok (.invokevirtual 286, 3) := by decide +kernel
theorem dX10_digest_99 : decode cX10_digest 99 = .ok (.ifCond .ne 11, 3) := by decide +kernel
theorem dX10_digest_102 : decode cX10_digest 102 = .ok (.ldc2_w 296, 3) := by decide +kernel
theorem dX10_digest_105 : decode cX10_digest 105 = .ok (.lload_n 1, 1) := by decide +kernel
theorem dX10_digest_106 : decode cX10_digest 106 = .ok (.lmul, 1) := by decide +kernel
theorem dX10_digest_107 : decode cX10_digest 107 = .ok (.lconst 1, 1) := by decide +kernel
theorem dX10_digest_108 : decode cX10_digest 108 = .ok (.lsub, 1) := by decide +kernel
theorem dX10_digest_109 : decode cX10_digest 109 = .ok (.lreturn, 1) := by decide +kernel
theorem dX10_digest_110 : decode cX10_digest 110 = .ok (.aload_n 0, 1) := by decide +kernel
theorem dX10_digest_111 : decode cX10_digest 111 = .ok (.getfield 252, 3) := by decide +kernel
theorem dX10_digest_114 : decode cX10_digest 114 = .ok (.istore_n 3, 1) := by decide +kernel
theorem dX10_digest_115 : decode cX10_digest 115 = .ok (.aload_n 0, 1) := by decide +kernel
theorem dX10_digest_116 : decode cX10_digest 116 = .ok (.invokevirtual 290, 3) := by decide +kernel
theorem dX10_digest_119 : decode cX10_digest 119 = .ok (.ldc2_w 296, 3) := by decide +kernel
theorem dX10_digest_122 : decode cX10_digest 122 = .ok (.lload_n 1, 1) := by decide +kernel
theorem dX10_digest_123 : decode cX10_digest 123 = .ok (.lmul, 1) := by decide +kernel
theorem dX10_digest_124 : decode cX10_digest 124 = .ok (.iload_n 3, 1) := by decide +kernel
theorem dX10_digest_125 : decode cX10_digest 125 = .ok (.i2l, 1) := by decide +kernel
theorem dX10_digest_126 : decode cX10_digest 126 = .ok (.ladd, 1) := by decide +kernel
theorem dX10_digest_127 : decode cX10_digest 127 = .ok (.aload_n 0, 1) := by decide +kernel
theorem dX10_digest_128 : decode cX10_digest 128 = .ok (.getfield 83, 3) := by decide +kernel
theorem dX10_digest_131 : decode cX10_digest 131 = .ok (.aload_n 0, 1) := by decide +kernel
theorem dX10_digest_132 : decode cX10_digest 132 = .ok (.getfield 187, 3) := by decide +kernel
theorem dX10_digest_135 : decode cX10_digest 135 = .ok (.invokestatic 300, 3) := by decide +kernel
theorem dX10_digest_138 : decode cX10_digest 138 = .ok (.lreturn, 1) := by decide +kernel
