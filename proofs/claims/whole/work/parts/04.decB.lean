theorem dX7_init_5 : decode cX7_init 5 = .ok (.bipush 120, 2) := by decide +kernel
theorem dX7_init_7 : decode cX7_init 7 = .ok (.newarray .int, 2) := by decide +kernel
theorem dX7_init_9 : decode cX7_init 9 = .ok (.putfield 9, 3) := by decide +kernel
theorem dX7_init_12 : decode cX7_init 12 = .ok (.aload_n 0, 1) := by decide +kernel
theorem dX7_init_13 : decode cX7_init 13 = .ok (.bipush 120, 2) := by decide +kernel
theorem dX7_init_15 : decode cX7_init 15 = .ok (.newarray .int, 2) := by decide +kernel
theorem dX7_init_17 : decode cX7_init 17 = .ok (.putfield 15, 3) := by decide +kernel
theorem dX7_init_20 : decode cX7_init 20 = .ok (.aload_n 0, 1) := by decide +kernel
theorem dX7_init_21 : decode cX7_init 21 = .ok (.bipush 120, 2) := by decide +kernel
theorem dX7_init_23 : decode cX7_init 23 = .ok (.newarray .int, 2) := by decide +kernel
theorem dX7_init_25 : decode cX7_init 25 = .ok (.putfield 18, 3) := by decide +kernel
theorem dX7_init_28 : decode cX7_init 28 = .ok (.aload_n 0, 1) := by decide +kernel
theorem dX7_init_29 : decode cX7_init 29 = .ok (.bipush 120, 2) := by decide +kernel
theorem dX7_init_31 : decode cX7_init 31 = .ok (.newarray .int, 2) := by decide +kernel
theorem dX7_init_33 : decode cX7_init 33 = .ok (.putfield 21, 3) := by decide +kernel
theorem dX7_init_36 : decode cX7_init 36 = .ok (.aload_n 0, 1) := by decide +kernel
theorem dX7_init_37 : decode cX7_init 37 = .ok (.bipush 120, 2) := by decide +kernel
theorem dX7_init_39 : decode cX7_init 39 = .ok (.newarray .int, 2) := by decide +kernel
theorem dX7_init_41 : decode cX7_init 41 = .ok (.putfield 24, 3) := by decide +kernel
theorem dX7_init_44 : decode cX7_init 44 = .ok (.aload_n 0, 1) := by decide +kernel
theorem dX7_init_45 : decode cX7_init 45 = .ok (.bipush 120, 2) := by decide +kernel
theorem dX7_init_47 : decode cX7_init 47 = .ok (.newarray .int, 2) := by decide +kernel
theorem dX7_init_49 : decode cX7_init 49 = .ok (.putfield 27, 3) := by decide +kernel
theorem dX7_init_52 : decode cX7_init 52 = .ok (.aload_n 0, 1) := by decide +kernel
theorem dX7_init_53 : decode cX7_init 53 = .ok (.iconst (-1), 1) := by decide +kernel
theorem dX7_init_54 : decode cX7_init 54 = .ok (.invokevirtual 30, 3) := by decide +kernel
theorem dX7_init_57 : decode cX7_init 57 = .ok (.pop, 1) := by decide +kernel
theorem dX7_init_58 : decode cX7_init 58 = .ok (.return_, 1) := by decide +kernel
theorem dX7_removeAll_0 : decode cX7_removeAll 0 = .ok (.aload_n 0, 1) := by decide +kernel
theorem dX7_removeAll_1 : decode cX7_removeAll 1 = .ok (.iconst 0, 1) := by decide +kernel
theorem dX7_removeAll_2 : decode cX7_removeAll 2 = .ok (.putfield 34, 3) := by decide +kernel
theorem dX7_removeAll_5 : decode cX7_removeAll 5 = .ok (.aload_n 0, 1) := by decide +kernel
theorem dX7_removeAll_6 : decode cX7_removeAll 6 = .ok (.iconst 0, 1) := by decide +kernel
theorem dX7_removeAll_7 : decode cX7_removeAll 7 = .ok (.putfield 38, 3) := by decide +kernel
theorem dX7_removeAll_10 : decode cX7_removeAll 10 = .ok (.aload_n 0, 1) := by decide +kernel
theorem dX7_removeAll_11 : decode cX7_removeAll 11 = .ok (.iconst 0, 1) := by decide +kernel
theorem dX7_removeAll_12 : decode cX7_removeAll 12 = .ok (.putfield 41, 3) := by decide +kernel
theorem dX7_removeAll_15 : decode cX7_removeAll 15 = .ok (.return_, 1) := by decide +kernel
theorem dX7_addLeaf_0 : decode cX7_addLeaf 0 = .ok (.aload_n 0, 1) := by decide +kernel
theorem dX7_addLeaf_1 : decode cX7_addLeaf 1 = .ok (.bipush 42, 2) := by decide +kernel
theorem dX7_addLeaf_3 : decode cX7_addLeaf 3 = .ok (.iconst 0, 1) := by decide +kernel
theorem dX7_addLeaf_4 : decode cX7_addLeaf 4 = .ok (.iload_n 1, 1) := by decide +kernel
theorem dX7_addLeaf_5 : decode cX7_addLeaf 5 = .ok (.invokevirtual 44, 3) := by decide +kernel
theorem dX7_addLeaf_8 : decode cX7_addLeaf 8 = .ok (.istore_n 2, 1) := by decide +kernel
theorem dX7_addLeaf_9 : decode cX7_addLeaf 9 = .ok (.iload_n 2, 1) := by decide +kernel
theorem dX7_addLeaf_10 : decode cX7_addLeaf 10 = .ok (.iconst (-1), 1) := by decide +kernel
theorem dX7_addLeaf_11 : decode cX7_addLeaf 11 = .ok (.if_icmp .eq 23, 3) := by decide +kernel
theorem dX7_addLeaf_14 : decode cX7_addLeaf 14 = .ok (.aload_n 0, 1) := by decide +kernel
theorem dX7_addLeaf_15 : decode cX7_addLeaf 15 = .ok (.getfield 27, 3) := by decide +kernel
theorem dX7_addLeaf_18 : decode cX7_addLeaf 18 = .ok (.iload_n 2, 1) := by decide +kernel
theorem dX7_addLeaf_19 : decode cX7_addLeaf 19 = .ok (.aload_n 0, 1) := by decide +kernel
theorem dX7_addLeaf_20 : decode cX7_addLeaf 20 = .ok (.getfield 38, 3) := by decide +kernel
theorem dX7_addLeaf_23 : decode cX7_addLeaf 23 = .ok (.iastore, 1) := by decide +kernel
theorem dX7_addLeaf_24 : decode cX7_addLeaf 24 = .ok (.aload_n 0, 1) := by decide +kernel
theorem dX7_addLeaf_25 : decode cX7_addLeaf 25 = .ok (.dup, 1) := by decide +kernel
theorem dX7_addLeaf_26 : decode cX7_addLeaf 26 = .ok (.getfield 38, 3) := by decide +kernel
theorem dX7_addLeaf_29 : decode cX7_addLeaf 29 = .ok (.iconst 1, 1) := by decide +kernel
theorem dX7_addLeaf_30 : decode cX7_addLeaf 30 = .ok (.iadd, 1) := by decide +kernel
theorem dX7_addLeaf_31 : decode cX7_addLeaf 31 = .ok (.putfield 38, 3) := by decide +kernel
theorem dX7_addLeaf_34 : decode cX7_addLeaf 34 = .ok (.iload_n 2, 1) := by decide +kernel
theorem dX7_addLeaf_35 : decode cX7_addLeaf 35 = .ok (.ireturn, 1) := by decide +kernel
theorem dX7_addQuestion_0 : decode cX7_addQuestion 0 = .ok (.aload_n 0, 1) := by decide +kernel
theorem dX7_addQuestion_1 : decode cX7_addQuestion 1 = .ok (.aload_n 0, 1) := by decide +kernel
theorem dX7_addQuestion_2 : decode cX7_addQuestion 2 = .ok (.getfield 41, 3) := by decide +kernel
theorem dX7_addQuestion_5 : decode cX7_addQuestion 5 = .ok (.iload 4, 2) := by decide +kernel
theorem dX7_addQuestion_7 : decode cX7_addQuestion 7 = .ok (.invokestatic 48, 3) := by decide +kernel
theorem dX7_addQuestion_10 : decode cX7_addQuestion 10 = .ok (.putfield 41, 3) := by decide +kernel
theorem dX7_addQuestion_13 : decode cX7_addQuestion 13 = .ok (.aload_n 0, 1) := by decide +kernel
theorem dX7_addQuestion_14 : decode cX7_addQuestion 14 = .ok (.iload_n 1, 1) := by decide +kernel
theorem dX7_addQuestion_15 : decode cX7_addQuestion 15 = .ok (.iload_n 2, 1) := by decide +kernel
theorem dX7_addQuestion_16 : decode cX7_addQuestion 16 = .ok (.iload_n 3, 1) := by decide +kernel
theorem dX7_addQuestion_17 : decode cX7_addQuestion 17 = .ok (.invokevirtual 44, 3) := by decide +kernel
theorem dX7_addQuestion_20 : decode cX7_addQuestion 20 = .ok (.ireturn, 1) := by decide +kernel
theorem dX7_addNode_0 : decode cX7_addNode 0 = .ok (.aload_n 0, 1) := by decide +kernel
theorem dX7_addNode_1 : decode cX7_addNode 1 = .ok (.getfield 34, 3) := by decide +kernel
theorem dX7_addNode_4 : decode cX7_addNode 4 = .ok (.ifCond .lt 12, 3) := by decide +kernel
theorem dX7_addNode_7 : decode cX7_addNode 7 = .ok (.aload_n 0, 1) := by decide +kernel
theorem dX7_addNode_8 : decode cX7_addNode 8 = .ok (.getfield 34, 3) := by decide +kernel
theorem dX7_addNode_11 : decode cX7_addNode 11 = .ok (.bipush 120, 2) := by decide +kernel
theorem dX7_addNode_13 : decode cX7_addNode 13 = .ok (.if_icmp .lt 5, 3) := by decide +kernel
theorem dX7_addNode_16 : decode cX7_addNode 16 = .ok (.iconst (-1), 1) := by decide +kernel
theorem dX7_addNode_17 : decode cX7_addNode 17 = .ok (.ireturn, 1) := by decide +kernel
theorem dX7_addNode_18 : decode cX7_addNode 18 = .ok (.aload_n 0, 1) := by decide +kernel
theorem dX7_addNode_19 : decode cX7_addNode 19 = .ok (.getfield 34, 3) := by decide +kernel
theorem dX7_addNode_22 : decode cX7_addNode 22 = .ok (.istore 4, 2) := by decide +kernel
theorem dX7_addNode_24 : decode cX7_addNode 24 = .ok (.aload_n 0, 1) := by decide +kernel
theorem dX7_addNode_25 : decode cX7_addNode 25 = .ok (.getfield 9, 3) := by decide +kernel
theorem dX7_addNode_28 : decode cX7_addNode 28 = .ok (.iload 4, 2) := by decide +kernel
theorem dX7_addNode_30 : decode cX7_addNode 30 = .ok (.iload_n 1, 1) := by decide +kernel
theorem dX7_addNode_31 : decode cX7_addNode 31 = .ok (.iastore, 1) := by decide +kernel
theorem dX7_addNode_32 : decode cX7_addNode 32 = .ok (.aload_n 0, 1) := by decide +kernel
theorem dX7_addNode_33 : decode cX7_addNode 33 = .ok (.getfield 15, 3) := by decide +kernel
theorem dX7_addNode_36 : decode cX7_addNode 36 = .ok (.iload 4, 2) := by decide +kernel
theorem dX7_addNode_38 : decode cX7_addNode 38 = .ok (.iload_n 2, 1) := by decide +kernel
theorem dX7_addNode_39 : decode cX7_addNode 39 = .ok (.iastore, 1) := by decide +kernel
theorem dX7_addNode_40 : decode cX7_addNode 40 = .ok (.aload_n 0, 1) := by decide +kernel
theorem dX7_addNode_41 : decode cX7_addNode 41 = .ok (.getfield 18, 3) := by decide +kernel
theorem dX7_addNode_44 : decode cX7_addNode 44 = .ok (.iload 4, 2) := by decide +kernel
theorem dX7_addNode_46 : decode cX7_addNode 46 = .ok (.iload_n 3, 1) := by decide +kernel
theorem dX7_addNode_47 : decode cX7_addNode 47 = .ok (.iastore, 1) := by decide +kernel
theorem dX7_addNode_48 : decode cX7_addNode 48 = .ok (.aload_n 0, 1) := by decide +kernel
theorem dX7_addNode_49 : decode cX7_addNode 49 = .ok (.getfield 21, 3) := by decide +kernel
theorem dX7_addNode_52 : decode cX7_addNode 52 = .ok (.iload 4, 2) := by decide +kernel
theorem dX7_addNode_54 : decode cX7_addNode 54 = .ok (.iconst (-1), 1) := by decide +kernel
theorem dX7_addNode_55 : decode cX7_addNode 55 = .ok (.iastore, 1) := by decide +kernel
theorem dX7_addNode_56 : decode cX7_addNode 56 = .ok (.aload_n 0, 1) := by decide +kernel
theorem dX7_addNode_57 : decode cX7_addNode 57 = .ok (.getfield 24, 3) := by decide +kernel
theorem dX7_addNode_60 : decode cX7_addNode 60 = .ok (.iload 4, 2) := by decide +kernel
theorem dX7_addNode_62 : decode cX7_addNode 62 = .ok (.iconst (-1), 1) := by decide +kernel
theorem dX7_addNode_63 : decode cX7_addNode 63 = .ok (.iastore, 1) := by decide +kernel
theorem dX7_addNode_64 : decode cX7_addNode 64 = .ok (.aload_n 0, 1) := by decide +kernel
theorem dX7_addNode_65 : decode cX7_addNode 65 = .ok (.getfield 27, 3) := by decide +kernel
theorem dX7_addNode_68 : decode cX7_addNode 68 = .ok (.iload 4, 2) := by decide +kernel
theorem dX7_addNode_70 : decode cX7_addNode 70 = .ok (.iconst (-1), 1) := by decide +kernel
theorem dX7_addNode_71 : decode cX7_addNode 71 = .ok (.iastore, 1) := by decide +kernel
theorem dX7_addNode_72 : decode cX7_addNode 72 = .ok (.aload_n 0, 1) := by decide +kernel
theorem dX7_addNode_73 : decode cX7_addNode 73 = .ok (.dup, 1) := by decide +kernel
theorem dX7_addNode_74 : decode cX7_addNode 74 = .ok (.getfield 34, 3) := by decide +kernel
theorem dX7_addNode_77 : decode cX7_addNode 77 = .ok (.iconst 1, 1) := by decide +kernel
theorem dX7_addNode_78 : decode cX7_addNode 78 = .ok (.iadd, 1) := by decide +kernel
theorem dX7_addNode_79 : decode cX7_addNode 79 = .ok (.putfield 34, 3) := by decide +kernel
theorem dX7_addNode_82 : decode cX7_addNode 82 = .ok (.iload 4, 2) := by decide +kernel
theorem dX7_addNode_84 : decode cX7_addNode 84 = .ok (.ireturn, 1) := by decide +kernel
theorem dX7_putBranches_0 : decode cX7_putBranches 0 = .ok (.aload_n 0, 1) := by decide +kernel
theorem dX7_putBranches_1 : decode cX7_putBranches 1 = .ok (.iload_n 1, 1) := by decide +kernel
theorem dX7_putBranches_2 : decode cX7_putBranches 2 = .ok (.invokevirtual 54, 3) := by decide +kernel
theorem dX7_putBranches_5 : decode cX7_putBranches 5 = .ok (.ifCond .eq 17, 3) := by decide +kernel
theorem dX7_putBranches_8 : decode cX7_putBranches 8 = .ok (.aload_n 0, 1) := by decide +kernel
theorem dX7_putBranches_9 : decode cX7_putBranches 9 = .ok (.getfield 21, 3) := by decide +kernel
theorem dX7_putBranches_12 : decode cX7_putBranches 12 = .ok (.iload_n 1, 1) := by decide +kernel
theorem dX7_putBranches_13 : decode cX7_putBranches 13 = .ok (.iload_n 2, 1) := by decide +kernel
theorem dX7_putBranches_14 : decode cX7_putBranches 14 = .ok (.iastore, 1) := by decide +kernel
theorem dX7_putBranches_15 : decode cX7_putBranches 15 = .ok (.aload_n 0, 1) := by decide +kernel
theorem dX7_putBranches_16 : decode cX7_putBranches 16 = .ok (.getfield 24, 3) := by decide +kernel
theorem dX7_putBranches_19 : decode cX7_putBranches 19 = .ok (.iload_n 1, 1) := by decide +kernel
theorem dX7_putBranches_20 : decode cX7_putBranches 20 = .ok (.iload_n 3, 1) := by decide +kernel
theorem dX7_putBranches_21 : decode cX7_putBranches 21 = .ok (.iastore, 1) := by decide +kernel
theorem dX7_putBranches_22 : decode cX7_putBranches 22 = .ok (.return_, 1) := by decide +kernel
theorem dX7_become_0 : decode cX7_become 0 = .ok (.aload_n 0, 1) := by decide +kernel
theorem dX7_become_1 : decode cX7_become 1 = .ok (.aload_n 1, 1) := by decide +kernel
theorem dX7_become_2 : decode cX7_become 2 = .ok (.getfield 34, 3) := by decide +kernel
theorem dX7_become_5 : decode cX7_become 5 = .ok (.putfield 34, 3) := by decide +kernel
theorem dX7_become_8 : decode cX7_become 8 = .ok (.aload_n 0, 1) := by decide +kernel
theorem dX7_become_9 : decode cX7_become 9 = .ok (.aload_n 1, 1) := by decide +kernel
theorem dX7_become_10 : decode cX7_become 10 = .ok (.getfield 38, 3) := by decide +kernel
theorem dX7_become_13 : decode cX7_become 13 = .ok (.putfield 38, 3) := by decide +kernel
theorem dX7_become_16 : decode cX7_become 16 = .ok (.aload_n 0, 1) := by decide +kernel
theorem dX7_become_17 : decode cX7_become 17 = .ok (.aload_n 1, 1) := by decide +kernel
theorem dX7_become_18 : decode cX7_become 18 = .ok (.getfield 41, 3) := by decide +kernel
theorem dX7_become_21 : decode cX7_become 21 = .ok (.putfield 41, 3) := by decide +kernel
theorem dX7_become_24 : decode cX7_become 24 = .ok (.iconst 0, 1) := by decide +kernel
theorem dX7_become_25 : decode cX7_become 25 = .ok (.istore_n 2, 1) := by decide +kernel
theorem dX7_become_26 : decode cX7_become 26 = .ok (.iload_n 2, 1) := by decide +kernel
theorem dX7_become_27 : decode cX7_become 27 = .ok (.bipush 120, 2) := by decide +kernel
theorem dX7_become_29 : decode cX7_become 29 = .ok (.if_icmp .ge 89, 3) := by decide +kernel
theorem dX7_become_32 : decode cX7_become 32 = .ok (.iload_n 2, 1) := by decide +kernel
theorem dX7_become_33 : decode cX7_become 33 = .ok (.aload_n 0, 1) := by decide +kernel
theorem dX7_become_34 : decode cX7_become 34 = .ok (.getfield 34, 3) := by decide +kernel
theorem dX7_become_37 : decode cX7_become 37 = .ok (.if_icmp .ge 81, 3) := by decide +kernel
theorem dX7_become_40 : decode cX7_become 40 = .ok (.aload_n 0, 1) := by decide +kernel
theorem dX7_become_41 : decode cX7_become 41 = .ok (.getfield 9, 3) := by decide +kernel
theorem dX7_become_44 : decode cX7_become 44 = .ok (.iload_n 2, 1) := by decide +kernel
theorem dX7_become_45 : decode cX7_become 45 = .ok (.aload_n 1, 1) := by decide +kernel
theorem dX7_become_46 : decode cX7_become 46 = .ok (.getfield 9, 3) := by decide +kernel
theorem dX7_become_49 : decode cX7_become 49 = .ok (.iload_n 2, 1) := by decide +kernel
theorem dX7_become_50 : decode cX7_become 50 = .ok (.iaload, 1) := by decide +kernel
theorem dX7_become_51 : decode cX7_become 51 = .ok (.iastore, 1) := by decide +kernel
theorem dX7_become_52 : decode cX7_become 52 = .ok (.aload_n 0, 1) := by decide +kernel
theorem dX7_become_53 : decode cX7_become 53 = .ok (.getfield 15, 3) := by decide +kernel
theorem dX7_become_56 : decode cX7_become 56 = .ok (.iload_n 2, 1) := by decide +kernel
theorem dX7_become_57 : decode cX7_become 57 = .ok (.aload_n 1, 1) := by decide +kernel
theorem dX7_become_58 : decode cX7_become 58 = .ok (.getfield 15, 3) := by decide +kernel
theorem dX7_become_61 : decode cX7_become 61 = .ok (.iload_n 2, 1) := by decide +kernel
theorem dX7_become_62 : decode cX7_become 62 = .ok (.iaload, 1) := by decide +kernel
theorem dX7_become_63 : decode cX7_become 63 = .ok (.iastore, 1) := by decide +kernel
theorem dX7_become_64 : decode cX7_become 64 = .ok (.aload_n 0, 1) := by decide +kernel
theorem dX7_become_65 : decode cX7_become 65 = .ok (.getfield 18, 3) := by decide +kernel
theorem dX7_become_68 : decode cX7_become 68 = .ok (.iload_n 2, 1) := by decide +kernel
theorem dX7_become_69 : decode cX7_become 69 = .ok (.aload_n 1, 1) := by decide +kernel
theorem dX7_become_70 : decode cX7_become 70 = .ok (.getfield 18, 3) := by decide +kernel
theorem dX7_become_73 : decode cX7_become 73 = .ok (.iload_n 2, 1) := by decide +kernel
theorem dX7_become_74 : decode cX7_become 74 = .ok (.iaload, 1) := by decide +kernel
theorem dX7_become_75 : decode cX7_become 75 = .ok (.iastore, 1) := by decide +kernel
theorem dX7_become_76 : decode cX7_become 76 = .ok (.aload_n 0, 1) := by decide +kernel
theorem dX7_become_77 : decode cX7_become 77 = .ok (.getfield 21, 3) := by decide +kernel
theorem dX7_become_80 : decode cX7_become 80 = .ok (.iload_n 2, 1) := by decide +kernel
theorem dX7_become_81 : decode cX7_become 81 = .ok (.aload_n 1, 1) := by decide +kernel
theorem dX7_become_82 : decode cX7_become 82 = .ok (.getfield 21, 3) := by decide +kernel
theorem dX7_become_85 : decode cX7_become 85 = .ok (.iload_n 2, 1) := by decide +kernel
theorem dX7_become_86 : decode cX7_become 86 = .ok (.iaload, 1) := by decide +kernel
theorem dX7_become_87 : decode cX7_become 87 = .ok (.iastore, 1) := by decide +kernel
theorem dX7_become_88 : decode cX7_become 88 = .ok (.aload_n 0, 1) := by decide +kernel
theorem dX7_become_89 : decode cX7_become 89 = .ok (.getfield 24, 3) := by decide +kernel
theorem dX7_become_92 : decode cX7_become 92 = .ok (.iload_n 2, 1) := by decide +kernel
theorem dX7_become_93 : decode cX7_become 93 = .ok (.aload_n 1, 1) := by decide +kernel
theorem dX7_become_94 : decode cX7_become 94 = .ok (.getfield 24, 3) := by decide +kernel
theorem dX7_become_97 : decode cX7_become 97 = .ok (.iload_n 2, 1) := by decide +kernel
theorem dX7_become_98 : decode cX7_become 98 = .ok (.iaload, 1) := by decide +kernel
theorem dX7_become_99 : decode cX7_become 99 = .ok (.iastore, 1) := by decide +kernel
theorem dX7_become_100 : decode cX7_become 100 = .ok (.aload_n 0, 1) := by decide +kernel
theorem dX7_become_101 : decode cX7_become 101 = .ok (.getfield 27, 3) := by decide +kernel
theorem dX7_become_104 : decode cX7_become 104 = .ok (.iload_n 2, 1) := by decide +kernel
theorem dX7_become_105 : decode cX7_become 105 = .ok (.aload_n 1, 1) := by decide +kernel
theorem dX7_become_106 : decode cX7_become 106 = .ok (.getfield 27, 3) := by decide +kernel
theorem dX7_become_109 : decode cX7_become 109 = .ok (.iload_n 2, 1) := by decide +kernel
theorem dX7_become_110 : decode cX7_become 110 = .ok (.iaload, 1) := by decide +kernel
theorem dX7_become_111 : decode cX7_become 111 = .ok (.iastore, 1) := by decide +kernel
theorem dX7_become_112 : decode cX7_become 112 = .ok (.iinc 2 1, 3) := by decide +kernel
theorem dX7_become_115 : decode cX7_become 115 = .ok (.goto (-89), 3) := by decide +kernel
theorem dX7_become_118 : decode cX7_become 118 = .ok (.return_, 1) := by decide +kernel
theorem dX7_leafFor_0 : decode cX7_leafFor 0 = .ok (.iconst 0, 1) := by decide +kernel
theorem dX7_leafFor_1 : decode cX7_leafFor 1 = .ok (.istore 5, 2) := by decide +kernel
theorem dX7_leafFor_3 : decode cX7_leafFor 3 = .ok (.iconst 0, 1) := by decide +kernel
theorem dX7_leafFor_4 : decode cX7_leafFor 4 = .ok (.istore 6, 2) := by decide +kernel
theorem dX7_leafFor_6 : decode cX7_leafFor 6 = .ok (.iload 6, 2) := by decide +kernel
theorem dX7_leafFor_8 : decode cX7_leafFor 8 = .ok (.bipush 7, 2) := by decide +kernel
theorem dX7_leafFor_10 : decode cX7_leafFor 10 = .ok (.if_icmp .ge 70, 3) := by decide +kernel
theorem dX7_leafFor_13 : decode cX7_leafFor 13 = .ok (.aload_n 0, 1) := by decide +kernel
theorem dX7_leafFor_14 : decode cX7_leafFor 14 = .ok (.getfield 9, 3) := by decide +kernel
theorem dX7_leafFor_17 : decode cX7_leafFor 17 = .ok (.iload 5, 2) := by decide +kernel
theorem dX7_leafFor_19 : decode cX7_leafFor 19 = .ok (.iaload, 1) := by decide +kernel
theorem dX7_leafFor_20 : decode cX7_leafFor 20 = .ok (.bipush 42, 2) := by decide +kernel
theorem dX7_leafFor_22 : decode cX7_leafFor 22 = .ok (.if_icmp .eq 58, 3) := by decide +kernel
theorem dX7_leafFor_25 : decode cX7_leafFor 25 = .ok (.aload_n 0, 1) := by decide +kernel
theorem dX7_leafFor_26 : decode cX7_leafFor 26 = .ok (.iload 5, 2) := by decide +kernel
theorem dX7_leafFor_28 : decode cX7_leafFor 28 = .ok (.iload_n 1, 1) := by decide +kernel
theorem dX7_leafFor_29 : decode cX7_leafFor 29 = .ok (.iload_n 2, 1) := by decide +kernel
theorem dX7_leafFor_30 : decode cX7_leafFor 30 = .ok (.iload_n 3, 1) := by decide +kernel
theorem dX7_leafFor_31 : decode cX7_leafFor 31 = .ok (.iload 4, 2) := by decide +kernel
theorem dX7_leafFor_33 : decode cX7_leafFor 33 = .ok (.invokevirtual 58, 3) := by decide +kernel
theorem dX7_leafFor_36 : decode cX7_leafFor 36 = .ok (.ifCond .eq 13, 3) := by decide +kernel
theorem dX7_leafFor_39 : decode cX7_leafFor 39 = .ok (.aload_n 0, 1) := by decide +kernel
theorem dX7_leafFor_40 : decode cX7_leafFor 40 = .ok (.getfield 21, 3) := by decide +kernel
theorem dX7_leafFor_43 : decode cX7_leafFor 43 = .ok (.iload 5, 2) := by decide +kernel
theorem dX7_leafFor_45 : decode cX7_leafFor 45 = .ok (.iaload, 1) := by decide +kernel
theorem dX7_leafFor_46 : decode cX7_leafFor 46 = .ok (.goto 10, 3) := by decide +kernel
theorem dX7_leafFor_49 : decode cX7_leafFor 49 = .ok (.aload_n 0, 1) := by decide +kernel
theorem dX7_leafFor_50 : decode cX7_leafFor 50 = .ok (.getfield 24, 3) := by decide +kernel
theorem dX7_leafFor_53 : decode cX7_leafFor 53 = .ok (.iload 5, 2) := by decide +kernel
theorem dX7_leafFor_55 : decode cX7_leafFor 55 = .ok (.iaload, 1) := by decide +kernel
theorem dX7_leafFor_56 : decode cX7_leafFor 56 = .ok (.istore 7, 2) := by decide +kernel
theorem dX7_leafFor_58 : decode cX7_leafFor 58 = .ok (.aload_n 0, 1) := by decide +kernel
theorem dX7_leafFor_59 : decode cX7_leafFor 59 = .ok (.iload 7, 2) := by decide +kernel
theorem dX7_leafFor_61 : decode cX7_leafFor 61 = .ok (.invokevirtual 54, 3) := by decide +kernel
theorem dX7_leafFor_64 : decode cX7_leafFor 64 = .ok (.ifCond .ne 6, 3) := by decide +kernel
theorem dX7_leafFor_67 : decode cX7_leafFor 67 = .ok (.iload 5, 2) := by decide +kernel
theorem dX7_leafFor_69 : decode cX7_leafFor 69 = .ok (.ireturn, 1) := by decide +kernel
theorem dX7_leafFor_70 : decode cX7_leafFor 70 = .ok (.iload 7, 2) := by decide +kernel
theorem dX7_leafFor_72 : decode cX7_leafFor 72 = .ok (.istore 5, 2) := by decide +kernel
theorem dX7_leafFor_74 : decode cX7_leafFor 74 = .ok (.iinc 6 1, 3) := by decide +kernel
theorem dX7_leafFor_77 : decode cX7_leafFor 77 = .ok (.goto (-71), 3) := by decide +kernel
theorem dX7_leafFor_80 : decode cX7_leafFor 80 = .ok (.iload 5, 2) := by decide +kernel
theorem dX7_leafFor_82 : decode cX7_leafFor 82 = .ok (.ireturn, 1) := by decide +kernel
theorem dX7_saysYes_0 : decode cX7_saysYes 0 = .ok (.aload_n 0, 1) := by decide +kernel
theorem dX7_saysYes_1 : decode cX7_saysYes 1 = .ok (.getfield 9, 3) := by decide +kernel
theorem dX7_saysYes_4 : decode cX7_saysYes 4 = .ok (.iload_n 1, 1) := by decide +kernel
theorem dX7_saysYes_5 : decode cX7_saysYes 5 = .ok (.iaload, 1) := by decide +kernel
theorem dX7_saysYes_6 : decode cX7_saysYes 6 = .ok (.lookupswitch 83 #[(76, 34), (80, 66), (82, 50)], 34) := by decide +kernel
theorem dX7_saysYes_40 : decode cX7_saysYes 40 = .ok (.iload_n 2, 1) := by decide +kernel
theorem dX7_saysYes_41 : decode cX7_saysYes 41 = .ok (.aload_n 0, 1) := by decide +kernel
theorem dX7_saysYes_42 : decode cX7_saysYes 42 = .ok (.getfield 15, 3) := by decide +kernel
theorem dX7_saysYes_45 : decode cX7_saysYes 45 = .ok (.iload_n 1, 1) := by decide +kernel
theorem dX7_saysYes_46 : decode cX7_saysYes 46 = .ok (.iaload, 1) := by decide +kernel
theorem dX7_saysYes_47 : decode cX7_saysYes 47 = .ok (.if_icmp .ne 7, 3) := by decide +kernel
theorem dX7_saysYes_50 : decode cX7_saysYes 50 = .ok (.iconst 1, 1) := by decide +kernel
theorem dX7_saysYes_51 : decode cX7_saysYes 51 = .ok (.goto 4, 3) := by decide +kernel
theorem dX7_saysYes_54 : decode cX7_saysYes 54 = .ok (.iconst 0, 1) := by decide +kernel
theorem dX7_saysYes_55 : decode cX7_saysYes 55 = .ok (.ireturn, 1) := by decide +kernel
theorem dX7_saysYes_56 : decode cX7_saysYes 56 = .ok (.iload_n 3, 1) := by decide +kernel
theorem dX7_saysYes_57 : decode cX7_saysYes 57 = .ok (.aload_n 0, 1) := by decide +kernel
theorem dX7_saysYes_58 : decode cX7_saysYes 58 = .ok (.getfield 15, 3) := by decide +kernel
theorem dX7_saysYes_61 : decode cX7_saysYes 61 = .ok (.iload_n 1, 1) := by decide +kernel
theorem dX7_saysYes_62 : decode cX7_saysYes 62 = .ok (.iaload, 1) := by decide +kernel
theorem dX7_saysYes_63 : decode cX7_saysYes 63 = .ok (.if_icmp .ne 7, 3) := by decide +kernel
theorem dX7_saysYes_66 : decode cX7_saysYes 66 = .ok (.iconst 1, 1) := by decide +kernel
theorem dX7_saysYes_67 : decode cX7_saysYes 67 = .ok (.goto 4, 3) := by decide +kernel
theorem dX7_saysYes_70 : decode cX7_saysYes 70 = .ok (.iconst 0, 1) := by decide +kernel
theorem dX7_saysYes_71 : decode cX7_saysYes 71 = .ok (.ireturn, 1) := by decide +kernel
theorem dX7_saysYes_72 : decode cX7_saysYes 72 = .ok (.iload 4, 2) := by decide +kernel
theorem dX7_saysYes_74 : decode cX7_saysYes 74 = .ok (.aload_n 0, 1) := by decide +kernel
theorem dX7_saysYes_75 : decode cX7_saysYes 75 = .ok (.getfield 15, 3) := by decide +kernel
theorem dX7_saysYes_78 : decode cX7_saysYes 78 = .ok (.iload_n 1, 1) := by decide +kernel
theorem dX7_saysYes_79 : decode cX7_saysYes 79 = .ok (.iaload, 1) := by decide +kernel
theorem dX7_saysYes_80 : decode cX7_saysYes 80 = .ok (.if_icmp .le 7, 3) := by decide +kernel
theorem dX7_saysYes_83 : decode cX7_saysYes 83 = .ok (.iconst 1, 1) := by decide +kernel
theorem dX7_saysYes_84 : decode cX7_saysYes 84 = .ok (.goto 4, 3) := by decide +kernel
theorem dX7_saysYes_87 : decode cX7_saysYes 87 = .ok (.iconst 0, 1) := by decide +kernel
theorem dX7_saysYes_88 : decode cX7_saysYes 88 = .ok (.ireturn, 1) := by decide +kernel
theorem dX7_saysYes_89 : decode cX7_saysYes 89 = .ok (.iload 5, 2) := by decide +kernel
theorem dX7_saysYes_91 : decode cX7_saysYes 91 = .ok (.aload_n 0, 1) := by decide +kernel
theorem dX7_saysYes_92 : decode cX7_saysYes 92 = .ok (.getfield 15, 3) := by decide +kernel
theorem dX7_saysYes_95 : decode cX7_saysYes 95 = .ok (.iload_n 1, 1) := by decide +kernel
theorem dX7_saysYes_96 : decode cX7_saysYes 96 = .ok (.iaload, 1) := by decide +kernel
theorem dX7_saysYes_97 : decode cX7_saysYes 97 = .ok (.if_icmp .le 7, 3) := by decide +kernel
theorem dX7_saysYes_100 : decode cX7_saysYes 100 = .ok (.iconst 1, 1) := by decide +kernel
theorem dX7_saysYes_101 : decode cX7_saysYes 101 = .ok (.goto 4, 3) := by decide +kernel
theorem dX7_saysYes_104 : decode cX7_saysYes 104 = .ok (.iconst 0, 1) := by decide +kernel
theorem dX7_saysYes_105 : decode cX7_saysYes 105 = .ok (.ireturn, 1) := by decide +kernel
theorem dX7_liesUnder_0 : decode cX7_liesUnder 0 = .ok (.iload_n 1, 1) := by decide +kernel
theorem dX7_liesUnder_1 : decode cX7_liesUnder 1 = .ok (.istore_n 3, 1) := by decide +kernel
theorem dX7_liesUnder_2 : decode cX7_liesUnder 2 = .ok (.iconst 0, 1) := by decide +kernel
theorem dX7_liesUnder_3 : decode cX7_liesUnder 3 = .ok (.istore 4, 2) := by decide +kernel
theorem dX7_liesUnder_5 : decode cX7_liesUnder 5 = .ok (.iload 4, 2) := by decide +kernel
theorem dX7_liesUnder_7 : decode cX7_liesUnder 7 = .ok (.bipush 7, 2) := by decide +kernel
theorem dX7_liesUnder_9 : decode cX7_liesUnder 9 = .ok (.if_icmp .ge 25, 3) := by decide +kernel
theorem dX7_liesUnder_12 : decode cX7_liesUnder 12 = .ok (.iload_n 3, 1) := by decide +kernel
theorem dX7_liesUnder_13 : decode cX7_liesUnder 13 = .ok (.iload_n 2, 1) := by decide +kernel
theorem dX7_liesUnder_14 : decode cX7_liesUnder 14 = .ok (.if_icmp .eq 20, 3) := by decide +kernel
theorem dX7_liesUnder_17 : decode cX7_liesUnder 17 = .ok (.iload_n 3, 1) := by decide +kernel
theorem dX7_liesUnder_18 : decode cX7_liesUnder 18 = .ok (.iconst (-1), 1) := by decide +kernel
theorem dX7_liesUnder_19 : decode cX7_liesUnder 19 = .ok (.if_icmp .eq 15, 3) := by decide +kernel
theorem dX7_liesUnder_22 : decode cX7_liesUnder 22 = .ok (.aload_n 0, 1) := by decide +kernel
theorem dX7_liesUnder_23 : decode cX7_liesUnder 23 = .ok (.iload_n 3, 1) := by decide +kernel
theorem dX7_liesUnder_24 : decode cX7_liesUnder 24 = .ok (.invokevirtual 62, 3) := by decide +kernel
theorem dX7_liesUnder_27 : decode cX7_liesUnder 27 = .ok (.istore_n 3, 1) := by decide +kernel
theorem dX7_liesUnder_28 : decode cX7_liesUnder 28 = .ok (.iinc 4 1, 3) := by decide +kernel
theorem dX7_liesUnder_31 : decode cX7_liesUnder 31 = .ok (.goto (-26), 3) := by decide +kernel
theorem dX7_liesUnder_34 : decode cX7_liesUnder 34 = .ok (.iload_n 3, 1) := by decide +kernel
theorem dX7_liesUnder_35 : decode cX7_liesUnder 35 = .ok (.iload_n 2, 1) := by decide +kernel
theorem dX7_liesUnder_36 : decode cX7_liesUnder 36 = .ok (.if_icmp .ne 7, 3) := by decide +kernel
theorem dX7_liesUnder_39 : decode cX7_liesUnder 39 = .ok (.iconst 1, 1) := by decide +kernel
theorem dX7_liesUnder_40 : decode cX7_liesUnder 40 = .ok (.goto 4, 3) := by decide +kernel
theorem dX7_liesUnder_43 : decode cX7_liesUnder 43 = .ok (.iconst 0, 1) := by decide +kernel
theorem dX7_liesUnder_44 : decode cX7_liesUnder 44 = .ok (.ireturn, 1) := by decide +kernel
theorem dX7_nodeAbove_0 : decode cX7_nodeAbove 0 = .ok (.iload_n 1, 1) := by decide +kernel
theorem dX7_nodeAbove_1 : decode cX7_nodeAbove 1 = .ok (.ifCond .lt 20, 3) := by decide +kernel
theorem dX7_nodeAbove_4 : decode cX7_nodeAbove 4 = .ok (.iload_n 1, 1) := by decide +kernel
theorem dX7_nodeAbove_5 : decode cX7_nodeAbove 5 = .ok (.aload_n 0, 1) := by decide +kernel
theorem dX7_nodeAbove_6 : decode cX7_nodeAbove 6 = .ok (.getfield 34, 3) := by decide +kernel
theorem dX7_nodeAbove_9 : decode cX7_nodeAbove 9 = .ok (.if_icmp .ge 12, 3) := by decide +kernel
theorem dX7_nodeAbove_12 : decode cX7_nodeAbove 12 = .ok (.aload_n 0, 1) := by decide +kernel
theorem dX7_nodeAbove_13 : decode cX7_nodeAbove 13 = .ok (.getfield 18, 3) := by decide +kernel
theorem dX7_nodeAbove_16 : decode cX7_nodeAbove 16 = .ok (.iload_n 1, 1) := by decide +kernel
theorem dX7_nodeAbove_17 : decode cX7_nodeAbove 17 = .ok (.iaload, 1) := by decide +kernel
theorem dX7_nodeAbove_18 : decode cX7_nodeAbove 18 = .ok (.goto 4, 3) := by decide +kernel
theorem dX7_nodeAbove_21 : decode cX7_nodeAbove 21 = .ok (.iconst (-1), 1) := by decide +kernel
theorem dX7_nodeAbove_22 : decode cX7_nodeAbove 22 = .ok (.ireturn, 1) := by decide +kernel
theorem dX7_numberOf_0 : decode cX7_numberOf 0 = .ok (.aload_n 0, 1) := by decide +kernel
theorem dX7_numberOf_1 : decode cX7_numberOf 1 = .ok (.iload_n 1, 1) := by decide +kernel
theorem dX7_numberOf_2 : decode cX7_numberOf 2 = .ok (.invokevirtual 54, 3) := by decide +kernel
theorem dX7_numberOf_5 : decode cX7_numberOf 5 = .ok (.ifCond .eq 12, 3) := by decide +kernel
theorem dX7_numberOf_8 : decode cX7_numberOf 8 = .ok (.aload_n 0, 1) := by decide +kernel
theorem dX7_numberOf_9 : decode cX7_numberOf 9 = .ok (.getfield 27, 3) := by decide +kernel
theorem dX7_numberOf_12 : decode cX7_numberOf 12 = .ok (.iload_n 1, 1) := by decide +kernel
theorem dX7_numberOf_13 : decode cX7_numberOf 13 = .ok (.iaload, 1) := by decide +kernel
theorem dX7_numberOf_14 : decode cX7_numberOf 14 = .ok (.goto 4, 3) := by decide +kernel
theorem dX7_numberOf_17 : decode cX7_numberOf 17 = .ok (.iconst (-1), 1) := by decide +kernel
theorem dX7_numberOf_18 : decode cX7_numberOf 18 = .ok (.ireturn, 1) := by decide +kernel
theorem dX7_isNode_0 : decode cX7_isNode 0 = .ok (.iload_n 1, 1) := by decide +kernel
theorem dX7_isNode_1 : decode cX7_isNode 1 = .ok (.ifCond .lt 15, 3) := by decide +kernel
theorem dX7_isNode_4 : decode cX7_isNode 4 = .ok (.iload_n 1, 1) := by decide +kernel
theorem dX7_isNode_5 : decode cX7_isNode 5 = .ok (.aload_n 0, 1) := by decide +kernel
theorem dX7_isNode_6 : decode cX7_isNode 6 = .ok (.getfield 34, 3) := by decide +kernel
theorem dX7_isNode_9 : decode cX7_isNode 9 = .ok (.if_icmp .ge 7, 3) := by decide +kernel
theorem dX7_isNode_12 : decode cX7_isNode 12 = .ok (.iconst 1, 1) := by decide +kernel
theorem dX7_isNode_13 : decode cX7_isNode 13 = .ok (.goto 4, 3) := by decide +kernel
theorem dX7_isNode_16 : decode cX7_isNode 16 = .ok (.iconst 0, 1) := by decide +kernel
theorem dX7_isNode_17 : decode cX7_isNode 17 = .ok (.ireturn, 1) := by decide +kernel
theorem dX8_init_0 : decode cX8_init 0 = .ok (.aload_n 0, 1) := by decide +kernel
theorem dX8_init_1 : decode cX8_init 1 = .ok (.invokespecial 3, 3) := by decide +kernel
theorem dX8_init_4 : decode cX8_init 4 = .ok (.aload_n 0, 1) := by decide +kernel
theorem dX8_init_5 : decode cX8_init 5 = .ok (.bipush 40, 2) := by decide +kernel
theorem dX8_init_7 : decode cX8_init 7 = .ok (.newarray .int, 2) := by decide +kernel
theorem dX8_init_9 : decode cX8_init 9 = .ok (.putfield 9, 3) := by decide +kernel
theorem dX8_init_12 : decode cX8_init 12 = .ok (.aload_n 0, 1) := by decide +kernel
theorem dX8_init_13 : decode cX8_init 13 = .ok (.bipush 40, 2) := by decide +kernel
theorem dX8_init_15 : decode cX8_init 15 = .ok (.newarray .int, 2) := by decide +kernel
theorem dX8_init_17 : decode cX8_init 17 = .ok (.putfield 15, 3) := by decide +kernel
theorem dX8_init_20 : decode cX8_init 20 = .ok (.aload_n 0, 1) := by decide +kernel
theorem dX8_init_21 : decode cX8_init 21 = .ok (.bipush 40, 2) := by decide +kernel
theorem dX8_init_23 : decode cX8_init 23 = .ok (.newarray .int, 2) := by decide +kernel
theorem dX8_init_25 : decode cX8_init 25 = .ok (.putfield 18, 3) := by decide +kernel
theorem dX8_init_28 : decode cX8_init 28 = .ok (.aload_n 0, 1) := by decide +kernel
theorem dX8_init_29 : decode cX8_init 29 = .ok (.bipush 40, 2) := by decide +kernel
theorem dX8_init_31 : decode cX8_init 31 = .ok (.newarray .int, 2) := by decide +kernel
theorem dX8_init_33 : decode cX8_init 33 = .ok (.putfield 21, 3) := by decide +kernel
theorem dX8_init_36 : decode cX8_init 36 = .ok (.aload_n 0, 1) := by decide +kernel
theorem dX8_init_37 : decode cX8_init 37 = .ok (.bipush 40, 2) := by decide +kernel
theorem dX8_init_39 : decode cX8_init 39 = .ok (.newarray .int, 2) := by decide +kernel
theorem dX8_init_41 : decode cX8_init 41 = .ok (.putfield 24, 3) := by decide +kernel
theorem dX8_init_44 : decode cX8_init 44 = .ok (.aload_n 0, 1) := by decide +kernel
theorem dX8_init_45 : decode cX8_init 45 = .ok (.bipush 40, 2) := by decide +kernel
theorem dX8_init_47 : decode cX8_init 47 = .ok (.newarray .int, 2) := by decide +kernel
theorem dX8_init_49 : decode cX8_init 49 = .ok (.putfield 27, 3) := by decide +kernel
theorem dX8_init_52 : decode cX8_init 52 = .ok (.aload_n 0, 1) := by decide +kernel
theorem dX8_init_53 : decode cX8_init 53 = .ok (.bipush 40, 2) := by decide +kernel
theorem dX8_init_55 : decode cX8_init 55 = .ok (.newarray .int, 2) := by decide +kernel
theorem dX8_init_57 : decode cX8_init 57 = .ok (.putfield 30, 3) := by decide +kernel
theorem dX8_init_60 : decode cX8_init 60 = .ok (.aload_n 0, 1) := by decide +kernel
theorem dX8_init_61 : decode cX8_init 61 = .ok (.iconst 4, 1) := by decide +kernel
theorem dX8_init_62 : decode cX8_init 62 = .ok (.newarray .int, 2) := by decide +kernel
theorem dX8_init_64 : decode cX8_init 64 = .ok (.putfield 33, 3) := by decide +kernel
theorem dX8_init_67 : decode cX8_init 67 = .ok (.aload_n 0, 1) := by decide +kernel
theorem dX8_init_68 : decode cX8_init 68 = .ok (.invokevirtual 36, 3) := by decide +kernel
theorem dX8_init_71 : decode cX8_init 71 = .ok (.return_, 1) := by decide +kernel
theorem dX8_removeAll_0 : decode cX8_removeAll 0 = .ok (.aload_n 0, 1) := by decide +kernel
theorem dX8_removeAll_1 : decode cX8_removeAll 1 = .ok (.iconst 0, 1) := by decide +kernel
theorem dX8_removeAll_2 : decode cX8_removeAll 2 = .ok (.putfield 39, 3) := by decide +kernel
theorem dX8_removeAll_5 : decode cX8_removeAll 5 = .ok (.iconst 0, 1) := by decide +kernel
theorem dX8_removeAll_6 : decode cX8_removeAll 6 = .ok (.istore_n 1, 1) := by decide +kernel
theorem dX8_removeAll_7 : decode cX8_removeAll 7 = .ok (.iload_n 1, 1) := by decide +kernel
theorem dX8_removeAll_8 : decode cX8_removeAll 8 = .ok (.iconst 4, 1) := by decide +kernel
theorem dX8_removeAll_9 : decode cX8_removeAll 9 = .ok (.if_icmp .ge 16, 3) := by decide +kernel
theorem dX8_removeAll_12 : decode cX8_removeAll 12 = .ok (.aload_n 0, 1) := by decide +kernel
theorem dX8_removeAll_13 : decode cX8_removeAll 13 = .ok (.getfield 33, 3) := by decide +kernel
theorem dX8_removeAll_16 : decode cX8_removeAll 16 = .ok (.iload_n 1, 1) := by decide +kernel
theorem dX8_removeAll_17 : decode cX8_removeAll 17 = .ok (.iconst (-1), 1) := by decide +kernel
theorem dX8_removeAll_18 : decode cX8_removeAll 18 = .ok (.iastore, 1) := by decide +kernel
theorem dX8_removeAll_19 : decode cX8_removeAll 19 = .ok (.iinc 1 1, 3) := by decide +kernel
theorem dX8_removeAll_22 : decode cX8_removeAll 22 = .ok (.goto (-15), 3) := by decide +kernel
theorem dX8_removeAll_25 : decode cX8_removeAll 25 = .ok (.return_, 1) := by decide +kernel
theorem dX8_add_0 : decode cX8_add 0 = .ok (.aload_n 0, 1) := by decide +kernel
theorem dX8_add_1 : decode cX8_add 1 = .ok (.getfield 39, 3) := by decide +kernel
theorem dX8_add_4 : decode cX8_add 4 = .ok (.ifCond .lt 20, 3) := by decide +kernel
theorem dX8_add_7 : decode cX8_add 7 = .ok (.aload_n 0, 1) := by decide +kernel
theorem dX8_add_8 : decode cX8_add 8 = .ok (.getfield 39, 3) := by decide +kernel
theorem dX8_add_11 : decode cX8_add 11 = .ok (.bipush 40, 2) := by decide +kernel
theorem dX8_add_13 : decode cX8_add 13 = .ok (.if_icmp .ge 11, 3) := by decide +kernel
theorem dX8_add_16 : decode cX8_add 16 = .ok (.iload 6, 2) := by decide +kernel
theorem dX8_add_18 : decode cX8_add 18 = .ok (.invokestatic 43, 3) := by decide +kernel
theorem dX8_add_21 : decode cX8_add 21 = .ok (.ifCond .ne 5, 3) := by decide +kernel
theorem dX8_add_24 : decode cX8_add 24 = .ok (.iconst (-1), 1) := by decide +kernel
theorem dX8_add_25 : decode cX8_add 25 = .ok (.ireturn, 1) := by decide +kernel
theorem dX8_add_26 : decode cX8_add 26 = .ok (.aload_n 0, 1) := by decide +kernel
theorem dX8_add_27 : decode cX8_add 27 = .ok (.getfield 39, 3) := by decide +kernel
theorem dX8_add_30 : decode cX8_add 30 = .ok (.istore 7, 2) := by decide +kernel
theorem dX8_add_32 : decode cX8_add 32 = .ok (.aload_n 0, 1) := by decide +kernel
theorem dX8_add_33 : decode cX8_add 33 = .ok (.getfield 9, 3) := by decide +kernel
theorem dX8_add_36 : decode cX8_add 36 = .ok (.iload 7, 2) := by decide +kernel
theorem dX8_add_38 : decode cX8_add 38 = .ok (.iload_n 1, 1) := by decide +kernel
theorem dX8_add_39 : decode cX8_add 39 = .ok (.iastore, 1) := by decide +kernel
theorem dX8_add_40 : decode cX8_add 40 = .ok (.aload_n 0, 1) := by decide +kernel
theorem dX8_add_41 : decode cX8_add 41 = .ok (.getfield 15, 3) := by decide +kernel
theorem dX8_add_44 : decode cX8_add 44 = .ok (.iload 7, 2) := by decide +kernel
theorem dX8_add_46 : decode cX8_add 46 = .ok (.iload_n 2, 1) := by decide +kernel
theorem dX8_add_47 : decode cX8_add 47 = .ok (.iastore, 1) := by decide +kernel
theorem dX8_add_48 : decode cX8_add 48 = .ok (.aload_n 0, 1) := by decide +kernel
theorem dX8_add_49 : decode cX8_add 49 = .ok (.getfield 18, 3) := by decide +kernel
theorem dX8_add_52 : decode cX8_add 52 = .ok (.iload 7, 2) := by decide +kernel
theorem dX8_add_54 : decode cX8_add 54 = .ok (.iload_n 3, 1) := by decide +kernel
theorem dX8_add_55 : decode cX8_add 55 = .ok (.iastore, 1) := by decide +kernel
theorem dX8_add_56 : decode cX8_add 56 = .ok (.aload_n 0, 1) := by decide +kernel
theorem dX8_add_57 : decode cX8_add 57 = .ok (.getfield 21, 3) := by decide +kernel
theorem dX8_add_60 : decode cX8_add 60 = .ok (.iload 7, 2) := by decide +kernel
theorem dX8_add_62 : decode cX8_add 62 = .ok (.iload 4, 2) := by decide +kernel
theorem dX8_add_64 : decode cX8_add 64 = .ok (.iastore, 1) := by decide +kernel
theorem dX8_add_65 : decode cX8_add 65 = .ok (.aload_n 0, 1) := by decide +kernel
theorem dX8_add_66 : decode cX8_add 66 = .ok (.getfield 24, 3) := by decide +kernel
theorem dX8_add_69 : decode cX8_add 69 = .ok (.iload 7, 2) := by decide +kernel
theorem dX8_add_71 : decode cX8_add 71 = .ok (.iload 5, 2) := by decide +kernel
theorem dX8_add_73 : decode cX8_add 73 = .ok (.iastore, 1) := by decide +kernel
theorem dX8_add_74 : decode cX8_add 74 = .ok (.aload_n 0, 1) := by decide +kernel
theorem dX8_add_75 : decode cX8_add 75 = .ok (.getfield 27, 3) := by decide +kernel
theorem dX8_add_78 : decode cX8_add 78 = .ok (.iload 7, 2) := by decide +kernel
theorem dX8_add_80 : decode cX8_add 80 = .ok (.iload 6, 2) := by decide +kernel
theorem dX8_add_82 : decode cX8_add 82 = .ok (.iastore, 1) := by decide +kernel
theorem dX8_add_83 : decode cX8_add 83 = .ok (.aload_n 0, 1) := by decide +kernel
theorem dX8_add_84 : decode cX8_add 84 = .ok (.getfield 30, 3) := by decide +kernel
theorem dX8_add_87 : decode cX8_add 87 = .ok (.iload 7, 2) := by decide +kernel
theorem dX8_add_89 : decode cX8_add 89 = .ok (.iconst (-1), 1) := by decide +kernel
theorem dX8_add_90 : decode cX8_add 90 = .ok (.iastore, 1) := by decide +kernel
theorem dX8_add_91 : decode cX8_add 91 = .ok (.aload_n 0, 1) := by decide +kernel
theorem dX8_add_92 : decode cX8_add 92 = .ok (.getfield 33, 3) := by decide +kernel
theorem dX8_add_95 : decode cX8_add 95 = .ok (.iload 6, 2) := by decide +kernel
theorem dX8_add_97 : decode cX8_add 97 = .ok (.iaload, 1) := by decide +kernel
theorem dX8_add_98 : decode cX8_add 98 = .ok (.istore 8, 2) := by decide +kernel
theorem dX8_add_100 : decode cX8_add 100 = .ok (.iload 8, 2) := by decide +kernel
theorem dX8_add_102 : decode cX8_add 102 = .ok (.ifCond .lt 19, 3) := by decide +kernel
theorem dX8_add_105 : decode cX8_add 105 = .ok (.iload 8, 2) := by decide +kernel
theorem dX8_add_107 : decode cX8_add 107 = .ok (.iload 7, 2) := by decide +kernel
theorem dX8_add_109 : decode cX8_add 109 = .ok (.if_icmp .ge 12, 3) := by decide +kernel
theorem dX8_add_112 : decode cX8_add 112 = .ok (.aload_n 0, 1) := by decide +kernel
theorem dX8_add_113 : decode cX8_add 113 = .ok (.getfield 30, 3) := by decide +kernel
theorem dX8_add_116 : decode cX8_add 116 = .ok (.iload 8, 2) := by decide +kernel
theorem dX8_add_118 : decode cX8_add 118 = .ok (.iload 7, 2) := by decide +kernel
theorem dX8_add_120 : decode cX8_add 120 = .ok (.iastore, 1) := by decide +kernel
theorem dX8_add_121 : decode cX8_add 121 = .ok (.aload_n 0, 1) := by decide +kernel
theorem dX8_add_122 : decode cX8_add 122 = .ok (.getfield 33, 3) := by decide +kernel
theorem dX8_add_125 : decode cX8_add 125 = .ok (.iload 6, 2) := by decide +kernel
theorem dX8_add_127 : decode cX8_add 127 = .ok (.iload 7, 2) := by decide +kernel
theorem dX8_add_129 : decode cX8_add 129 = .ok (.iastore, 1) := by decide +kernel
theorem dX8_add_130 : decode cX8_add 130 = .ok (.aload_n 0, 1) := by decide +kernel
theorem dX8_add_131 : decode cX8_add 131 = .ok (.dup, 1) := by decide +kernel
theorem dX8_add_132 : decode cX8_add 132 = .ok (.getfield 39, 3) := by decide +kernel
theorem dX8_add_135 : decode cX8_add 135 = .ok (.iconst 1, 1) := by decide +kernel
theorem dX8_add_136 : decode cX8_add 136 = .ok (.iadd, 1) := by decide +kernel
theorem dX8_add_137 : decode cX8_add 137 = .ok (.putfield 39, 3) := by decide +kernel
theorem dX8_add_140 : decode cX8_add 140 = .ok (.iload 7, 2) := by decide +kernel
theorem dX8_add_142 : decode cX8_add 142 = .ok (.ireturn, 1) := by decide +kernel
theorem dX8_putRight_0 : decode cX8_putRight 0 = .ok (.iload_n 1, 1) := by decide +kernel
theorem dX8_putRight_1 : decode cX8_putRight 1 = .ok (.ifCond .lt 18, 3) := by decide +kernel
theorem dX8_putRight_4 : decode cX8_putRight 4 = .ok (.iload_n 1, 1) := by decide +kernel
theorem dX8_putRight_5 : decode cX8_putRight 5 = .ok (.aload_n 0, 1) := by decide +kernel
theorem dX8_putRight_6 : decode cX8_putRight 6 = .ok (.getfield 39, 3) := by decide +kernel
theorem dX8_putRight_9 : decode cX8_putRight 9 = .ok (.if_icmp .ge 10, 3) := by decide +kernel
theorem dX8_putRight_12 : decode cX8_putRight 12 = .ok (.aload_n 0, 1) := by decide +kernel
theorem dX8_putRight_13 : decode cX8_putRight 13 = .ok (.getfield 18, 3) := by decide +kernel
theorem dX8_putRight_16 : decode cX8_putRight 16 = .ok (.iload_n 1, 1) := by decide +kernel
theorem dX8_putRight_17 : decode cX8_putRight 17 = .ok (.iload_n 2, 1) := by decide +kernel
theorem dX8_putRight_18 : decode cX8_putRight 18 = .ok (.iastore, 1) := by decide +kernel
theorem dX8_putRight_19 : decode cX8_putRight 19 = .ok (.return_, 1) := by decide +kernel
theorem dX9_init_0 : decode cX9_init 0 = .ok (.aload_n 0, 1) := by decide +kernel
theorem dX9_init_1 : decode cX9_init 1 = .ok (.invokespecial 1, 3) := by decide +kernel
theorem dX9_init_4 : decode cX9_init 4 = .ok (.aload_n 0, 1) := by decide +kernel
theorem dX9_init_5 : decode cX9_init 5 = .ok (.new 7, 3) := by decide +kernel
theorem dX9_init_8 : decode cX9_init 8 = .ok (.dup, 1) := by decide +kernel
theorem dX9_init_9 : decode cX9_init 9 = .ok (.invokespecial 9, 3) := by decide +kernel
theorem dX9_init_12 : decode cX9_init 12 = .ok (.putfield 10, 3) := by decide +kernel
theorem dX9_init_15 : decode cX9_init 15 = .ok (.aload_n 0, 1) := by decide +kernel
theorem dX9_init_16 : decode cX9_init 16 = .ok (.new 16, 3) := by decide +kernel
theorem dX9_init_19 : decode cX9_init 19 = .ok (.dup, 1) := by decide +kernel
theorem dX9_init_20 : decode cX9_init 20 = .ok (.invokespecial 18, 3) := by decide +kernel
theorem dX9_init_23 : decode cX9_init 23 = .ok (.putfield 19, 3) := by decide +kernel
theorem dX9_init_26 : decode cX9_init 26 = .ok (.aload_n 0, 1) := by decide +kernel
theorem dX9_init_27 : decode cX9_init 27 = .ok (.new 23, 3) := by decide +kernel
theorem dX9_init_30 : decode cX9_init 30 = .ok (.dup, 1) := by decide +kernel
theorem dX9_init_31 : decode cX9_init 31 = .ok (.invokespecial 25, 3) := by decide +kernel
theorem dX9_init_34 : decode cX9_init 34 = .ok (.putfield 26, 3) := by decide +kernel
theorem dX9_init_37 : decode cX9_init 37 = .ok (.aload_n 0, 1) := by decide +kernel
theorem dX9_init_38 : decode cX9_init 38 = .ok (.new 30, 3) := by decide +kernel
theorem dX9_init_41 : decode cX9_init 41 = .ok (.dup, 1) := by decide +kernel
theorem dX9_init_42 : decode cX9_init 42 = .ok (.invokespecial 32, 3) := by decide +kernel
theorem dX9_init_45 : decode cX9_init 45 = .ok (.putfield 33, 3) := by decide +kernel
theorem dX9_init_48 : decode cX9_init 48 = .ok (.aload_n 0, 1) := by decide +kernel
theorem dX9_init_49 : decode cX9_init 49 = .ok (.bipush 6, 2) := by decide +kernel
theorem dX9_init_51 : decode cX9_init 51 = .ok (.newarray .int, 2) := by decide +kernel
theorem dX9_init_53 : decode cX9_init 53 = .ok (.putfield 37, 3) := by decide +kernel
theorem dX9_init_56 : decode cX9_init 56 = .ok (.iconst 0, 1) := by decide +kernel
theorem dX9_init_57 : decode cX9_init 57 = .ok (.istore_n 1, 1) := by decide +kernel
theorem dX9_init_58 : decode cX9_init 58 = .ok (.iload_n 1, 1) := by decide +kernel
theorem dX9_init_59 : decode cX9_init 59 = .ok (.bipush 6, 2) := by decide +kernel
theorem dX9_init_61 : decode cX9_init 61 = .ok (.if_icmp .ge 16, 3) := by decide +kernel
theorem dX9_init_64 : decode cX9_init 64 = .ok (.aload_n 0, 1) := by decide +kernel
theorem dX9_init_65 : decode cX9_init 65 = .ok (.getfield 37, 3) := by decide +kernel
theorem dX9_init_68 : decode cX9_init 68 = .ok (.iload_n 1, 1) := by decide +kernel
theorem dX9_init_69 : decode cX9_init 69 = .ok (.iload_n 1, 1) := by decide +kernel
theorem dX9_init_70 : decode cX9_init 70 = .ok (.iastore, 1) := by decide +kernel
theorem dX9_init_71 : decode cX9_init 71 = .ok (.iinc 1 1, 3) := by decide +kernel
theorem dX9_init_74 : decode cX9_init 74 = .ok (.goto (-16), 3) := by decide +kernel
theorem dX9_init_77 : decode cX9_init 77 = .ok (.aload_n 0, 1) := by decide +kernel
theorem dX9_init_78 : decode cX9_init 78 = .ok (.new 41, 3) := by decide +kernel
theorem dX9_init_81 : decode cX9_init 81 = .ok (.dup, 1) := by decide +kernel
theorem dX9_init_82 : decode cX9_init 82 = .ok (.aload_n 0, 1) := by decide +kernel
theorem dX9_init_83 : decode cX9_init 83 = .ok (.getfield 10, 3) := by decide +kernel
theorem dX9_init_86 : decode cX9_init 86 = .ok (.aload_n 0, 1) := by decide +kernel
theorem dX9_init_87 : decode cX9_init 87 = .ok (.getfield 19, 3) := by decide +kernel
theorem dX9_init_90 : decode cX9_init 90 = .ok (.aload_n 0, 1) := by decide +kernel
theorem dX9_init_91 : decode cX9_init 91 = .ok (.getfield 26, 3) := by decide +kernel
theorem dX9_init_94 : decode cX9_init 94 = .ok (.aload_n 0, 1) := by decide +kernel
theorem dX9_init_95 : decode cX9_init 95 = .ok (.getfield 37, 3) := by decide +kernel
theorem dX9_init_98 : decode cX9_init 98 = .ok (.invokespecial 43, 3) := by decide +kernel
theorem dX9_init_101 : decode cX9_init 101 = .ok (.putfield 46, 3) := by decide +kernel
theorem dX9_init_104 : decode cX9_init 104 = .ok (.aload_n 0, 1) := by decide +kernel
theorem dX9_init_105 : decode cX9_init 105 = .ok (.new 50, 3) := by decide +kernel
theorem dX9_init_108 : decode cX9_init 108 = .ok (.dup, 1) := by decide +kernel
theorem dX9_init_109 : decode cX9_init 109 = .ok (.aload_n 0, 1) := by decide +kernel
theorem dX9_init_110 : decode cX9_init 110 = .ok (.getfield 10, 3) := by decide +kernel
theorem dX9_init_113 : decode cX9_init 113 = .ok (.aload_n 0, 1) := by decide +kernel
theorem dX9_init_114 : decode cX9_init 114 = .ok (.getfield 19, 3) := by decide +kernel
theorem dX9_init_117 : decode cX9_init 117 = .ok (.invokespecial 52, 3) := by decide +kernel
theorem dX9_init_120 : decode cX9_init 120 = .ok (.putfield 55, 3) := by decide +kernel
theorem dX9_init_123 : decode cX9_init 123 = .ok (.aload_n 0, 1) := by decide +kernel
theorem dX9_init_124 : decode cX9_init 124 = .ok (.new 59, 3) := by decide +kernel
theorem dX9_init_127 : decode cX9_init 127 = .ok (.dup, 1) := by decide +kernel
theorem dX9_init_128 : decode cX9_init 128 = .ok (.aload_n 0, 1) := by decide +kernel
theorem dX9_init_129 : decode cX9_init 129 = .ok (.getfield 19, 3) := by decide +kernel
theorem dX9_init_132 : decode cX9_init 132 = .ok (.aload_n 0, 1) := by decide +kernel
theorem dX9_init_133 : decode cX9_init 133 = .ok (.getfield 46, 3) := by decide +kernel
theorem dX9_init_136 : decode cX9_init 136 = .ok (.aload_n 0, 1) := by decide +kernel
theorem dX9_init_137 : decode cX9_init 137 = .ok (.getfield 55, 3) := by decide +kernel
theorem dX9_init_140 : decode cX9_init 140 = .ok (.invokespecial 61, 3) := by decide +kernel
theorem dX9_init_143 : decode cX9_init 143 = .ok (.putfield 64, 3) := by decide +kernel
theorem dX9_init_146 : decode cX9_init 146 = .ok (.return_, 1) := by decide +kernel
theorem dX9_unit_0 : decode cX9_unit 0 = .ok (.iload_n 1, 1) := by decide +kernel
theorem dX9_unit_1 : decode cX9_unit 1 = .ok (.invokestatic 68, 3) := by decide +kernel
theorem dX9_unit_4 : decode cX9_unit 4 = .ok (.ifCond .eq 53, 3) := by decide +kernel
theorem dX9_unit_7 : decode cX9_unit 7 = .ok (.iload_n 2, 1) := by decide +kernel
theorem dX9_unit_8 : decode cX9_unit 8 = .ok (.iconst 0, 1) := by decide +kernel
theorem dX9_unit_9 : decode cX9_unit 9 = .ok (.bipush 6, 2) := by decide +kernel
theorem dX9_unit_11 : decode cX9_unit 11 = .ok (.invokestatic 72, 3) := by decide +kernel
theorem dX9_unit_14 : decode cX9_unit 14 = .ok (.ifCond .eq 43, 3) := by decide +kernel
theorem dX9_unit_17 : decode cX9_unit 17 = .ok (.iload_n 3, 1) := by decide +kernel
theorem dX9_unit_18 : decode cX9_unit 18 = .ok (.iconst 0, 1) := by decide +kernel
theorem dX9_unit_19 : decode cX9_unit 19 = .ok (.bipush 6, 2) := by decide +kernel
theorem dX9_unit_21 : decode cX9_unit 21 = .ok (.invokestatic 72, 3) := by decide +kernel
theorem dX9_unit_24 : decode cX9_unit 24 = .ok (.ifCond .eq 33, 3) := by decide +kernel
theorem dX9_unit_27 : decode cX9_unit 27 = .ok (.iload 4, 2) := by decide +kernel
theorem dX9_unit_29 : decode cX9_unit 29 = .ok (.iconst 0, 1) := by decide +kernel
theorem dX9_unit_30 : decode cX9_unit 30 = .ok (.bipush 9, 2) := by decide +kernel
theorem dX9_unit_32 : decode cX9_unit 32 = .ok (.invokestatic 72, 3) := by decide +kernel
theorem dX9_unit_35 : decode cX9_unit 35 = .ok (.ifCond .eq 22, 3) := by decide +kernel
theorem dX9_unit_38 : decode cX9_unit 38 = .ok (.iload 5, 2) := by decide +kernel
theorem dX9_unit_40 : decode cX9_unit 40 = .ok (.iconst 1, 1) := by decide +kernel
theorem dX9_unit_41 : decode cX9_unit 41 = .ok (.bipush 9, 2) := by decide +kernel
theorem dX9_unit_43 : decode cX9_unit 43 = .ok (.invokestatic 72, 3) := by decide +kernel
theorem dX9_unit_46 : decode cX9_unit 46 = .ok (.ifCond .eq 11, 3) := by decide +kernel
theorem dX9_unit_49 : decode cX9_unit 49 = .ok (.iload 6, 2) := by decide +kernel
theorem dX9_unit_51 : decode cX9_unit 51 = .ok (.invokestatic 76, 3) := by decide +kernel
theorem dX9_unit_54 : decode cX9_unit 54 = .ok (.ifCond .ne 8, 3) := by decide +kernel
theorem dX9_unit_57 : decode cX9_unit 57 = .ok (.aload_n 0, 1) := by decide +kernel
theorem dX9_unit_58 : decode cX9_unit 58 = .ok (.invokevirtual 79, 3) := by decide +kernel
theorem dX9_unit_61 : decode cX9_unit 61 = .ok (.ireturn, 1) := by decide +kernel
theorem dX9_unit_62 : decode cX9_unit 62 = .ok (.aload_n 0, 1) := by decide +kernel
theorem dX9_unit_63 : decode cX9_unit 63 = .ok (.getfield 10, 3) := by decide +kernel
theorem dX9_unit_66 : decode cX9_unit 66 = .ok (.getfield 83, 3) := by decide +kernel
theorem dX9_unit_69 : decode cX9_unit 69 = .ok (.bipush 40, 2) := by decide +kernel
theorem dX9_unit_71 : decode cX9_unit 71 = .ok (.if_icmp .lt 8, 3) := by decide +kernel
theorem dX9_unit_74 : decode cX9_unit 74 = .ok (.aload_n 0, 1) := by decide +kernel
theorem dX9_unit_75 : decode cX9_unit 75 = .ok (.invokevirtual 87, 3) := by decide +kernel
theorem dX9_unit_78 : decode cX9_unit 78 = .ok (.ireturn, 1) := by decide +kernel
theorem dX9_unit_79 : decode cX9_unit 79 = .ok (.aload_n 0, 1) := by decide +kernel
theorem dX9_unit_80 : decode cX9_unit 80 = .ok (.getfield 10, 3) := by decide +kernel
theorem dX9_unit_83 : decode cX9_unit 83 = .ok (.iload_n 1, 1) := by decide +kernel
theorem dX9_unit_84 : decode cX9_unit 84 = .ok (.iload_n 2, 1) := by decide +kernel
theorem dX9_unit_85 : decode cX9_unit 85 = .ok (.iload_n 3, 1) := by decide +kernel
theorem dX9_unit_86 : decode cX9_unit 86 = .ok (.iload 4, 2) := by decide +kernel
theorem dX9_unit_88 : decode cX9_unit 88 = .ok (.iload 5, 2) := by decide +kernel
theorem dX9_unit_90 : decode cX9_unit 90 = .ok (.iload 6, 2) := by decide +kernel
theorem dX9_unit_92 : decode cX9_unit 92 = .ok (.invokevirtual 90, 3) := by decide +kernel
theorem dX9_unit_95 : decode cX9_unit 95 = .ok (.ireturn, 1) := by decide +kernel
theorem dX9_records_0 : decode cX9_records 0 = .ok (.iload_n 1, 1) := by decide +kernel
theorem dX9_records_1 : decode cX9_records 1 = .ok (.iconst 0, 1) := by decide +kernel
theorem dX9_records_2 : decode cX9_records 2 = .ok (.ldc 94, 2) := by decide +kernel
theorem dX9_records_4 : decode cX9_records 4 = .ok (.invokestatic 72, 3) := by decide +kernel
theorem dX9_records_7 : decode cX9_records 7 = .ok (.ifCond .eq 20, 3) := by decide +kernel
theorem dX9_records_10 : decode cX9_records 10 = .ok (.iload_n 2, 1) := by decide +kernel
theorem dX9_records_11 : decode cX9_records 11 = .ok (.iconst 1, 1) := by decide +kernel
theorem dX9_records_12 : decode cX9_records 12 = .ok (.bipush 9, 2) := by decide +kernel
theorem dX9_records_14 : decode cX9_records 14 = .ok (.invokestatic 72, 3) := by decide +kernel
theorem dX9_records_17 : decode cX9_records 17 = .ok (.ifCond .eq 10, 3) := by decide +kernel
theorem dX9_records_20 : decode cX9_records 20 = .ok (.iload_n 3, 1) := by decide +kernel
theorem dX9_records_21 : decode cX9_records 21 = .ok (.invokestatic 76, 3) := by decide +kernel
theorem dX9_records_24 : decode cX9_records 24 = .ok (.ifCond .ne 8, 3) := by decide +kernel
theorem dX9_records_27 : decode cX9_records 27 = .ok (.aload_n 0, 1) := by decide +kernel
theorem dX9_records_28 : decode cX9_records 28 = .ok (.invokevirtual 79, 3) := by decide +kernel
theorem dX9_records_31 : decode cX9_records 31 = .ok (.ireturn, 1) := by decide +kernel
theorem dX9_records_32 : decode cX9_records 32 = .ok (.aload_n 0, 1) := by decide +kernel
theorem dX9_records_33 : decode cX9_records 33 = .ok (.getfield 10, 3) := by decide +kernel
theorem dX9_records_36 : decode cX9_records 36 = .ok (.getfield 83, 3) := by decide +kernel
theorem dX9_records_39 : decode cX9_records 39 = .ok (.iload_n 2, 1) := by decide +kernel
theorem dX9_records_40 : decode cX9_records 40 = .ok (.iadd, 1) := by decide +kernel
theorem dX9_records_41 : decode cX9_records 41 = .ok (.bipush 40, 2) := by decide +kernel
theorem dX9_records_43 : decode cX9_records 43 = .ok (.if_icmp .le 8, 3) := by decide +kernel
theorem dX9_records_46 : decode cX9_records 46 = .ok (.aload_n 0, 1) := by decide +kernel
theorem dX9_records_47 : decode cX9_records 47 = .ok (.invokevirtual 87, 3) := by decide +kernel
theorem dX9_records_50 : decode cX9_records 50 = .ok (.ireturn, 1) := by decide +kernel
theorem dX9_records_51 : decode cX9_records 51 = .ok (.iload_n 1, 1) := by decide +kernel
theorem dX9_records_52 : decode cX9_records 52 = .ok (.i2l, 1) := by decide +kernel
theorem dX9_records_53 : decode cX9_records 53 = .ok (.lstore 4, 2) := by decide +kernel
theorem dX9_records_55 : decode cX9_records 55 = .ok (.bipush 6, 2) := by decide +kernel
theorem dX9_records_57 : decode cX9_records 57 = .ok (.istore 6, 2) := by decide +kernel
theorem dX9_records_59 : decode cX9_records 59 = .ok (.iconst 0, 1) := by decide +kernel
theorem dX9_records_60 : decode cX9_records 60 = .ok (.istore 7, 2) := by decide +kernel
theorem dX9_records_62 : decode cX9_records 62 = .ok (.iload 7, 2) := by decide +kernel
theorem dX9_records_64 : decode cX9_records 64 = .ok (.iload_n 2, 1) := by decide +kernel
theorem dX9_records_65 : decode cX9_records 65 = .ok (.if_icmp .ge 108, 3) := by decide +kernel
theorem dX9_records_68 : decode cX9_records 68 = .ok (.lload 4, 2) := by decide +kernel
theorem dX9_records_70 : decode cX9_records 70 = .ok (.ldc2_w 95, 3) := by decide +kernel
theorem dX9_records_73 : decode cX9_records 73 = .ok (.lmul, 1) := by decide +kernel
theorem dX9_records_74 : decode cX9_records 74 = .ok (.ldc2_w 97, 3) := by decide +kernel
theorem dX9_records_77 : decode cX9_records 77 = .ok (.ladd, 1) := by decide +kernel
theorem dX9_records_78 : decode cX9_records 78 = .ok (.ldc2_w 99, 3) := by decide +kernel
theorem dX9_records_81 : decode cX9_records 81 = .ok (.lrem, 1) := by decide +kernel
theorem dX9_records_82 : decode cX9_records 82 = .ok (.lstore 4, 2) := by decide +kernel
theorem dX9_records_84 : decode cX9_records 84 = .ok (.lload 4, 2) := by decide +kernel
theorem dX9_records_86 : decode cX9_records 86 = .ok (.ldc2_w 101, 3) := by decide +kernel
theorem dX9_records_89 : decode cX9_records 89 = .ok (.ldiv, 1) := by decide +kernel
theorem dX9_records_90 : decode cX9_records 90 = .ok (.ldc2_w 103, 3) := by decide +kernel
theorem dX9_records_93 : decode cX9_records 93 = .ok (.lrem, 1) := by decide +kernel
theorem dX9_records_94 : decode cX9_records 94 = .ok (.l2i, 1) := by decide +kernel
theorem dX9_records_95 : decode cX9_records 95 = .ok (.istore 8, 2) := by decide +kernel
theorem dX9_records_97 : decode cX9_records 97 = .ok (.lload 4, 2) := by decide +kernel
theorem dX9_records_99 : decode cX9_records 99 = .ok (.ldc2_w 105, 3) := by decide +kernel
theorem dX9_records_102 : decode cX9_records 102 = .ok (.ldiv, 1) := by decide +kernel
theorem dX9_records_103 : decode cX9_records 103 = .ok (.ldc2_w 107, 3) := by decide +kernel
theorem dX9_records_106 : decode cX9_records 106 = .ok (.lrem, 1) := by decide +kernel
theorem dX9_records_107 : decode cX9_records 107 = .ok (.l2i, 1) := by decide +kernel
theorem dX9_records_108 : decode cX9_records 108 = .ok (.istore 9, 2) := by decide +kernel
theorem dX9_records_110 : decode cX9_records 110 = .ok (.lload 4, 2) := by decide +kernel
theorem dX9_records_112 : decode cX9_records 112 = .ok (.ldc2_w 109, 3) := by decide +kernel
theorem dX9_records_115 : decode cX9_records 115 = .ok (.ldiv, 1) := by decide +kernel
theorem dX9_records_116 : decode cX9_records 116 = .ok (.ldc2_w 111, 3) := by decide +kernel
theorem dX9_records_119 : decode cX9_records 119 = .ok (.lrem, 1) := by decide +kernel
theorem dX9_records_120 : decode cX9_records 120 = .ok (.l2i, 1) := by decide +kernel
theorem dX9_records_121 : decode cX9_records 121 = .ok (.iconst 1, 1) := by decide +kernel
theorem dX9_records_122 : decode cX9_records 122 = .ok (.iadd, 1) := by decide +kernel
theorem dX9_records_123 : decode cX9_records 123 = .ok (.istore 10, 2) := by decide +kernel
theorem dX9_records_125 : decode cX9_records 125 = .ok (.aload_n 0, 1) := by decide +kernel
theorem dX9_records_126 : decode cX9_records 126 = .ok (.getfield 10, 3) := by decide +kernel
theorem dX9_records_129 : decode cX9_records 129 = .ok (.iload 8, 2) := by decide +kernel
theorem dX9_records_131 : decode cX9_records 131 = .ok (.iload 6, 2) := by decide +kernel
theorem dX9_records_133 : decode cX9_records 133 = .ok (.bipush 6, 2) := by decide +kernel
theorem dX9_records_135 : decode cX9_records 135 = .ok (.iload 9, 2) := by decide +kernel
theorem dX9_records_137 : decode cX9_records 137 = .ok (.iload 10, 2) := by decide +kernel
theorem dX9_records_139 : decode cX9_records 139 = .ok (.iload_n 3, 1) := by decide +kernel
theorem dX9_records_140 : decode cX9_records 140 = .ok (.invokevirtual 90, 3) := by decide +kernel
theorem dX9_records_143 : decode cX9_records 143 = .ok (.istore 11, 2) := by decide +kernel
theorem dX9_records_145 : decode cX9_records 145 = .ok (.iload 7, 2) := by decide +kernel
theorem dX9_records_147 : decode cX9_records 147 = .ok (.ifCond .le 16, 3) := by decide +kernel
theorem dX9_records_150 : decode cX9_records 150 = .ok (.aload_n 0, 1) := by decide +kernel
theorem dX9_records_151 : decode cX9_records 151 = .ok (.getfield 10, 3) := by decide +kernel
theorem dX9_records_154 : decode cX9_records 154 = .ok (.iload 11, 2) := by decide +kernel
theorem dX9_records_156 : decode cX9_records 156 = .ok (.iconst 1, 1) := by decide +kernel
theorem dX9_records_157 : decode cX9_records 157 = .ok (.isub, 1) := by decide +kernel
theorem dX9_records_158 : decode cX9_records 158 = .ok (.iload 8, 2) := by decide +kernel
theorem dX9_records_160 : decode cX9_records 160 = .ok (.invokevirtual 113, 3) := by decide +kernel
theorem dX9_records_163 : decode cX9_records 163 = .ok (.iload 8, 2) := by decide +kernel
theorem dX9_records_165 : decode cX9_records 165 = .ok (.istore 6, 2) := by decide +kernel
theorem dX9_records_167 : decode cX9_records 167 = .ok (.iinc 7 1, 3) := by decide +kernel
theorem dX9_records_170 : decode cX9_records 170 = .ok (.goto (-108), 3) := by decide +kernel
theorem dX9_records_173 : decode cX9_records 173 = .ok (.aload_n 0, 1) := by decide +kernel
theorem dX9_records_174 : decode cX9_records 174 = .ok (.getfield 10, 3) := by decide +kernel
theorem dX9_records_177 : decode cX9_records 177 = .ok (.getfield 83, 3) := by decide +kernel
theorem dX9_records_180 : decode cX9_records 180 = .ok (.ireturn, 1) := by decide +kernel
theorem dX9_of_0 : decode cX9_of 0 = .ok (.aload_n 0, 1) := by decide +kernel
theorem dX9_of_1 : decode cX9_of 1 = .ok (.iload_n 1, 1) := by decide +kernel
theorem dX9_of_2 : decode cX9_of 2 = .ok (.invokevirtual 117, 3) := by decide +kernel
theorem dX9_of_5 : decode cX9_of 5 = .ok (.ifCond .ne 8, 3) := by decide +kernel
theorem dX9_of_8 : decode cX9_of 8 = .ok (.aload_n 0, 1) := by decide +kernel
theorem dX9_of_9 : decode cX9_of 9 = .ok (.invokevirtual 79, 3) := by decide +kernel
theorem dX9_of_12 : decode cX9_of 12 = .ok (.ireturn, 1) := by decide +kernel
theorem dX9_of_13 : decode cX9_of 13 = .ok (.iload_n 2, 1) := by decide +kernel
theorem dX9_of_14 : decode cX9_of 14 = .ok (.tableswitch 112 0 6 #[42, 52, 62, 72, 82, 92, 102], 42) := by decide +kernel
theorem dX9_of_56 : decode cX9_of 56 = .ok (.aload_n 0, 1) := by decide +kernel
theorem dX9_of_57 : decode cX9_of 57 = .ok (.getfield 10, 3) := by decide +kernel
theorem dX9_of_60 : decode cX9_of 60 = .ok (.getfield 120, 3) := by decide +kernel
theorem dX9_of_63 : decode cX9_of 63 = .ok (.iload_n 1, 1) := by decide +kernel
theorem dX9_of_64 : decode cX9_of 64 = .ok (.iaload, 1) := by decide +kernel
theorem dX9_of_65 : decode cX9_of 65 = .ok (.ireturn, 1) := by decide +kernel
theorem dX9_of_66 : decode cX9_of 66 = .ok (.aload_n 0, 1) := by decide +kernel
theorem dX9_of_67 : decode cX9_of 67 = .ok (.getfield 10, 3) := by decide +kernel
theorem dX9_of_70 : decode cX9_of 70 = .ok (.getfield 123, 3) := by decide +kernel
theorem dX9_of_73 : decode cX9_of 73 = .ok (.iload_n 1, 1) := by decide +kernel
theorem dX9_of_74 : decode cX9_of 74 = .ok (.iaload, 1) := by decide +kernel
theorem dX9_of_75 : decode cX9_of 75 = .ok (.ireturn, 1) := by decide +kernel
theorem dX9_of_76 : decode cX9_of 76 = .ok (.aload_n 0, 1) := by decide +kernel
theorem dX9_of_77 : decode cX9_of 77 = .ok (.getfield 10, 3) := by decide +kernel
theorem dX9_of_80 : decode cX9_of 80 = .ok (.getfield 126, 3) := by decide +kernel
theorem dX9_of_83 : decode cX9_of 83 = .ok (.iload_n 1, 1) := by decide +kernel
theorem dX9_of_84 : decode cX9_of 84 = .ok (.iaload, 1) := by decide +kernel
theorem dX9_of_85 : decode cX9_of 85 = .ok (.ireturn, 1) := by decide +kernel
theorem dX9_of_86 : decode cX9_of 86 = .ok (.aload_n 0, 1) := by decide +kernel
theorem dX9_of_87 : decode cX9_of 87 = .ok (.getfield 10, 3) := by decide +kernel
theorem dX9_of_90 : decode cX9_of 90 = .ok (.getfield 129, 3) := by decide +kernel
theorem dX9_of_93 : decode cX9_of 93 = .ok (.iload_n 1, 1) := by decide +kernel
theorem dX9_of_94 : decode cX9_of 94 = .ok (.iaload, 1) := by decide +kernel
theorem dX9_of_95 : decode cX9_of 95 = .ok (.ireturn, 1) := by decide +kernel
theorem dX9_of_96 : decode cX9_of 96 = .ok (.aload_n 0, 1) := by decide +kernel
theorem dX9_of_97 : decode cX9_of 97 = .ok (.getfield 10, 3) := by decide +kernel
theorem dX9_of_100 : decode cX9_of 100 = .ok (.getfield 132, 3) := by decide +kernel
theorem dX9_of_103 : decode cX9_of 103 = .ok (.iload_n 1, 1) := by decide +kernel
theorem dX9_of_104 : decode cX9_of 104 = .ok (.iaload, 1) := by decide +kernel
theorem dX9_of_105 : decode cX9_of 105 = .ok (.ireturn, 1) := by decide +kernel
theorem dX9_of_106 : decode cX9_of 106 = .ok (.aload_n 0, 1) := by decide +kernel
theorem dX9_of_107 : decode cX9_of 107 = .ok (.getfield 10, 3) := by decide +kernel
theorem dX9_of_110 : decode cX9_of 110 = .ok (.getfield 135, 3) := by decide +kernel
theorem dX9_of_113 : decode cX9_of 113 = .ok (.iload_n 1, 1) := by decide +kernel
theorem dX9_of_114 : decode cX9_of 114 = .ok (.iaload, 1) := by decide +kernel
theorem dX9_of_115 : decode cX9_of 115 = .ok (.ireturn, 1) := by decide +kernel
theorem dX9_of_116 : decode cX9_of 116 = .ok (.aload_n 0, 1) := by decide +kernel
theorem dX9_of_117 : decode cX9_of 117 = .ok (.getfield 10, 3) := by decide +kernel
theorem dX9_of_120 : decode cX9_of 120 = .ok (.getfield 138, 3) := by decide +kernel
theorem dX9_of_123 : decode cX9_of 123 = .ok (.iload_n 1, 1) := by decide +kernel
theorem dX9_of_124 : decode cX9_of 124 = .ok (.iaload, 1) := by decide +kernel
theorem dX9_of_125 : decode cX9_of 125 = .ok (.ireturn, 1) := by decide +kernel
theorem dX9_of_126 : decode cX9_of 126 = .ok (.aload_n 0, 1) := by decide +kernel
theorem dX9_of_127 : decode cX9_of 127 = .ok (.invokevirtual 79, 3) := by decide +kernel
theorem dX9_of_130 : decode cX9_of 130 = .ok (.ireturn, 1) := by decide +kernel
theorem dX9_empties_0 : decode cX9_empties 0 = .ok (.aload_n 0, 1) := by decide +kernel
theorem dX9_empties_1 : decode cX9_empties 1 = .ok (.getfield 10, 3) := by decide +kernel
theorem dX9_empties_4 : decode cX9_empties 4 = .ok (.getfield 83, 3) := by decide +kernel
theorem dX9_empties_7 : decode cX9_empties 7 = .ok (.istore_n 1, 1) := by decide +kernel
theorem dX9_empties_8 : decode cX9_empties 8 = .ok (.aload_n 0, 1) := by decide +kernel
theorem dX9_empties_9 : decode cX9_empties 9 = .ok (.getfield 10, 3) := by decide +kernel
theorem dX9_empties_12 : decode cX9_empties 12 = .ok (.invokevirtual 141, 3) := by decide +kernel
theorem dX9_empties_15 : decode cX9_empties 15 = .ok (.iload_n 1, 1) := by decide +kernel
theorem dX9_empties_16 : decode cX9_empties 16 = .ok (.ireturn, 1) := by decide +kernel
theorem dX9_other_0 : decode cX9_other 0 = .ok (.iload_n 1, 1) := by decide +kernel
theorem dX9_other_1 : decode cX9_other 1 = .ok (.invokestatic 68, 3) := by decide +kernel
theorem dX9_other_4 : decode cX9_other 4 = .ok (.ifCond .eq 10, 3) := by decide +kernel
theorem dX9_other_7 : decode cX9_other 7 = .ok (.iload_n 2, 1) := by decide +kernel
theorem dX9_other_8 : decode cX9_other 8 = .ok (.invokestatic 68, 3) := by decide +kernel
theorem dX9_other_11 : decode cX9_other 11 = .ok (.ifCond .ne 8, 3) := by decide +kernel
theorem dX9_other_14 : decode cX9_other 14 = .ok (.aload_n 0, 1) := by decide +kernel
theorem dX9_other_15 : decode cX9_other 15 = .ok (.invokevirtual 79, 3) := by decide +kernel
theorem dX9_other_18 : decode cX9_other 18 = .ok (.ireturn, 1) := by decide +kernel
theorem dX9_other_19 : decode cX9_other 19 = .ok (.aload_n 0, 1) := by decide +kernel
theorem dX9_other_20 : decode cX9_other 20 = .ok (.getfield 37, 3) := by decide +kernel
theorem dX9_other_23 : decode cX9_other 23 = .ok (.iload_n 1, 1) := by decide +kernel
theorem dX9_other_24 : decode cX9_other 24 = .ok (.iaload, 1) := by decide +kernel
theorem dX9_other_25 : decode cX9_other 25 = .ok (.istore_n 3, 1) := by decide +kernel
theorem dX9_other_26 : decode cX9_other 26 = .ok (.aload_n 0, 1) := by decide +kernel
theorem dX9_other_27 : decode cX9_other 27 = .ok (.getfield 37, 3) := by decide +kernel
theorem dX9_other_30 : decode cX9_other 30 = .ok (.iload_n 1, 1) := by decide +kernel
theorem dX9_other_31 : decode cX9_other 31 = .ok (.iload_n 2, 1) := by decide +kernel
theorem dX9_other_32 : decode cX9_other 32 = .ok (.iastore, 1) := by decide +kernel
theorem dX9_other_33 : decode cX9_other 33 = .ok (.iload_n 3, 1) := by decide +kernel
theorem dX9_other_34 : decode cX9_other 34 = .ok (.ireturn, 1) := by decide +kernel
theorem dX9_fitter_0 : decode cX9_fitter 0 = .ok (.iload_n 1, 1) := by decide +kernel
theorem dX9_fitter_1 : decode cX9_fitter 1 = .ok (.iconst 0, 1) := by decide +kernel
theorem dX9_fitter_2 : decode cX9_fitter 2 = .ok (.iconst 4, 1) := by decide +kernel
theorem dX9_fitter_3 : decode cX9_fitter 3 = .ok (.invokestatic 72, 3) := by decide +kernel
theorem dX9_fitter_6 : decode cX9_fitter 6 = .ok (.ifCond .ne 8, 3) := by decide +kernel
theorem dX9_fitter_9 : decode cX9_fitter 9 = .ok (.aload_n 0, 1) := by decide +kernel
theorem dX9_fitter_10 : decode cX9_fitter 10 = .ok (.invokevirtual 79, 3) := by decide +kernel
theorem dX9_fitter_13 : decode cX9_fitter 13 = .ok (.ireturn, 1) := by decide +kernel
theorem dX9_fitter_14 : decode cX9_fitter 14 = .ok (.aload_n 0, 1) := by decide +kernel
theorem dX9_fitter_15 : decode cX9_fitter 15 = .ok (.getfield 144, 3) := by decide +kernel
theorem dX9_fitter_18 : decode cX9_fitter 18 = .ok (.istore_n 2, 1) := by decide +kernel
theorem dX9_fitter_19 : decode cX9_fitter 19 = .ok (.aload_n 0, 1) := by decide +kernel
theorem dX9_fitter_20 : decode cX9_fitter 20 = .ok (.iload_n 1, 1) := by decide +kernel
theorem dX9_fitter_21 : decode cX9_fitter 21 = .ok (.putfield 144, 3) := by decide +kernel
theorem dX9_fitter_24 : decode cX9_fitter 24 = .ok (.iload_n 2, 1) := by decide +kernel
theorem dX9_fitter_25 : decode cX9_fitter 25 = .ok (.ireturn, 1) := by decide +kernel
theorem dX9_type_0 : decode cX9_type 0 = .ok (.iload_n 1, 1) := by decide +kernel
theorem dX9_type_1 : decode cX9_type 1 = .ok (.iconst 0, 1) := by decide +kernel
theorem dX9_type_2 : decode cX9_type 2 = .ok (.bipush 127, 2) := by decide +kernel
theorem dX9_type_4 : decode cX9_type 4 = .ok (.invokestatic 72, 3) := by decide +kernel
theorem dX9_type_7 : decode cX9_type 7 = .ok (.ifCond .ne 8, 3) := by decide +kernel
theorem dX9_type_10 : decode cX9_type 10 = .ok (.aload_n 0, 1) := by decide +kernel
theorem dX9_type_11 : decode cX9_type 11 = .ok (.invokevirtual 79, 3) := by decide +kernel
theorem dX9_type_14 : decode cX9_type 14 = .ok (.ireturn, 1) := by decide +kernel
theorem dX9_type_15 : decode cX9_type 15 = .ok (.aload_n 0, 1) := by decide +kernel
theorem dX9_type_16 : decode cX9_type 16 = .ok (.getfield 33, 3) := by decide +kernel
theorem dX9_type_19 : decode cX9_type 19 = .ok (.getfield 147, 3) := by decide +kernel
theorem dX9_type_22 : decode cX9_type 22 = .ok (.bipush 120, 2) := by decide +kernel
theorem dX9_type_24 : decode cX9_type 24 = .ok (.if_icmp .lt 8, 3) := by decide +kernel
theorem dX9_type_27 : decode cX9_type 27 = .ok (.aload_n 0, 1) := by decide +kernel
theorem dX9_type_28 : decode cX9_type 28 = .ok (.invokevirtual 87, 3) := by decide +kernel
theorem dX9_type_31 : decode cX9_type 31 = .ok (.ireturn, 1) := by decide +kernel
theorem dX9_type_32 : decode cX9_type 32 = .ok (.aload_n 0, 1) := by decide +kernel
theorem dX9_type_33 : decode cX9_type 33 = .ok (.getfield 33, 3) := by decide +kernel
theorem dX9_type_36 : decode cX9_type 36 = .ok (.iload_n 1, 1) := by decide +kernel
theorem dX9_type_37 : decode cX9_type 37 = .ok (.invokevirtual 148, 3) := by decide +kernel
theorem dX9_type_40 : decode cX9_type 40 = .ok (.aload_n 0, 1) := by decide +kernel
theorem dX9_type_41 : decode cX9_type 41 = .ok (.getfield 33, 3) := by decide +kernel
theorem dX9_type_44 : decode cX9_type 44 = .ok (.getfield 147, 3) := by decide +kernel
theorem dX9_type_47 : decode cX9_type 47 = .ok (.ireturn, 1) := by decide +kernel
theorem dX9_clear_0 : decode cX9_clear 0 = .ok (.aload_n 0, 1) := by decide +kernel
theorem dX9_clear_1 : decode cX9_clear 1 = .ok (.getfield 33, 3) := by decide +kernel
theorem dX9_clear_4 : decode cX9_clear 4 = .ok (.getfield 147, 3) := by decide +kernel
theorem dX9_clear_7 : decode cX9_clear 7 = .ok (.istore_n 1, 1) := by decide +kernel
theorem dX9_clear_8 : decode cX9_clear 8 = .ok (.aload_n 0, 1) := by decide +kernel
theorem dX9_clear_9 : decode cX9_clear 9 = .ok (.getfield 33, 3) := by decide +kernel
theorem dX9_clear_12 : decode cX9_clear 12 = .ok (.iconst 0, 1) := by decide +kernel
theorem dX9_clear_13 : decode cX9_clear 13 = .ok (.putfield 147, 3) := by decide +kernel
theorem dX9_clear_16 : decode cX9_clear 16 = .ok (.iload_n 1, 1) := by decide +kernel
theorem dX9_clear_17 : decode cX9_clear 17 = .ok (.ireturn, 1) := by decide +kernel
theorem dX9_reads_0 : decode cX9_reads 0 = .ok (.aload_n 0, 1) := by decide +kernel
theorem dX9_reads_1 : decode cX9_reads 1 = .ok (.getfield 33, 3) := by decide +kernel
theorem dX9_reads_4 : decode cX9_reads 4 = .ok (.invokevirtual 151, 3) := by decide +kernel
theorem dX9_reads_7 : decode cX9_reads 7 = .ok (.istore_n 1, 1) := by decide +kernel
theorem dX9_reads_8 : decode cX9_reads 8 = .ok (.iload_n 1, 1) := by decide +kernel
theorem dX9_reads_9 : decode cX9_reads 9 = .ok (.iconst (-1), 1) := by decide +kernel
theorem dX9_reads_10 : decode cX9_reads 10 = .ok (.if_icmp .eq 8, 3) := by decide +kernel
theorem dX9_reads_13 : decode cX9_reads 13 = .ok (.bipush (-10), 2) := by decide +kernel
theorem dX9_reads_15 : decode cX9_reads 15 = .ok (.iload_n 1, 1) := by decide +kernel
theorem dX9_reads_16 : decode cX9_reads 16 = .ok (.isub, 1) := by decide +kernel
theorem dX9_reads_17 : decode cX9_reads 17 = .ok (.ireturn, 1) := by decide +kernel
theorem dX9_reads_18 : decode cX9_reads 18 = .ok (.aload_n 0, 1) := by decide +kernel
theorem dX9_reads_19 : decode cX9_reads 19 = .ok (.getfield 33, 3) := by decide +kernel
theorem dX9_reads_22 : decode cX9_reads 22 = .ok (.getfield 154, 3) := by decide +kernel
theorem dX9_reads_25 : decode cX9_reads 25 = .ok (.ifCond .eq 25, 3) := by decide +kernel
theorem dX9_reads_28 : decode cX9_reads 28 = .ok (.aload_n 0, 1) := by decide +kernel
theorem dX9_reads_29 : decode cX9_reads 29 = .ok (.getfield 19, 3) := by decide +kernel
theorem dX9_reads_32 : decode cX9_reads 32 = .ok (.aload_n 0, 1) := by decide +kernel
theorem dX9_reads_33 : decode cX9_reads 33 = .ok (.getfield 33, 3) := by decide +kernel
theorem dX9_reads_36 : decode cX9_reads 36 = .ok (.getfield 158, 3) := by decide +kernel
theorem dX9_reads_39 : decode cX9_reads 39 = .ok (.invokevirtual 159, 3) := by decide +kernel
theorem dX9_reads_42 : decode cX9_reads 42 = .ok (.aload_n 0, 1) := by decide +kernel
theorem dX9_reads_43 : decode cX9_reads 43 = .ok (.getfield 19, 3) := by decide +kernel
theorem dX9_reads_46 : decode cX9_reads 46 = .ok (.getfield 163, 3) := by decide +kernel
theorem dX9_reads_49 : decode cX9_reads 49 = .ok (.ireturn, 1) := by decide +kernel
theorem dX9_reads_50 : decode cX9_reads 50 = .ok (.aload_n 0, 1) := by decide +kernel
theorem dX9_reads_51 : decode cX9_reads 51 = .ok (.getfield 26, 3) := by decide +kernel
theorem dX9_reads_54 : decode cX9_reads 54 = .ok (.aload_n 0, 1) := by decide +kernel
theorem dX9_reads_55 : decode cX9_reads 55 = .ok (.getfield 33, 3) := by decide +kernel
theorem dX9_reads_58 : decode cX9_reads 58 = .ok (.getfield 164, 3) := by decide +kernel
theorem dX9_reads_61 : decode cX9_reads 61 = .ok (.invokevirtual 165, 3) := by decide +kernel
theorem dX9_reads_64 : decode cX9_reads 64 = .ok (.aload_n 0, 1) := by decide +kernel
theorem dX9_reads_65 : decode cX9_reads 65 = .ok (.getfield 26, 3) := by decide +kernel
theorem dX9_reads_68 : decode cX9_reads 68 = .ok (.getfield 168, 3) := by decide +kernel
theorem dX9_reads_71 : decode cX9_reads 71 = .ok (.ireturn, 1) := by decide +kernel
theorem dX9_target_0 : decode cX9_target 0 = .ok (.aload_n 0, 1) := by decide +kernel
theorem dX9_target_1 : decode cX9_target 1 = .ok (.iload_n 1, 1) := by decide +kernel
theorem dX9_target_2 : decode cX9_target 2 = .ok (.invokevirtual 171, 3) := by decide +kernel
theorem dX9_target_5 : decode cX9_target 5 = .ok (.ifCond .ne 8, 3) := by decide +kernel
theorem dX9_target_8 : decode cX9_target 8 = .ok (.aload_n 0, 1) := by decide +kernel
theorem dX9_target_9 : decode cX9_target 9 = .ok (.invokevirtual 79, 3) := by decide +kernel
theorem dX9_target_12 : decode cX9_target 12 = .ok (.ireturn, 1) := by decide +kernel
theorem dX9_target_13 : decode cX9_target 13 = .ok (.iload_n 2, 1) := by decide +kernel
theorem dX9_target_14 : decode cX9_target 14 = .ok (.tableswitch 82 0 4 #[34, 44, 54, 64, 73], 34) := by decide +kernel
theorem dX9_target_48 : decode cX9_target 48 = .ok (.aload_n 0, 1) := by decide +kernel
theorem dX9_target_49 : decode cX9_target 49 = .ok (.getfield 19, 3) := by decide +kernel
theorem dX9_target_52 : decode cX9_target 52 = .ok (.getfield 174, 3) := by decide +kernel
theorem dX9_target_55 : decode cX9_target 55 = .ok (.iload_n 1, 1) := by decide +kernel
theorem dX9_target_56 : decode cX9_target 56 = .ok (.iaload, 1) := by decide +kernel
theorem dX9_target_57 : decode cX9_target 57 = .ok (.ireturn, 1) := by decide +kernel
theorem dX9_target_58 : decode cX9_target 58 = .ok (.aload_n 0, 1) := by decide +kernel
theorem dX9_target_59 : decode cX9_target 59 = .ok (.getfield 19, 3) := by decide +kernel
theorem dX9_target_62 : decode cX9_target 62 = .ok (.getfield 175, 3) := by decide +kernel
theorem dX9_target_65 : decode cX9_target 65 = .ok (.iload_n 1, 1) := by decide +kernel
theorem dX9_target_66 : decode cX9_target 66 = .ok (.iaload, 1) := by decide +kernel
theorem dX9_target_67 : decode cX9_target 67 = .ok (.ireturn, 1) := by decide +kernel
theorem dX9_target_68 : decode cX9_target 68 = .ok (.aload_n 0, 1) := by decide +kernel
theorem dX9_target_69 : decode cX9_target 69 = .ok (.getfield 19, 3) := by decide +kernel
theorem dX9_target_72 : decode cX9_target 72 = .ok (.getfield 176, 3) := by decide +kernel
theorem dX9_target_75 : decode cX9_target 75 = .ok (.iload_n 1, 1) := by decide +kernel
theorem dX9_target_76 : decode cX9_target 76 = .ok (.iaload, 1) := by decide +kernel
theorem dX9_target_77 : decode cX9_target 77 = .ok (.ireturn, 1) := by decide +kernel
theorem dX9_target_78 : decode cX9_target 78 = .ok (.aload_n 0, 1) := by decide +kernel
theorem dX9_target_79 : decode cX9_target 79 = .ok (.getfield 19, 3) := by decide +kernel
theorem dX9_target_82 : decode cX9_target 82 = .ok (.iload_n 1, 1) := by decide +kernel
theorem dX9_target_83 : decode cX9_target 83 = .ok (.invokevirtual 177, 3) := by decide +kernel
theorem dX9_target_86 : decode cX9_target 86 = .ok (.ireturn, 1) := by decide +kernel
theorem dX9_target_87 : decode cX9_target 87 = .ok (.aload_n 0, 1) := by decide +kernel
theorem dX9_target_88 : decode cX9_target 88 = .ok (.getfield 19, 3) := by decide +kernel
theorem dX9_target_91 : decode cX9_target 91 = .ok (.iload_n 1, 1) := by decide +kernel
theorem dX9_target_92 : decode cX9_target 92 = .ok (.invokevirtual 181, 3) := by decide +kernel
theorem dX9_target_95 : decode cX9_target 95 = .ok (.ireturn, 1) := by decide +kernel
theorem dX9_target_96 : decode cX9_target 96 = .ok (.aload_n 0, 1) := by decide +kernel
theorem dX9_target_97 : decode cX9_target 97 = .ok (.invokevirtual 79, 3) := by decide +kernel
theorem dX9_target_100 : decode cX9_target 100 = .ok (.ireturn, 1) := by decide +kernel
theorem dX9_tree_0 : decode cX9_tree 0 = .ok (.iload_n 1, 1) := by decide +kernel
theorem dX9_tree_1 : decode cX9_tree 1 = .ok (.tableswitch 48 0 2 #[27, 35, 43], 27) := by decide +kernel
theorem dX9_tree_28 : decode cX9_tree 28 = .ok (.aload_n 0, 1) := by decide +kernel
theorem dX9_tree_29 : decode cX9_tree 29 = .ok (.getfield 26, 3) := by decide +kernel
theorem dX9_tree_32 : decode cX9_tree 32 = .ok (.getfield 168, 3) := by decide +kernel
theorem dX9_tree_35 : decode cX9_tree 35 = .ok (.ireturn, 1) := by decide +kernel
theorem dX9_tree_36 : decode cX9_tree 36 = .ok (.aload_n 0, 1) := by decide +kernel
theorem dX9_tree_37 : decode cX9_tree 37 = .ok (.getfield 26, 3) := by decide +kernel
theorem dX9_tree_40 : decode cX9_tree 40 = .ok (.getfield 184, 3) := by decide +kernel
theorem dX9_tree_43 : decode cX9_tree 43 = .ok (.ireturn, 1) := by decide +kernel
theorem dX9_tree_44 : decode cX9_tree 44 = .ok (.aload_n 0, 1) := by decide +kernel
theorem dX9_tree_45 : decode cX9_tree 45 = .ok (.invokevirtual 187, 3) := by decide +kernel
theorem dX9_tree_48 : decode cX9_tree 48 = .ok (.ireturn, 1) := by decide +kernel
theorem dX9_tree_49 : decode cX9_tree 49 = .ok (.aload_n 0, 1) := by decide +kernel
theorem dX9_tree_50 : decode cX9_tree 50 = .ok (.invokevirtual 79, 3) := by decide +kernel
theorem dX9_tree_53 : decode cX9_tree 53 = .ok (.ireturn, 1) := by decide +kernel
theorem dX9_leaf_0 : decode cX9_leaf 0 = .ok (.iload_n 1, 1) := by decide +kernel
theorem dX9_leaf_1 : decode cX9_leaf 1 = .ok (.ifCond .ne 27, 3) := by decide +kernel
theorem dX9_leaf_4 : decode cX9_leaf 4 = .ok (.aload_n 0, 1) := by decide +kernel
theorem dX9_leaf_5 : decode cX9_leaf 5 = .ok (.iload_n 2, 1) := by decide +kernel
theorem dX9_leaf_6 : decode cX9_leaf 6 = .ok (.invokevirtual 117, 3) := by decide +kernel
theorem dX9_leaf_9 : decode cX9_leaf 9 = .ok (.ifCond .eq 19, 3) := by decide +kernel
theorem dX9_leaf_12 : decode cX9_leaf 12 = .ok (.aload_n 0, 1) := by decide +kernel
theorem dX9_leaf_13 : decode cX9_leaf 13 = .ok (.getfield 26, 3) := by decide +kernel
theorem dX9_leaf_16 : decode cX9_leaf 16 = .ok (.aload_n 0, 1) := by decide +kernel
theorem dX9_leaf_17 : decode cX9_leaf 17 = .ok (.getfield 46, 3) := by decide +kernel
theorem dX9_leaf_20 : decode cX9_leaf 20 = .ok (.iload_n 2, 1) := by decide +kernel
theorem dX9_leaf_21 : decode cX9_leaf 21 = .ok (.invokevirtual 190, 3) := by decide +kernel
theorem dX9_leaf_24 : decode cX9_leaf 24 = .ok (.invokevirtual 193, 3) := by decide +kernel
theorem dX9_leaf_27 : decode cX9_leaf 27 = .ok (.ireturn, 1) := by decide +kernel
theorem dX9_leaf_28 : decode cX9_leaf 28 = .ok (.iload_n 1, 1) := by decide +kernel
theorem dX9_leaf_29 : decode cX9_leaf 29 = .ok (.iconst 1, 1) := by decide +kernel
theorem dX9_leaf_30 : decode cX9_leaf 30 = .ok (.if_icmp .ne 27, 3) := by decide +kernel
theorem dX9_leaf_33 : decode cX9_leaf 33 = .ok (.aload_n 0, 1) := by decide +kernel
theorem dX9_leaf_34 : decode cX9_leaf 34 = .ok (.iload_n 2, 1) := by decide +kernel
theorem dX9_leaf_35 : decode cX9_leaf 35 = .ok (.invokevirtual 171, 3) := by decide +kernel
theorem dX9_leaf_38 : decode cX9_leaf 38 = .ok (.ifCond .eq 19, 3) := by decide +kernel
theorem dX9_leaf_41 : decode cX9_leaf 41 = .ok (.aload_n 0, 1) := by decide +kernel
theorem dX9_leaf_42 : decode cX9_leaf 42 = .ok (.getfield 26, 3) := by decide +kernel
theorem dX9_leaf_45 : decode cX9_leaf 45 = .ok (.aload_n 0, 1) := by decide +kernel
theorem dX9_leaf_46 : decode cX9_leaf 46 = .ok (.getfield 46, 3) := by decide +kernel
theorem dX9_leaf_49 : decode cX9_leaf 49 = .ok (.iload_n 2, 1) := by decide +kernel
theorem dX9_leaf_50 : decode cX9_leaf 50 = .ok (.invokevirtual 196, 3) := by decide +kernel
theorem dX9_leaf_53 : decode cX9_leaf 53 = .ok (.invokevirtual 193, 3) := by decide +kernel
theorem dX9_leaf_56 : decode cX9_leaf 56 = .ok (.ireturn, 1) := by decide +kernel
theorem dX9_leaf_57 : decode cX9_leaf 57 = .ok (.aload_n 0, 1) := by decide +kernel
theorem dX9_leaf_58 : decode cX9_leaf 58 = .ok (.invokevirtual 79, 3) := by decide +kernel
theorem dX9_leaf_61 : decode cX9_leaf 61 = .ok (.ireturn, 1) := by decide +kernel
theorem dX9_choice_0 : decode cX9_choice 0 = .ok (.aload_n 0, 1) := by decide +kernel
theorem dX9_choice_1 : decode cX9_choice 1 = .ok (.iload_n 1, 1) := by decide +kernel
theorem dX9_choice_2 : decode cX9_choice 2 = .ok (.invokevirtual 199, 3) := by decide +kernel
theorem dX9_choice_5 : decode cX9_choice 5 = .ok (.ifCond .eq 8, 3) := by decide +kernel
theorem dX9_choice_8 : decode cX9_choice 8 = .ok (.iload_n 2, 1) := by decide +kernel
theorem dX9_choice_9 : decode cX9_choice 9 = .ok (.iconst (-1), 1) := by decide +kernel
theorem dX9_choice_10 : decode cX9_choice 10 = .ok (.if_icmp .ge 16, 3) := by decide +kernel
theorem dX9_choice_13 : decode cX9_choice 13 = .ok (.aload_n 0, 1) := by decide +kernel
theorem dX9_choice_14 : decode cX9_choice 14 = .ok (.dup, 1) := by decide +kernel
theorem dX9_choice_15 : decode cX9_choice 15 = .ok (.getfield 202, 3) := by decide +kernel
theorem dX9_choice_18 : decode cX9_choice 18 = .ok (.iconst 1, 1) := by decide +kernel
theorem dX9_choice_19 : decode cX9_choice 19 = .ok (.iadd, 1) := by decide +kernel
theorem dX9_choice_20 : decode cX9_choice 20 = .ok (.putfield 202, 3) := by decide +kernel
theorem dX9_choice_23 : decode cX9_choice 23 = .ok (.bipush (-10), 2) := by decide +kernel
theorem dX9_choice_25 : decode cX9_choice 25 = .ok (.ireturn, 1) := by decide +kernel
theorem dX9_choice_26 : decode cX9_choice 26 = .ok (.aload_n 0, 1) := by decide +kernel
theorem dX9_choice_27 : decode cX9_choice 27 = .ok (.getfield 19, 3) := by decide +kernel
theorem dX9_choice_30 : decode cX9_choice 30 = .ok (.getfield 163, 3) := by decide +kernel
theorem dX9_choice_33 : decode cX9_choice 33 = .ok (.ifCond .ne 8, 3) := by decide +kernel
theorem dX9_choice_36 : decode cX9_choice 36 = .ok (.aload_n 0, 1) := by decide +kernel
theorem dX9_choice_37 : decode cX9_choice 37 = .ok (.invokevirtual 205, 3) := by decide +kernel
theorem dX9_choice_40 : decode cX9_choice 40 = .ok (.ireturn, 1) := by decide +kernel
theorem dX9_choice_41 : decode cX9_choice 41 = .ok (.aload_n 0, 1) := by decide +kernel
theorem dX9_choice_42 : decode cX9_choice 42 = .ok (.getfield 46, 3) := by decide +kernel
theorem dX9_choice_45 : decode cX9_choice 45 = .ok (.iload_n 1, 1) := by decide +kernel
theorem dX9_choice_46 : decode cX9_choice 46 = .ok (.iconst (-1), 1) := by decide +kernel
theorem dX9_choice_47 : decode cX9_choice 47 = .ok (.invokevirtual 208, 3) := by decide +kernel
theorem dX9_choice_50 : decode cX9_choice 50 = .ok (.astore_n 3, 1) := by decide +kernel
theorem dX9_choice_51 : decode cX9_choice 51 = .ok (.aload_n 3, 1) := by decide +kernel
theorem dX9_choice_52 : decode cX9_choice 52 = .ok (.invokevirtual 212, 3) := by decide +kernel
theorem dX9_choice_55 : decode cX9_choice 55 = .ok (.ifCond .eq 8, 3) := by decide +kernel
theorem dX9_choice_58 : decode cX9_choice 58 = .ok (.aload_n 0, 1) := by decide +kernel
theorem dX9_choice_59 : decode cX9_choice 59 = .ok (.invokevirtual 205, 3) := by decide +kernel
theorem dX9_choice_62 : decode cX9_choice 62 = .ok (.ireturn, 1) := by decide +kernel
theorem dX9_choice_63 : decode cX9_choice 63 = .ok (.iload_n 2, 1) := by decide +kernel
theorem dX9_choice_64 : decode cX9_choice 64 = .ok (.iconst (-1), 1) := by decide +kernel
theorem dX9_choice_65 : decode cX9_choice 65 = .ok (.if_icmp .ne 8, 3) := by decide +kernel
theorem dX9_choice_68 : decode cX9_choice 68 = .ok (.aload_n 3, 1) := by decide +kernel
theorem dX9_choice_69 : decode cX9_choice 69 = .ok (.getfield 218, 3) := by decide +kernel
theorem dX9_choice_72 : decode cX9_choice 72 = .ok (.ireturn, 1) := by decide +kernel
theorem dX9_choice_73 : decode cX9_choice 73 = .ok (.iload_n 2, 1) := by decide +kernel
theorem dX9_choice_74 : decode cX9_choice 74 = .ok (.aload_n 3, 1) := by decide +kernel
theorem dX9_choice_75 : decode cX9_choice 75 = .ok (.getfield 218, 3) := by decide +kernel
theorem dX9_choice_78 : decode cX9_choice 78 = .ok (.if_icmp .ge 12, 3) := by decide +kernel
theorem dX9_choice_81 : decode cX9_choice 81 = .ok (.aload_n 3, 1) := by decide +kernel
theorem dX9_choice_82 : decode cX9_choice 82 = .ok (.getfield 219, 3) := by decide +kernel
theorem dX9_choice_85 : decode cX9_choice 85 = .ok (.iload_n 2, 1) := by decide +kernel
theorem dX9_choice_86 : decode cX9_choice 86 = .ok (.iaload, 1) := by decide +kernel
theorem dX9_choice_87 : decode cX9_choice 87 = .ok (.goto 5, 3) := by decide +kernel
theorem dX9_choice_90 : decode cX9_choice 90 = .ok (.bipush (-5), 2) := by decide +kernel
theorem dX9_choice_92 : decode cX9_choice 92 = .ok (.ireturn, 1) := by decide +kernel
theorem dX9_steps_0 : decode cX9_steps 0 = .ok (.aload_n 0, 1) := by decide +kernel
theorem dX9_steps_1 : decode cX9_steps 1 = .ok (.iload_n 1, 1) := by decide +kernel
theorem dX9_steps_2 : decode cX9_steps 2 = .ok (.invokevirtual 171, 3) := by decide +kernel
theorem dX9_steps_5 : decode cX9_steps 5 = .ok (.ifCond .eq 18, 3) := by decide +kernel
theorem dX9_steps_8 : decode cX9_steps 8 = .ok (.aload_n 0, 1) := by decide +kernel
theorem dX9_steps_9 : decode cX9_steps 9 = .ok (.getfield 46, 3) := by decide +kernel
theorem dX9_steps_12 : decode cX9_steps 12 = .ok (.iload_n 1, 1) := by decide +kernel
theorem dX9_steps_13 : decode cX9_steps 13 = .ok (.iconst (-1), 1) := by decide +kernel
theorem dX9_steps_14 : decode cX9_steps 14 = .ok (.invokevirtual 208, 3) := by decide +kernel
theorem dX9_steps_17 : decode cX9_steps 17 = .ok (.getfield 222, 3) := by decide +kernel
theorem dX9_steps_20 : decode cX9_steps 20 = .ok (.goto 7, 3) := by decide +kernel
theorem dX9_steps_23 : decode cX9_steps 23 = .ok (.aload_n 0, 1) := by decide +kernel
theorem dX9_steps_24 : decode cX9_steps 24 = .ok (.invokevirtual 79, 3) := by decide +kernel
theorem dX9_steps_27 : decode cX9_steps 27 = .ok (.ireturn, 1) := by decide +kernel
theorem dX9_tried_0 : decode cX9_tried 0 = .ok (.aload_n 0, 1) := by decide +kernel
theorem dX9_tried_1 : decode cX9_tried 1 = .ok (.iload_n 1, 1) := by decide +kernel
theorem dX9_tried_2 : decode cX9_tried 2 = .ok (.invokevirtual 171, 3) := by decide +kernel
theorem dX9_tried_5 : decode cX9_tried 5 = .ok (.ifCond .eq 18, 3) := by decide +kernel
theorem dX9_tried_8 : decode cX9_tried 8 = .ok (.aload_n 0, 1) := by decide +kernel
theorem dX9_tried_9 : decode cX9_tried 9 = .ok (.getfield 46, 3) := by decide +kernel
theorem dX9_tried_12 : decode cX9_tried 12 = .ok (.iload_n 1, 1) := by decide +kernel
theorem dX9_tried_13 : decode cX9_tried 13 = .ok (.iconst (-1), 1) := by decide +kernel
theorem dX9_tried_14 : decode cX9_tried 14 = .ok (.invokevirtual 208, 3) := by decide +kernel
theorem dX9_tried_17 : decode cX9_tried 17 = .ok (.getfield 225, 3) := by decide +kernel
theorem dX9_tried_20 : decode cX9_tried 20 = .ok (.goto 7, 3) := by decide +kernel
theorem dX9_tried_23 : decode cX9_tried 23 = .ok (.aload_n 0, 1) := by decide +kernel
theorem dX9_tried_24 : decode cX9_tried 24 = .ok (.invokevirtual 79, 3) := by decide +kernel
theorem dX9_tried_27 : decode cX9_tried 27 = .ok (.ireturn, 1) := by decide +kernel
theorem dX9_fit_0 : decode cX9_fit 0 = .ok (.aload_n 0, 1) := by decide +kernel
theorem dX9_fit_1 : decode cX9_fit 1 = .ok (.iload_n 1, 1) := by decide +kernel
theorem dX9_fit_2 : decode cX9_fit 2 = .ok (.invokevirtual 117, 3) := by decide +kernel
theorem dX9_fit_5 : decode cX9_fit 5 = .ok (.ifCond .eq 27, 3) := by decide +kernel
theorem dX9_fit_8 : decode cX9_fit 8 = .ok (.aload_n 0, 1) := by decide +kernel
theorem dX9_fit_9 : decode cX9_fit 9 = .ok (.iload_n 2, 1) := by decide +kernel
theorem dX9_fit_10 : decode cX9_fit 10 = .ok (.invokevirtual 171, 3) := by decide +kernel
theorem dX9_fit_13 : decode cX9_fit 13 = .ok (.ifCond .eq 19, 3) := by decide +kernel
theorem dX9_fit_16 : decode cX9_fit 16 = .ok (.aload_n 0, 1) := by decide +kernel
theorem dX9_fit_17 : decode cX9_fit 17 = .ok (.getfield 55, 3) := by decide +kernel
theorem dX9_fit_20 : decode cX9_fit 20 = .ok (.aload_n 0, 1) := by decide +kernel
theorem dX9_fit_21 : decode cX9_fit 21 = .ok (.getfield 144, 3) := by decide +kernel
theorem dX9_fit_24 : decode cX9_fit 24 = .ok (.iload_n 1, 1) := by decide +kernel
theorem dX9_fit_25 : decode cX9_fit 25 = .ok (.iload_n 2, 1) := by decide +kernel
theorem dX9_fit_26 : decode cX9_fit 26 = .ok (.invokevirtual 228, 3) := by decide +kernel
theorem dX9_fit_29 : decode cX9_fit 29 = .ok (.goto 7, 3) := by decide +kernel
theorem dX9_fit_32 : decode cX9_fit 32 = .ok (.aload_n 0, 1) := by decide +kernel
theorem dX9_fit_33 : decode cX9_fit 33 = .ok (.invokevirtual 79, 3) := by decide +kernel
theorem dX9_fit_36 : decode cX9_fit 36 = .ok (.ireturn, 1) := by decide +kernel
theorem dX9_joint_0 : decode cX9_joint 0 = .ok (.aload_n 0, 1) := by decide +kernel
theorem dX9_joint_1 : decode cX9_joint 1 = .ok (.iload_n 1, 1) := by decide +kernel
theorem dX9_joint_2 : decode cX9_joint 2 = .ok (.invokevirtual 117, 3) := by decide +kernel
theorem dX9_joint_5 : decode cX9_joint 5 = .ok (.ifCond .eq 23, 3) := by decide +kernel
theorem dX9_joint_8 : decode cX9_joint 8 = .ok (.aload_n 0, 1) := by decide +kernel
theorem dX9_joint_9 : decode cX9_joint 9 = .ok (.iload_n 2, 1) := by decide +kernel
theorem dX9_joint_10 : decode cX9_joint 10 = .ok (.invokevirtual 117, 3) := by decide +kernel
theorem dX9_joint_13 : decode cX9_joint 13 = .ok (.ifCond .eq 15, 3) := by decide +kernel
theorem dX9_joint_16 : decode cX9_joint 16 = .ok (.aload_n 0, 1) := by decide +kernel
theorem dX9_joint_17 : decode cX9_joint 17 = .ok (.getfield 55, 3) := by decide +kernel
theorem dX9_joint_20 : decode cX9_joint 20 = .ok (.iload_n 1, 1) := by decide +kernel
theorem dX9_joint_21 : decode cX9_joint 21 = .ok (.iload_n 2, 1) := by decide +kernel
theorem dX9_joint_22 : decode cX9_joint 22 = .ok (.invokevirtual 232, 3) := by decide +kernel
theorem dX9_joint_25 : decode cX9_joint 25 = .ok (.goto 7, 3) := by decide +kernel
theorem dX9_joint_28 : decode cX9_joint 28 = .ok (.aload_n 0, 1) := by decide +kernel
theorem dX9_joint_29 : decode cX9_joint 29 = .ok (.invokevirtual 79, 3) := by decide +kernel
theorem dX9_joint_32 : decode cX9_joint 32 = .ok (.ireturn, 1) := by decide +kernel
theorem dX9_cost_0 : decode cX9_cost 0 = .ok (.aload_n 0, 1) := by decide +kernel
theorem dX9_cost_1 : decode cX9_cost 1 = .ok (.iconst (-1), 1) := by decide +kernel
theorem dX9_cost_2 : decode cX9_cost 2 = .ok (.invokevirtual 236, 3) := by decide +kernel
theorem dX9_cost_5 : decode cX9_cost 5 = .ok (.ifCond .eq 13, 3) := by decide +kernel
theorem dX9_cost_8 : decode cX9_cost 8 = .ok (.aload_n 0, 1) := by decide +kernel
theorem dX9_cost_9 : decode cX9_cost 9 = .ok (.getfield 64, 3) := by decide +kernel
theorem dX9_cost_12 : decode cX9_cost 12 = .ok (.invokevirtual 239, 3) := by decide +kernel
theorem dX9_cost_15 : decode cX9_cost 15 = .ok (.goto 7, 3) := by decide +kernel
theorem dX9_cost_18 : decode cX9_cost 18 = .ok (.aload_n 0, 1) := by decide +kernel
theorem dX9_cost_19 : decode cX9_cost 19 = .ok (.invokevirtual 205, 3) := by decide +kernel
theorem dX9_cost_22 : decode cX9_cost 22 = .ok (.ireturn, 1) := by decide +kernel
theorem dX9_chain_0 : decode cX9_chain 0 = .ok (.aload_n 0, 1) := by decide +kernel
theorem dX9_chain_1 : decode cX9_chain 1 = .ok (.iload_n 1, 1) := by decide +kernel
theorem dX9_chain_2 : decode cX9_chain 2 = .ok (.invokevirtual 199, 3) := by decide +kernel
theorem dX9_chain_5 : decode cX9_chain 5 = .ok (.ifCond .ne 8, 3) := by decide +kernel
theorem dX9_chain_8 : decode cX9_chain 8 = .ok (.aload_n 0, 1) := by decide +kernel
theorem dX9_chain_9 : decode cX9_chain 9 = .ok (.invokevirtual 79, 3) := by decide +kernel
theorem dX9_chain_12 : decode cX9_chain 12 = .ok (.ireturn, 1) := by decide +kernel
theorem dX9_chain_13 : decode cX9_chain 13 = .ok (.aload_n 0, 1) := by decide +kernel
theorem dX9_chain_14 : decode cX9_chain 14 = .ok (.iconst (-1), 1) := by decide +kernel
theorem dX9_chain_15 : decode cX9_chain 15 = .ok (.invokevirtual 236, 3) := by decide +kernel
theorem dX9_chain_18 : decode cX9_chain 18 = .ok (.ifCond .eq 15, 3) := by decide +kernel
theorem dX9_chain_21 : decode cX9_chain 21 = .ok (.aload_n 0, 1) := by decide +kernel
theorem dX9_chain_22 : decode cX9_chain 22 = .ok (.getfield 64, 3) := by decide +kernel
theorem dX9_chain_25 : decode cX9_chain 25 = .ok (.getfield 242, 3) := by decide +kernel
theorem dX9_chain_28 : decode cX9_chain 28 = .ok (.iload_n 1, 1) := by decide +kernel
theorem dX9_chain_29 : decode cX9_chain 29 = .ok (.iaload, 1) := by decide +kernel
theorem dX9_chain_30 : decode cX9_chain 30 = .ok (.goto 7, 3) := by decide +kernel
theorem dX9_chain_33 : decode cX9_chain 33 = .ok (.aload_n 0, 1) := by decide +kernel
theorem dX9_chain_34 : decode cX9_chain 34 = .ok (.invokevirtual 205, 3) := by decide +kernel
theorem dX9_chain_37 : decode cX9_chain 37 = .ok (.ireturn, 1) := by decide +kernel
theorem dX9_ways_0 : decode cX9_ways 0 = .ok (.aload_n 0, 1) := by decide +kernel
theorem dX9_ways_1 : decode cX9_ways 1 = .ok (.iconst (-1), 1) := by decide +kernel
theorem dX9_ways_2 : decode cX9_ways 2 = .ok (.invokevirtual 236, 3) := by decide +kernel
theorem dX9_ways_5 : decode cX9_ways 5 = .ok (.ifCond .eq 13, 3) := by decide +kernel
theorem dX9_ways_8 : decode cX9_ways 8 = .ok (.aload_n 0, 1) := by decide +kernel
theorem dX9_ways_9 : decode cX9_ways 9 = .ok (.getfield 64, 3) := by decide +kernel
theorem dX9_ways_12 : decode cX9_ways 12 = .ok (.invokevirtual 245, 3) := by decide +kernel
theorem dX9_ways_15 : decode cX9_ways 15 = .ok (.goto 7, 3) := by decide +kernel
theorem dX9_ways_18 : decode cX9_ways 18 = .ok (.aload_n 0, 1) := by decide +kernel
theorem dX9_ways_19 : decode cX9_ways 19 = .ok (.invokevirtual 205, 3) := by decide +kernel
theorem dX9_ways_22 : decode cX9_ways 22 = .ok (.ireturn, 1) := by decide +kernel
theorem dX9_next_0 : decode cX9_next 0 = .ok (.aload_n 0, 1) := by decide +kernel
theorem dX9_next_1 : decode cX9_next 1 = .ok (.iconst (-1), 1) := by decide +kernel
theorem dX9_next_2 : decode cX9_next 2 = .ok (.invokevirtual 236, 3) := by decide +kernel
theorem dX9_next_5 : decode cX9_next 5 = .ok (.ifCond .eq 13, 3) := by decide +kernel
theorem dX9_next_8 : decode cX9_next 8 = .ok (.aload_n 0, 1) := by decide +kernel
theorem dX9_next_9 : decode cX9_next 9 = .ok (.getfield 64, 3) := by decide +kernel
theorem dX9_next_12 : decode cX9_next 12 = .ok (.invokevirtual 248, 3) := by decide +kernel
theorem dX9_next_15 : decode cX9_next 15 = .ok (.goto 7, 3) := by decide +kernel
theorem dX9_next_18 : decode cX9_next 18 = .ok (.aload_n 0, 1) := by decide +kernel
theorem dX9_next_19 : decode cX9_next 19 = .ok (.invokevirtual 205, 3) := by decide +kernel
theorem dX9_next_22 : decode cX9_next 22 = .ok (.ireturn, 1) := by decide +kernel
theorem dX9_dearest_0 : decode cX9_dearest 0 = .ok (.aload_n 0, 1) := by decide +kernel
theorem dX9_dearest_1 : decode cX9_dearest 1 = .ok (.iconst (-1), 1) := by decide +kernel
theorem dX9_dearest_2 : decode cX9_dearest 2 = .ok (.invokevirtual 236, 3) := by decide +kernel
theorem dX9_dearest_5 : decode cX9_dearest 5 = .ok (.ifCond .eq 13, 3) := by decide +kernel
theorem dX9_dearest_8 : decode cX9_dearest 8 = .ok (.aload_n 0, 1) := by decide +kernel
theorem dX9_dearest_9 : decode cX9_dearest 9 = .ok (.getfield 64, 3) := by decide +kernel
theorem dX9_dearest_12 : decode cX9_dearest 12 = .ok (.invokevirtual 251, 3) := by decide +kernel
theorem dX9_dearest_15 : decode cX9_dearest 15 = .ok (.goto 7, 3) := by decide +kernel
theorem dX9_dearest_18 : decode cX9_dearest 18 = .ok (.aload_n 0, 1) := by decide +kernel
theorem dX9_dearest_19 : decode cX9_dearest 19 = .ok (.invokevirtual 205, 3) := by decide +kernel
theorem dX9_dearest_22 : decode cX9_dearest 22 = .ok (.ireturn, 1) := by decide +kernel
theorem dX9_without_0 : decode cX9_without 0 = .ok (.aload_n 0, 1) := by decide +kernel
theorem dX9_without_1 : decode cX9_without 1 = .ok (.iload_n 1, 1) := by decide +kernel
theorem dX9_without_2 : decode cX9_without 2 = .ok (.invokevirtual 117, 3) := by decide +kernel
theorem dX9_without_5 : decode cX9_without 5 = .ok (.ifCond .ne 8, 3) := by decide +kernel
theorem dX9_without_8 : decode cX9_without 8 = .ok (.aload_n 0, 1) := by decide +kernel
theorem dX9_without_9 : decode cX9_without 9 = .ok (.invokevirtual 79, 3) := by decide +kernel
theorem dX9_without_12 : decode cX9_without 12 = .ok (.ireturn, 1) := by decide +kernel
theorem dX9_without_13 : decode cX9_without 13 = .ok (.aload_n 0, 1) := by decide +kernel
theorem dX9_without_14 : decode cX9_without 14 = .ok (.iload_n 1, 1) := by decide +kernel
theorem dX9_without_15 : decode cX9_without 15 = .ok (.invokevirtual 236, 3) := by decide +kernel
theorem dX9_without_18 : decode cX9_without 18 = .ok (.ifCond .eq 13, 3) := by decide +kernel
theorem dX9_without_21 : decode cX9_without 21 = .ok (.aload_n 0, 1) := by decide +kernel
theorem dX9_without_22 : decode cX9_without 22 = .ok (.getfield 64, 3) := by decide +kernel
theorem dX9_without_25 : decode cX9_without 25 = .ok (.invokevirtual 239, 3) := by decide +kernel
theorem dX9_without_28 : decode cX9_without 28 = .ok (.goto 7, 3) := by decide +kernel
theorem dX9_without_31 : decode cX9_without 31 = .ok (.aload_n 0, 1) := by decide +kernel
theorem dX9_without_32 : decode cX9_without 32 = .ok (.invokevirtual 205, 3) := by decide +kernel
theorem dX9_without_35 : decode cX9_without 35 = .ok (.ireturn, 1) := by decide +kernel
theorem dX9_about_0 : decode cX9_about 0 = .ok (.iload_n 1, 1) := by decide +kernel
theorem dX9_about_1 : decode cX9_about 1 = .ok (.iconst 0, 1) := by decide +kernel
theorem dX9_about_2 : decode cX9_about 2 = .ok (.iconst 3, 1) := by decide +kernel
theorem dX9_about_3 : decode cX9_about 3 = .ok (.invokestatic 72, 3) := by decide +kernel
theorem dX9_about_6 : decode cX9_about 6 = .ok (.ifCond .ne 8, 3) := by decide +kernel
theorem dX9_about_9 : decode cX9_about 9 = .ok (.aload_n 0, 1) := by decide +kernel
theorem dX9_about_10 : decode cX9_about 10 = .ok (.invokevirtual 79, 3) := by decide +kernel
theorem dX9_about_13 : decode cX9_about 13 = .ok (.ireturn, 1) := by decide +kernel
theorem dX9_about_14 : decode cX9_about 14 = .ok (.aload_n 0, 1) := by decide +kernel
theorem dX9_about_15 : decode cX9_about 15 = .ok (.iconst (-1), 1) := by decide +kernel
theorem dX9_about_16 : decode cX9_about 16 = .ok (.invokevirtual 236, 3) := by decide +kernel
theorem dX9_about_19 : decode cX9_about 19 = .ok (.ifCond .ne 8, 3) := by decide +kernel
theorem dX9_about_22 : decode cX9_about 22 = .ok (.aload_n 0, 1) := by decide +kernel
theorem dX9_about_23 : decode cX9_about 23 = .ok (.invokevirtual 205, 3) := by decide +kernel
theorem dX9_about_26 : decode cX9_about 26 = .ok (.ireturn, 1) := by decide +kernel
theorem dX9_about_27 : decode cX9_about 27 = .ok (.iload_n 1, 1) := by decide +kernel
theorem dX9_about_28 : decode cX9_about 28 = .ok (.tableswitch 60 0 2 #[28, 40, 52], 28) := by decide +kernel
theorem dX9_about_56 : decode cX9_about 56 = .ok (.aload_n 0, 1) := by decide +kernel
theorem dX9_about_57 : decode cX9_about 57 = .ok (.getfield 64, 3) := by decide +kernel
theorem dX9_about_60 : decode cX9_about 60 = .ok (.aload_n 0, 1) := by decide +kernel
theorem dX9_about_61 : decode cX9_about 61 = .ok (.getfield 10, 3) := by decide +kernel
theorem dX9_about_64 : decode cX9_about 64 = .ok (.invokevirtual 254, 3) := by decide +kernel
theorem dX9_about_67 : decode cX9_about 67 = .ok (.ireturn, 1) := by decide +kernel
theorem dX9_about_68 : decode cX9_about 68 = .ok (.aload_n 0, 1) := by decide +kernel
theorem dX9_about_69 : decode cX9_about 69 = .ok (.getfield 64, 3) := by decide +kernel
theorem dX9_about_72 : decode cX9_about 72 = .ok (.aload_n 0, 1) := by decide +kernel
theorem dX9_about_73 : decode cX9_about 73 = .ok (.getfield 144, 3) := by decide +kernel
theorem dX9_about_76 : decode cX9_about 76 = .ok (.invokevirtual 258, 3) := by decide +kernel
theorem dX9_about_79 : decode cX9_about 79 = .ok (.ireturn, 1) := by decide +kernel
theorem dX9_about_80 : decode cX9_about 80 = .ok (.aload_n 0, 1) := by decide +kernel
theorem dX9_about_81 : decode cX9_about 81 = .ok (.getfield 64, 3) := by decide +kernel
theorem dX9_about_84 : decode cX9_about 84 = .ok (.invokevirtual 261, 3) := by decide +kernel
theorem dX9_about_87 : decode cX9_about 87 = .ok (.ireturn, 1) := by decide +kernel
theorem dX9_about_88 : decode cX9_about 88 = .ok (.aload_n 0, 1) := by decide +kernel
theorem dX9_about_89 : decode cX9_about 89 = .ok (.getfield 64, 3) := by decide +kernel
theorem dX9_about_92 : decode cX9_about 92 = .ok (.invokevirtual 264, 3) := by decide +kernel
theorem dX9_about_95 : decode cX9_about 95 = .ok (.ireturn, 1) := by decide +kernel
theorem dX9_cheapest_0 : decode cX9_cheapest 0 = .ok (.iload_n 1, 1) := by decide +kernel
theorem dX9_cheapest_1 : decode cX9_cheapest 1 = .ok (.iconst 0, 1) := by decide +kernel
theorem dX9_cheapest_2 : decode cX9_cheapest 2 = .ok (.iconst 1, 1) := by decide +kernel
theorem dX9_cheapest_3 : decode cX9_cheapest 3 = .ok (.invokestatic 72, 3) := by decide +kernel
theorem dX9_cheapest_6 : decode cX9_cheapest 6 = .ok (.ifCond .ne 8, 3) := by decide +kernel
theorem dX9_cheapest_9 : decode cX9_cheapest 9 = .ok (.aload_n 0, 1) := by decide +kernel
theorem dX9_cheapest_10 : decode cX9_cheapest 10 = .ok (.invokevirtual 79, 3) := by decide +kernel
theorem dX9_cheapest_13 : decode cX9_cheapest 13 = .ok (.ireturn, 1) := by decide +kernel
theorem dX9_cheapest_14 : decode cX9_cheapest 14 = .ok (.aload_n 0, 1) := by decide +kernel
theorem dX9_cheapest_15 : decode cX9_cheapest 15 = .ok (.getfield 46, 3) := by decide +kernel
theorem dX9_cheapest_18 : decode cX9_cheapest 18 = .ok (.iconst (-1), 1) := by decide +kernel
theorem dX9_cheapest_19 : decode cX9_cheapest 19 = .ok (.invokevirtual 267, 3) := by decide +kernel
theorem dX9_cheapest_22 : decode cX9_cheapest 22 = .ok (.ifCond .ne 8, 3) := by decide +kernel
theorem dX9_cheapest_25 : decode cX9_cheapest 25 = .ok (.aload_n 0, 1) := by decide +kernel
theorem dX9_cheapest_26 : decode cX9_cheapest 26 = .ok (.invokevirtual 205, 3) := by decide +kernel
theorem dX9_cheapest_29 : decode cX9_cheapest 29 = .ok (.ireturn, 1) := by decide +kernel
theorem dX9_cheapest_30 : decode cX9_cheapest 30 = .ok (.iconst 0, 1) := by decide +kernel
theorem dX9_cheapest_31 : decode cX9_cheapest 31 = .ok (.istore_n 2, 1) := by decide +kernel
theorem dX9_cheapest_32 : decode cX9_cheapest 32 = .ok (.ldc_w 270, 3) := by decide +kernel
theorem dX9_cheapest_35 : decode cX9_cheapest 35 = .ok (.istore_n 3, 1) := by decide +kernel
theorem dX9_cheapest_36 : decode cX9_cheapest 36 = .ok (.iconst 0, 1) := by decide +kernel
theorem dX9_cheapest_37 : decode cX9_cheapest 37 = .ok (.istore 4, 2) := by decide +kernel
theorem dX9_cheapest_39 : decode cX9_cheapest 39 = .ok (.iload 4, 2) := by decide +kernel
theorem dX9_cheapest_41 : decode cX9_cheapest 41 = .ok (.iconst 5, 1) := by decide +kernel
theorem dX9_cheapest_42 : decode cX9_cheapest 42 = .ok (.if_icmp .ge 40, 3) := by decide +kernel
theorem dX9_cheapest_45 : decode cX9_cheapest 45 = .ok (.aload_n 0, 1) := by decide +kernel
theorem dX9_cheapest_46 : decode cX9_cheapest 46 = .ok (.getfield 64, 3) := by decide +kernel
theorem dX9_cheapest_49 : decode cX9_cheapest 49 = .ok (.iload 4, 2) := by decide +kernel
theorem dX9_cheapest_51 : decode cX9_cheapest 51 = .ok (.invokevirtual 271, 3) := by decide +kernel
theorem dX9_cheapest_54 : decode cX9_cheapest 54 = .ok (.aload_n 0, 1) := by decide +kernel
theorem dX9_cheapest_55 : decode cX9_cheapest 55 = .ok (.getfield 64, 3) := by decide +kernel
theorem dX9_cheapest_58 : decode cX9_cheapest 58 = .ok (.invokevirtual 239, 3) := by decide +kernel
theorem dX9_cheapest_61 : decode cX9_cheapest 61 = .ok (.iload_n 3, 1) := by decide +kernel
theorem dX9_cheapest_62 : decode cX9_cheapest 62 = .ok (.if_icmp .ge 14, 3) := by decide +kernel
theorem dX9_cheapest_65 : decode cX9_cheapest 65 = .ok (.iload 4, 2) := by decide +kernel
theorem dX9_cheapest_67 : decode cX9_cheapest 67 = .ok (.istore_n 2, 1) := by decide +kernel
theorem dX9_cheapest_68 : decode cX9_cheapest 68 = .ok (.aload_n 0, 1) := by decide +kernel
theorem dX9_cheapest_69 : decode cX9_cheapest 69 = .ok (.getfield 64, 3) := by decide +kernel
theorem dX9_cheapest_72 : decode cX9_cheapest 72 = .ok (.invokevirtual 239, 3) := by decide +kernel
theorem dX9_cheapest_75 : decode cX9_cheapest 75 = .ok (.istore_n 3, 1) := by decide +kernel
theorem dX9_cheapest_76 : decode cX9_cheapest 76 = .ok (.iinc 4 1, 3) := by decide +kernel
theorem dX9_cheapest_79 : decode cX9_cheapest 79 = .ok (.goto (-40), 3) := by decide +kernel
theorem dX9_cheapest_82 : decode cX9_cheapest 82 = .ok (.iload_n 1, 1) := by decide +kernel
theorem dX9_cheapest_83 : decode cX9_cheapest 83 = .ok (.ifCond .ne 7, 3) := by decide +kernel
theorem dX9_cheapest_86 : decode cX9_cheapest 86 = .ok (.iload_n 2, 1) := by decide +kernel
theorem dX9_cheapest_87 : decode cX9_cheapest 87 = .ok (.goto 4, 3) := by decide +kernel
theorem dX9_cheapest_90 : decode cX9_cheapest 90 = .ok (.iload_n 3, 1) := by decide +kernel
theorem dX9_cheapest_91 : decode cX9_cheapest 91 = .ok (.ireturn, 1) := by decide +kernel
theorem dX9_told_0 : decode cX9_told 0 = .ok (.iload_n 1, 1) := by decide +kernel
theorem dX9_told_1 : decode cX9_told 1 = .ok (.tableswitch 87 0 6 #[43, 48, 53, 58, 66, 74, 82], 43) := by decide +kernel
theorem dX9_told_44 : decode cX9_told 44 = .ok (.aload_n 0, 1) := by decide +kernel
theorem dX9_told_45 : decode cX9_told 45 = .ok (.getfield 202, 3) := by decide +kernel
theorem dX9_told_48 : decode cX9_told 48 = .ok (.ireturn, 1) := by decide +kernel
theorem dX9_told_49 : decode cX9_told 49 = .ok (.aload_n 0, 1) := by decide +kernel
theorem dX9_told_50 : decode cX9_told 50 = .ok (.getfield 274, 3) := by decide +kernel
theorem dX9_told_53 : decode cX9_told 53 = .ok (.ireturn, 1) := by decide +kernel
theorem dX9_told_54 : decode cX9_told 54 = .ok (.aload_n 0, 1) := by decide +kernel
theorem dX9_told_55 : decode cX9_told 55 = .ok (.getfield 277, 3) := by decide +kernel
theorem dX9_told_58 : decode cX9_told 58 = .ok (.ireturn, 1) := by decide +kernel
theorem dX9_told_59 : decode cX9_told 59 = .ok (.aload_n 0, 1) := by decide +kernel
theorem dX9_told_60 : decode cX9_told 60 = .ok (.getfield 33, 3) := by decide +kernel
theorem dX9_told_63 : decode cX9_told 63 = .ok (.getfield 147, 3) := by decide +kernel
theorem dX9_told_66 : decode cX9_told 66 = .ok (.ireturn, 1) := by decide +kernel
theorem dX9_told_67 : decode cX9_told 67 = .ok (.aload_n 0, 1) := by decide +kernel
theorem dX9_told_68 : decode cX9_told 68 = .ok (.getfield 10, 3) := by decide +kernel
theorem dX9_told_71 : decode cX9_told 71 = .ok (.getfield 83, 3) := by decide +kernel
theorem dX9_told_74 : decode cX9_told 74 = .ok (.ireturn, 1) := by decide +kernel
theorem dX9_told_75 : decode cX9_told 75 = .ok (.aload_n 0, 1) := by decide +kernel
theorem dX9_told_76 : decode cX9_told 76 = .ok (.getfield 19, 3) := by decide +kernel
theorem dX9_told_79 : decode cX9_told 79 = .ok (.getfield 163, 3) := by decide +kernel
theorem dX9_told_82 : decode cX9_told 82 = .ok (.ireturn, 1) := by decide +kernel
theorem dX9_told_83 : decode cX9_told 83 = .ok (.aload_n 0, 1) := by decide +kernel
theorem dX9_told_84 : decode cX9_told 84 = .ok (.getfield 144, 3) := by decide +kernel
theorem dX9_told_87 : decode cX9_told 87 = .ok (.ireturn, 1) := by decide +kernel
theorem dX9_told_88 : decode cX9_told 88 = .ok (.aload_n 0, 1) := by decide +kernel
theorem dX9_told_89 : decode cX9_told 89 = .ok (.invokevirtual 79, 3) := by decide +kernel
theorem dX9_told_92 : decode cX9_told 92 = .ok (.ireturn, 1) := by decide +kernel
theorem dX9_digest_0 : decode cX9_digest 0 = .ok (.ldc2_w 280, 3) := by decide +kernel
theorem dX9_digest_3 : decode cX9_digest 3 = .ok (.lstore_n 1, 1) := by decide +kernel
theorem dX9_digest_4 : decode cX9_digest 4 = .ok (.iconst 0, 1) := by decide +kernel
theorem dX9_digest_5 : decode cX9_digest 5 = .ok (.istore_n 3, 1) := by decide +kernel
theorem dX9_digest_6 : decode cX9_digest 6 = .ok (.iload_n 3, 1) := by decide +kernel
theorem dX9_digest_7 : decode cX9_digest 7 = .ok (.bipush 6, 2) := by decide +kernel
theorem dX9_digest_9 : decode cX9_digest 9 = .ok (.if_icmp .gt 22, 3) := by decide +kernel
theorem dX9_digest_12 : decode cX9_digest 12 = .ok (.ldc2_w 282, 3) := by decide +kernel
theorem dX9_digest_15 : decode cX9_digest 15 = .ok (.lload_n 1, 1) := by decide +kernel
theorem dX9_digest_16 : decode cX9_digest 16 = .ok (.lmul, 1) := by decide +kernel
theorem dX9_digest_17 : decode cX9_digest 17 = .ok (.aload_n 0, 1) := by decide +kernel
theorem dX9_digest_18 : decode cX9_digest 18 = .ok (.iload_n 3, 1) := by decide +kernel
theorem dX9_digest_19 : decode cX9_digest 19 = .ok (.invokevirtual 284, 3) := by decide +kernel
theorem dX9_digest_22 : decode cX9_digest 22 = .ok (.i2l, 1) := by decide +kernel
theorem dX9_digest_23 : decode cX9_digest 23 = .ok (.ladd, 1) := by decide +kernel
theorem dX9_digest_24 : decode cX9_digest 24 = .ok (.lstore_n 1, 1) := by decide +kernel
theorem dX9_digest_25 : decode cX9_digest 25 = .ok (.iinc 3 1, 3) := by decide +kernel
theorem dX9_digest_28 : decode cX9_digest 28 = .ok (.goto (-22), 3) := by decide +kernel
theorem dX9_digest_31 : decode cX9_digest 31 = .ok (.iconst 0, 1) := by decide +kernel
theorem dX9_digest_32 : decode cX9_digest 32 = .ok (.istore_n 3, 1) := by decide +kernel
theorem dX9_digest_33 : decode cX9_digest 33 = .ok (.iload_n 3, 1) := by decide +kernel
theorem dX9_digest_34 : decode cX9_digest 34 = .ok (.aload_n 0, 1) := by decide +kernel
theorem dX9_digest_35 : decode cX9_digest 35 = .ok (.getfield 10, 3) := by decide +kernel
theorem dX9_digest_38 : decode cX9_digest 38 = .ok (.getfield 83, 3) := by decide +kernel
theorem dX9_digest_41 : decode cX9_digest 41 = .ok (.if_icmp .ge 39, 3) := by decide +kernel
theorem dX9_digest_44 : decode cX9_digest 44 = .ok (.iconst 0, 1) := by decide +kernel
theorem dX9_digest_45 : decode cX9_digest 45 = .ok (.istore 4, 2) := by decide +kernel
theorem dX9_digest_47 : decode cX9_digest 47 = .ok (.iload 4, 2) := by decide +kernel
theorem dX9_digest_49 : decode cX9_digest 49 = .ok (.iconst 5, 1) := by decide +kernel
theorem dX9_digest_50 : decode cX9_digest 50 = .ok (.if_icmp .gt 24, 3) := by decide +kernel
theorem dX9_digest_53 : decode cX9_digest 53 = .ok (.ldc2_w 282, 3) := by decide +kernel
theorem dX9_digest_56 : decode cX9_digest 56 = .ok (.lload_n 1, 1) := by decide +kernel
theorem dX9_digest_57 : decode cX9_digest 57 = .ok (.lmul, 1) := by decide +kernel
theorem dX9_digest_58 : decode cX9_digest 58 = .ok (.aload_n 0, 1) := by decide +kernel
theorem dX9_digest_59 : decode cX9_digest 59 = .ok (.iload_n 3, 1) := by decide +kernel
theorem dX9_digest_60 : decode cX9_digest 60 = .ok (.iload 4, 2) := by decide +kernel
theorem dX9_digest_62 : decode cX9_digest 62 = .ok (.invokevirtual 287, 3) := by decide +kernel
theorem dX9_digest_65 : decode cX9_digest 65 = .ok (.i2l, 1) := by decide +kernel
theorem dX9_digest_66 : decode cX9_digest 66 = .ok (.ladd, 1) := by decide +kernel
theorem dX9_digest_67 : decode cX9_digest 67 = .ok (.lstore_n 1, 1) := by decide +kernel
theorem dX9_digest_68 : decode cX9_digest 68 = .ok (.iinc 4 1, 3) := by decide +kernel
theorem dX9_digest_71 : decode cX9_digest 71 = .ok (.goto (-24), 3) := by decide +kernel
theorem dX9_digest_74 : decode cX9_digest 74 = .ok (.iinc 3 1, 3) := by decide +kernel
theorem dX9_digest_77 : decode cX9_digest 77 = .ok (.goto (-44), 3) := by decide +kernel
theorem dX9_digest_80 : decode cX9_digest 80 = .ok (.iconst 0, 1) := by decide +kernel
theorem dX9_digest_81 : decode cX9_digest 81 = .ok (.istore_n 3, 1) := by decide +kernel
theorem dX9_digest_82 : decode cX9_digest 82 = .ok (.iload_n 3, 1) := by decide +kernel
theorem dX9_digest_83 : decode cX9_digest 83 = .ok (.bipush 6, 2) := by decide +kernel
theorem dX9_digest_85 : decode cX9_digest 85 = .ok (.if_icmp .ge 23, 3) := by decide +kernel
theorem dX9_digest_88 : decode cX9_digest 88 = .ok (.ldc2_w 282, 3) := by decide +kernel
theorem dX9_digest_91 : decode cX9_digest 91 = .ok (.lload_n 1, 1) := by decide +kernel
theorem dX9_digest_92 : decode cX9_digest 92 = .ok (.lmul, 1) := by decide +kernel
theorem dX9_digest_93 : decode cX9_digest 93 = .ok (.aload_n 0, 1) := by decide +kernel
theorem dX9_digest_94 : decode cX9_digest 94 = .ok (.getfield 37, 3) := by decide +kernel
theorem dX9_digest_97 : decode cX9_digest 97 = .ok (.iload_n 3, 1) := by decide +kernel
theorem dX9_digest_98 : decode cX9_digest 98 = .ok (.iaload, 1) := by decide +kernel
theorem dX9_digest_99 : decode cX9_digest 99 = .ok (.i2l, 1) := by decide +kernel
theorem dX9_digest_100 : decode cX9_digest 100 = .ok (.ladd, 1) := by decide +kernel
theorem dX9_digest_101 : decode cX9_digest 101 = .ok (.lstore_n 1, 1) := by decide +kernel
theorem dX9_digest_102 : decode cX9_digest 102 = .ok (.iinc 3 1, 3) := by decide +kernel
theorem dX9_digest_105 : decode cX9_digest 105 = .ok (.goto (-23), 3) := by decide +kernel
theorem dX9_digest_108 : decode cX9_digest 108 = .ok (.iconst 0, 1) := by decide +kernel
theorem dX9_digest_109 : decode cX9_digest 109 = .ok (.istore_n 3, 1) := by decide +kernel
theorem dX9_digest_110 : decode cX9_digest 110 = .ok (.iload_n 3, 1) := by decide +kernel
theorem dX9_digest_111 : decode cX9_digest 111 = .ok (.aload_n 0, 1) := by decide +kernel
theorem dX9_digest_112 : decode cX9_digest 112 = .ok (.getfield 19, 3) := by decide +kernel
theorem dX9_digest_115 : decode cX9_digest 115 = .ok (.getfield 163, 3) := by decide +kernel
theorem dX9_digest_118 : decode cX9_digest 118 = .ok (.if_icmp .ge 39, 3) := by decide +kernel
theorem dX9_digest_121 : decode cX9_digest 121 = .ok (.iconst 0, 1) := by decide +kernel
theorem dX9_digest_122 : decode cX9_digest 122 = .ok (.istore 4, 2) := by decide +kernel
theorem dX9_digest_124 : decode cX9_digest 124 = .ok (.iload 4, 2) := by decide +kernel
theorem dX9_digest_126 : decode cX9_digest 126 = .ok (.iconst 2, 1) := by decide +kernel
theorem dX9_digest_127 : decode cX9_digest 127 = .ok (.if_icmp .gt 24, 3) := by decide +kernel
theorem dX9_digest_130 : decode cX9_digest 130 = .ok (.ldc2_w 282, 3) := by decide +kernel
theorem dX9_digest_133 : decode cX9_digest 133 = .ok (.lload_n 1, 1) := by decide +kernel
theorem dX9_digest_134 : decode cX9_digest 134 = .ok (.lmul, 1) := by decide +kernel
theorem dX9_digest_135 : decode cX9_digest 135 = .ok (.aload_n 0, 1) := by decide +kernel
theorem dX9_digest_136 : decode cX9_digest 136 = .ok (.iload_n 3, 1) := by decide +kernel
theorem dX9_digest_137 : decode cX9_digest 137 = .ok (.iload 4, 2) := by decide +kernel
theorem dX9_digest_139 : decode cX9_digest 139 = .ok (.invokevirtual 290, 3) := by decide +kernel
theorem dX9_digest_142 : decode cX9_digest 142 = .ok (.i2l, 1) := by decide +kernel
theorem dX9_digest_143 : decode cX9_digest 143 = .ok (.ladd, 1) := by decide +kernel
theorem dX9_digest_144 : decode cX9_digest 144 = .ok (.lstore_n 1, 1) := by decide +kernel
theorem dX9_digest_145 : decode cX9_digest 145 = .ok (.iinc 4 1, 3) := by decide +kernel
theorem dX9_digest_148 : decode cX9_digest 148 = .ok (.goto (-24), 3) := by decide +kernel
theorem dX9_digest_151 : decode cX9_digest 151 = .ok (.iinc 3 1, 3) := by decide +kernel
theorem dX9_digest_154 : decode cX9_digest 154 = .ok (.goto (-44), 3) := by decide +kernel
theorem dX9_digest_157 : decode cX9_digest 157 = .ok (.ldc2_w 282, 3) := by decide +kernel
theorem dX9_digest_160 : decode cX9_digest 160 = .ok (.lload_n 1, 1) := by decide +kernel
theorem dX9_digest_161 : decode cX9_digest 161 = .ok (.lmul, 1) := by decide +kernel
theorem dX9_digest_162 : decode cX9_digest 162 = .ok (.aload_n 0, 1) := by decide +kernel
theorem dX9_digest_163 : decode cX9_digest 163 = .ok (.getfield 26, 3) := by decide +kernel
theorem dX9_digest_166 : decode cX9_digest 166 = .ok (.getfield 168, 3) := by decide +kernel
theorem dX9_digest_169 : decode cX9_digest 169 = .ok (.i2l, 1) := by decide +kernel
theorem dX9_digest_170 : decode cX9_digest 170 = .ok (.ladd, 1) := by decide +kernel
theorem dX9_digest_171 : decode cX9_digest 171 = .ok (.lstore_n 1, 1) := by decide +kernel
theorem dX9_digest_172 : decode cX9_digest 172 = .ok (.ldc2_w 282, 3) := by decide +kernel
theorem dX9_digest_175 : decode cX9_digest 175 = .ok (.lload_n 1, 1) := by decide +kernel
theorem dX9_digest_176 : decode cX9_digest 176 = .ok (.lmul, 1) := by decide +kernel
theorem dX9_digest_177 : decode cX9_digest 177 = .ok (.aload_n 0, 1) := by decide +kernel
theorem dX9_digest_178 : decode cX9_digest 178 = .ok (.getfield 26, 3) := by decide +kernel
theorem dX9_digest_181 : decode cX9_digest 181 = .ok (.getfield 184, 3) := by decide +kernel
theorem dX9_digest_184 : decode cX9_digest 184 = .ok (.i2l, 1) := by decide +kernel
theorem dX9_digest_185 : decode cX9_digest 185 = .ok (.ladd, 1) := by decide +kernel
theorem dX9_digest_186 : decode cX9_digest 186 = .ok (.lstore_n 1, 1) := by decide +kernel
theorem dX9_digest_187 : decode cX9_digest 187 = .ok (.aload_n 0, 1) := by decide +kernel
theorem dX9_digest_188 : decode cX9_digest 188 = .ok (.iconst (-1), 1) := by decide +kernel
theorem dX9_digest_189 : decode cX9_digest 189 = .ok (.invokevirtual 236, 3) := by decide +kernel
theorem dX9_digest_192 : decode cX9_digest 192 = .ok (.ifCond .ne 13, 3) := by decide +kernel
theorem dX9_digest_195 : decode cX9_digest 195 = .ok (.ldc2_w 282, 3) := by decide +kernel
theorem dX9_digest_198 : decode cX9_digest 198 = .ok (.lload_n 1, 1) := by decide +kernel
theorem dX9_digest_199 : decode cX9_digest 199 = .ok (.lmul, 1) := by decide +kernel
theorem dX9_digest_200 : decode cX9_digest 200 = .ok (.ldc2_w 293, 3) := by decide +kernel
theorem dX9_digest_203 : decode cX9_digest 203 = .ok (.ladd, 1) := by decide +kernel
theorem dX9_digest_204 : decode cX9_digest 204 = .ok (.lreturn, 1) := by decide +kernel
theorem dX9_digest_205 : decode cX9_digest 205 = .ok (.ldc2_w 282, 3) := by decide +kernel
theorem dX9_digest_208 : decode cX9_digest 208 = .ok (.lload_n 1, 1) := by decide +kernel
theorem dX9_digest_209 : decode cX9_digest 209 = .ok (.lmul, 1) := by decide +kernel
theorem dX9_digest_210 : decode cX9_digest 210 = .ok (.aload_n 0, 1) := by decide +kernel
theorem dX9_digest_211 : decode cX9_digest 211 = .ok (.getfield 64, 3) := by decide +kernel
theorem dX9_digest_214 : decode cX9_digest 214 = .ok (.invokevirtual 239, 3) := by decide +kernel
theorem dX9_digest_217 : decode cX9_digest 217 = .ok (.i2l, 1) := by decide +kernel
theorem dX9_digest_218 : decode cX9_digest 218 = .ok (.ladd, 1) := by decide +kernel
theorem dX9_digest_219 : decode cX9_digest 219 = .ok (.lstore_n 1, 1) := by decide +kernel
theorem dX9_digest_220 : decode cX9_digest 220 = .ok (.iconst 0, 1) := by decide +kernel
theorem dX9_digest_221 : decode cX9_digest 221 = .ok (.istore_n 3, 1) := by decide +kernel
theorem dX9_digest_222 : decode cX9_digest 222 = .ok (.iload_n 3, 1) := by decide +kernel
theorem dX9_digest_223 : decode cX9_digest 223 = .ok (.aload_n 0, 1) := by decide +kernel
theorem dX9_digest_224 : decode cX9_digest 224 = .ok (.getfield 19, 3) := by decide +kernel
theorem dX9_digest_227 : decode cX9_digest 227 = .ok (.getfield 163, 3) := by decide +kernel
theorem dX9_digest_230 : decode cX9_digest 230 = .ok (.if_icmp .ge 26, 3) := by decide +kernel
theorem dX9_digest_233 : decode cX9_digest 233 = .ok (.ldc2_w 282, 3) := by decide +kernel
theorem dX9_digest_236 : decode cX9_digest 236 = .ok (.lload_n 1, 1) := by decide +kernel
theorem dX9_digest_237 : decode cX9_digest 237 = .ok (.lmul, 1) := by decide +kernel
theorem dX9_digest_238 : decode cX9_digest 238 = .ok (.aload_n 0, 1) := by decide +kernel
theorem dX9_digest_239 : decode cX9_digest 239 = .ok (.getfield 64, 3) := by decide +kernel
theorem dX9_digest_242 : decode cX9_digest 242 = .ok (.getfield 242, 3) := by decide +kernel
theorem dX9_digest_245 : decode cX9_digest 245 = .ok (.iload_n 3, 1) := by decide +kernel
theorem dX9_digest_246 : decode cX9_digest 246 = .ok (.iaload, 1) := by decide +kernel
theorem dX9_digest_247 : decode cX9_digest 247 = .ok (.i2l, 1) := by decide +kernel
theorem dX9_digest_248 : decode cX9_digest 248 = .ok (.ladd, 1) := by decide +kernel
theorem dX9_digest_249 : decode cX9_digest 249 = .ok (.lstore_n 1, 1) := by decide +kernel
theorem dX9_digest_250 : decode cX9_digest 250 = .ok (.iinc 3 1, 3) := by decide +kernel
theorem dX9_digest_253 : decode cX9_digest 253 = .ok (.goto (-31), 3) := by decide +kernel
theorem dX9_digest_256 : decode cX9_digest 256 = .ok (.lload_n 1, 1) := by decide +kernel
theorem dX9_digest_257 : decode cX9_digest 257 = .ok (.lreturn, 1) := by decide +kernel
theorem dX9_findChain_0 : decode cX9_findChain 0 = .ok (.aload_n 0, 1) := by decide +kernel
theorem dX9_findChain_1 : decode cX9_findChain 1 = .ok (.getfield 46, 3) := by decide +kernel
theorem dX9_findChain_4 : decode cX9_findChain 4 = .ok (.iload_n 1, 1) := by decide +kernel
theorem dX9_findChain_5 : decode cX9_findChain 5 = .ok (.invokevirtual 267, 3) := by decide +kernel
theorem dX9_findChain_8 : decode cX9_findChain 8 = .ok (.ifCond .ne 5, 3) := by decide +kernel
theorem dX9_findChain_11 : decode cX9_findChain 11 = .ok (.iconst 0, 1) := by decide +kernel
theorem dX9_findChain_12 : decode cX9_findChain 12 = .ok (.ireturn, 1) := by decide +kernel
theorem dX9_findChain_13 : decode cX9_findChain 13 = .ok (.aload_n 0, 1) := by decide +kernel
theorem dX9_findChain_14 : decode cX9_findChain 14 = .ok (.getfield 64, 3) := by decide +kernel
theorem dX9_findChain_17 : decode cX9_findChain 17 = .ok (.aload_n 0, 1) := by decide +kernel
theorem dX9_findChain_18 : decode cX9_findChain 18 = .ok (.getfield 144, 3) := by decide +kernel
theorem dX9_findChain_21 : decode cX9_findChain 21 = .ok (.invokevirtual 271, 3) := by decide +kernel
theorem dX9_findChain_24 : decode cX9_findChain 24 = .ok (.aload_n 0, 1) := by decide +kernel
theorem dX9_findChain_25 : decode cX9_findChain 25 = .ok (.getfield 64, 3) := by decide +kernel
theorem dX9_findChain_28 : decode cX9_findChain 28 = .ok (.invokevirtual 295, 3) := by decide +kernel
theorem dX9_findChain_31 : decode cX9_findChain 31 = .ok (.iconst 1, 1) := by decide +kernel
theorem dX9_findChain_32 : decode cX9_findChain 32 = .ok (.ireturn, 1) := by decide +kernel
theorem dX9_emptyLeaves_0 : decode cX9_emptyLeaves 0 = .ok (.lconst 0, 1) := by decide +kernel
theorem dX9_emptyLeaves_1 : decode cX9_emptyLeaves 1 = .ok (.lstore_n 1, 1) := by decide +kernel
theorem dX9_emptyLeaves_2 : decode cX9_emptyLeaves 2 = .ok (.iconst 0, 1) := by decide +kernel
theorem dX9_emptyLeaves_3 : decode cX9_emptyLeaves 3 = .ok (.istore_n 3, 1) := by decide +kernel
theorem dX9_emptyLeaves_4 : decode cX9_emptyLeaves 4 = .ok (.iload_n 3, 1) := by decide +kernel
theorem dX9_emptyLeaves_5 : decode cX9_emptyLeaves 5 = .ok (.aload_n 0, 1) := by decide +kernel
theorem dX9_emptyLeaves_6 : decode cX9_emptyLeaves 6 = .ok (.getfield 10, 3) := by decide +kernel
theorem dX9_emptyLeaves_9 : decode cX9_emptyLeaves 9 = .ok (.getfield 83, 3) := by decide +kernel
theorem dX9_emptyLeaves_12 : decode cX9_emptyLeaves 12 = .ok (.if_icmp .ge 29, 3) := by decide +kernel
theorem dX9_emptyLeaves_15 : decode cX9_emptyLeaves 15 = .ok (.lload_n 1, 1) := by decide +kernel
theorem dX9_emptyLeaves_16 : decode cX9_emptyLeaves 16 = .ok (.lconst 1, 1) := by decide +kernel
theorem dX9_emptyLeaves_17 : decode cX9_emptyLeaves 17 = .ok (.aload_n 0, 1) := by decide +kernel
theorem dX9_emptyLeaves_18 : decode cX9_emptyLeaves 18 = .ok (.getfield 26, 3) := by decide +kernel
theorem dX9_emptyLeaves_21 : decode cX9_emptyLeaves 21 = .ok (.aload_n 0, 1) := by decide +kernel
theorem dX9_emptyLeaves_22 : decode cX9_emptyLeaves 22 = .ok (.getfield 46, 3) := by decide +kernel
theorem dX9_emptyLeaves_25 : decode cX9_emptyLeaves 25 = .ok (.iload_n 3, 1) := by decide +kernel
theorem dX9_emptyLeaves_26 : decode cX9_emptyLeaves 26 = .ok (.invokevirtual 190, 3) := by decide +kernel
theorem dX9_emptyLeaves_29 : decode cX9_emptyLeaves 29 = .ok (.invokevirtual 193, 3) := by decide +kernel
theorem dX9_emptyLeaves_32 : decode cX9_emptyLeaves 32 = .ok (.lshl, 1) := by decide +kernel
theorem dX9_emptyLeaves_33 : decode cX9_emptyLeaves 33 = .ok (.lor, 1) := by decide +kernel
theorem dX9_emptyLeaves_34 : decode cX9_emptyLeaves 34 = .ok (.lstore_n 1, 1) := by decide +kernel
theorem dX9_emptyLeaves_35 : decode cX9_emptyLeaves 35 = .ok (.iinc 3 1, 3) := by decide +kernel
theorem dX9_emptyLeaves_38 : decode cX9_emptyLeaves 38 = .ok (.goto (-34), 3) := by decide +kernel
theorem dX9_emptyLeaves_41 : decode cX9_emptyLeaves 41 = .ok (.aload_n 0, 1) := by decide +kernel
theorem dX9_emptyLeaves_42 : decode cX9_emptyLeaves 42 = .ok (.getfield 26, 3) := by decide +kernel
theorem dX9_emptyLeaves_45 : decode cX9_emptyLeaves 45 = .ok (.getfield 168, 3) := by decide +kernel
theorem dX9_emptyLeaves_48 : decode cX9_emptyLeaves 48 = .ok (.lload_n 1, 1) := by decide +kernel
theorem dX9_emptyLeaves_49 : decode cX9_emptyLeaves 49 = .ok (.invokestatic 298, 3) := by decide +kernel
theorem dX9_emptyLeaves_52 : decode cX9_emptyLeaves 52 = .ok (.isub, 1) := by decide +kernel
theorem dX9_emptyLeaves_53 : decode cX9_emptyLeaves 53 = .ok (.ireturn, 1) := by decide +kernel
theorem dX9_isUnit_0 : decode cX9_isUnit 0 = .ok (.iload_n 1, 1) := by decide +kernel
theorem dX9_isUnit_1 : decode cX9_isUnit 1 = .ok (.ifCond .lt 18, 3) := by decide +kernel
theorem dX9_isUnit_4 : decode cX9_isUnit 4 = .ok (.iload_n 1, 1) := by decide +kernel
theorem dX9_isUnit_5 : decode cX9_isUnit 5 = .ok (.aload_n 0, 1) := by decide +kernel
theorem dX9_isUnit_6 : decode cX9_isUnit 6 = .ok (.getfield 10, 3) := by decide +kernel
theorem dX9_isUnit_9 : decode cX9_isUnit 9 = .ok (.getfield 83, 3) := by decide +kernel
theorem dX9_isUnit_12 : decode cX9_isUnit 12 = .ok (.if_icmp .ge 7, 3) := by decide +kernel
theorem dX9_isUnit_15 : decode cX9_isUnit 15 = .ok (.iconst 1, 1) := by decide +kernel
theorem dX9_isUnit_16 : decode cX9_isUnit 16 = .ok (.goto 4, 3) := by decide +kernel
theorem dX9_isUnit_19 : decode cX9_isUnit 19 = .ok (.iconst 0, 1) := by decide +kernel
theorem dX9_isUnit_20 : decode cX9_isUnit 20 = .ok (.ireturn, 1) := by decide +kernel
theorem dX9_isTarget_0 : decode cX9_isTarget 0 = .ok (.iload_n 1, 1) := by decide +kernel
theorem dX9_isTarget_1 : decode cX9_isTarget 1 = .ok (.ifCond .lt 18, 3) := by decide +kernel
theorem dX9_isTarget_4 : decode cX9_isTarget 4 = .ok (.iload_n 1, 1) := by decide +kernel
theorem dX9_isTarget_5 : decode cX9_isTarget 5 = .ok (.aload_n 0, 1) := by decide +kernel
theorem dX9_isTarget_6 : decode cX9_isTarget 6 = .ok (.getfield 19, 3) := by decide +kernel
theorem dX9_isTarget_9 : decode cX9_isTarget 9 = .ok (.getfield 163, 3) := by decide +kernel
theorem dX9_isTarget_12 : decode cX9_isTarget 12 = .ok (.if_icmp .ge 7, 3) := by decide +kernel
theorem dX9_isTarget_15 : decode cX9_isTarget 15 = .ok (.iconst 1, 1) := by decide +kernel
theorem dX9_isTarget_16 : decode cX9_isTarget 16 = .ok (.goto 4, 3) := by decide +kernel
theorem dX9_isTarget_19 : decode cX9_isTarget 19 = .ok (.iconst 0, 1) := by decide +kernel
theorem dX9_isTarget_20 : decode cX9_isTarget 20 = .ok (.ireturn, 1) := by decide +kernel
theorem dX9_isPlace_0 : decode cX9_isPlace 0 = .ok (.aload_n 0, 1) := by decide +kernel
theorem dX9_isPlace_1 : decode cX9_isPlace 1 = .ok (.getfield 19, 3) := by decide +kernel
theorem dX9_isPlace_4 : decode cX9_isPlace 4 = .ok (.getfield 163, 3) := by decide +kernel
theorem dX9_isPlace_7 : decode cX9_isPlace 7 = .ok (.ifCond .ne 13, 3) := by decide +kernel
theorem dX9_isPlace_10 : decode cX9_isPlace 10 = .ok (.iload_n 1, 1) := by decide +kernel
theorem dX9_isPlace_11 : decode cX9_isPlace 11 = .ok (.iconst 0, 1) := by decide +kernel
theorem dX9_isPlace_12 : decode cX9_isPlace 12 = .ok (.bipush 7, 2) := by decide +kernel
theorem dX9_isPlace_14 : decode cX9_isPlace 14 = .ok (.invokestatic 72, 3) := by decide +kernel
theorem dX9_isPlace_17 : decode cX9_isPlace 17 = .ok (.goto 8, 3) := by decide +kernel
theorem dX9_isPlace_20 : decode cX9_isPlace 20 = .ok (.aload_n 0, 1) := by decide +kernel
theorem dX9_isPlace_21 : decode cX9_isPlace 21 = .ok (.iload_n 1, 1) := by decide +kernel
theorem dX9_isPlace_22 : decode cX9_isPlace 22 = .ok (.invokevirtual 171, 3) := by decide +kernel
theorem dX9_isPlace_25 : decode cX9_isPlace 25 = .ok (.ireturn, 1) := by decide +kernel
theorem dX9_isSound_0 : decode cX9_isSound 0 = .ok (.iload_n 0, 1) := by decide +kernel
theorem dX9_isSound_1 : decode cX9_isSound 1 = .ok (.iconst 0, 1) := by decide +kernel
theorem dX9_isSound_2 : decode cX9_isSound 2 = .ok (.iconst 5, 1) := by decide +kernel
theorem dX9_isSound_3 : decode cX9_isSound 3 = .ok (.invokestatic 72, 3) := by decide +kernel
theorem dX9_isSound_6 : decode cX9_isSound 6 = .ok (.ireturn, 1) := by decide +kernel
theorem dX9_isTake_0 : decode cX9_isTake 0 = .ok (.iload_n 0, 1) := by decide +kernel
theorem dX9_isTake_1 : decode cX9_isTake 1 = .ok (.iconst 0, 1) := by decide +kernel
theorem dX9_isTake_2 : decode cX9_isTake 2 = .ok (.iconst 3, 1) := by decide +kernel
theorem dX9_isTake_3 : decode cX9_isTake 3 = .ok (.invokestatic 72, 3) := by decide +kernel
theorem dX9_isTake_6 : decode cX9_isTake 6 = .ok (.ireturn, 1) := by decide +kernel
theorem dX9_within_0 : decode cX9_within 0 = .ok (.iload_n 0, 1) := by decide +kernel
theorem dX9_within_1 : decode cX9_within 1 = .ok (.iload_n 1, 1) := by decide +kernel
theorem dX9_within_2 : decode cX9_within 2 = .ok (.if_icmp .lt 12, 3) := by decide +kernel
theorem dX9_within_5 : decode cX9_within 5 = .ok (.iload_n 0, 1) := by decide +kernel
theorem dX9_within_6 : decode cX9_within 6 = .ok (.iload_n 2, 1) := by decide +kernel
theorem dX9_within_7 : decode cX9_within 7 = .ok (.if_icmp .gt 7, 3) := by decide +kernel
theorem dX9_within_10 : decode cX9_within 10 = .ok (.iconst 1, 1) := by decide +kernel
theorem dX9_within_11 : decode cX9_within 11 = .ok (.goto 4, 3) := by decide +kernel
theorem dX9_within_14 : decode cX9_within 14 = .ok (.iconst 0, 1) := by decide +kernel
theorem dX9_within_15 : decode cX9_within 15 = .ok (.ireturn, 1) := by decide +kernel
theorem dX9_bad_0 : decode cX9_bad 0 = .ok (.aload_n 0, 1) := by decide +kernel
theorem dX9_bad_1 : decode cX9_bad 1 = .ok (.dup, 1) := by decide +kernel
theorem dX9_bad_2 : decode cX9_bad 2 = .ok (.getfield 202, 3) := by decide +kernel
theorem dX9_bad_5 : decode cX9_bad 5 = .ok (.iconst 1, 1) := by decide +kernel
theorem dX9_bad_6 : decode cX9_bad 6 = .ok (.iadd, 1) := by decide +kernel
theorem dX9_bad_7 : decode cX9_bad 7 = .ok (.putfield 202, 3) := by decide +kernel
theorem dX9_bad_10 : decode cX9_bad 10 = .ok (.bipush (-2), 2) := by decide +kernel
theorem dX9_bad_12 : decode cX9_bad 12 = .ok (.ireturn, 1) := by decide +kernel
theorem dX9_no_0 : decode cX9_no 0 = .ok (.aload_n 0, 1) := by decide +kernel
theorem dX9_no_1 : decode cX9_no 1 = .ok (.dup, 1) := by decide +kernel
theorem dX9_no_2 : decode cX9_no 2 = .ok (.getfield 274, 3) := by decide +kernel
theorem dX9_no_5 : decode cX9_no 5 = .ok (.iconst 1, 1) := by decide +kernel
theorem dX9_no_6 : decode cX9_no 6 = .ok (.iadd, 1) := by decide +kernel
theorem dX9_no_7 : decode cX9_no 7 = .ok (.putfield 274, 3) := by decide +kernel
theorem dX9_no_10 : decode cX9_no 10 = .ok (.bipush (-3), 2) := by decide +kernel
theorem dX9_no_12 : decode cX9_no 12 = .ok (.ireturn, 1) := by decide +kernel
theorem dX9_full_0 : decode cX9_full 0 = .ok (.aload_n 0, 1) := by decide +kernel
theorem dX9_full_1 : decode cX9_full 1 = .ok (.dup, 1) := by decide +kernel
theorem dX9_full_2 : decode cX9_full 2 = .ok (.getfield 277, 3) := by decide +kernel
theorem dX9_full_5 : decode cX9_full 5 = .ok (.iconst 1, 1) := by decide +kernel
theorem dX9_full_6 : decode cX9_full 6 = .ok (.iadd, 1) := by decide +kernel
theorem dX9_full_7 : decode cX9_full 7 = .ok (.putfield 277, 3) := by decide +kernel
theorem dX9_full_10 : decode cX9_full 10 = .ok (.bipush (-4), 2) := by decide +kernel
theorem dX9_full_12 : decode cX9_full 12 = .ok (.ireturn, 1) := by decide +kernel
