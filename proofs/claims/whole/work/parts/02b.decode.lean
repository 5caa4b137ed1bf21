theorem dX4_init_0 : decode cX4_init 0 = .ok (.aload_n 0, 1) := by decide +kernel
theorem dX4_init_1 : decode cX4_init 1 = .ok (.invokespecial 3, 3) := by decide +kernel
theorem dX4_init_4 : decode cX4_init 4 = .ok (.aload_n 0, 1) := by decide +kernel
theorem dX4_init_5 : decode cX4_init 5 = .ok (.bipush 7, 2) := by decide +kernel
theorem dX4_init_7 : decode cX4_init 7 = .ok (.newarray .int, 2) := by decide +kernel
theorem dX4_init_9 : decode cX4_init 9 = .ok (.putfield 9, 3) := by decide +kernel
theorem dX4_init_12 : decode cX4_init 12 = .ok (.aload_n 0, 1) := by decide +kernel
theorem dX4_init_13 : decode cX4_init 13 = .ok (.bipush 7, 2) := by decide +kernel
theorem dX4_init_15 : decode cX4_init 15 = .ok (.newarray .int, 2) := by decide +kernel
theorem dX4_init_17 : decode cX4_init 17 = .ok (.putfield 15, 3) := by decide +kernel
theorem dX4_init_20 : decode cX4_init 20 = .ok (.aload_n 0, 1) := by decide +kernel
theorem dX4_init_21 : decode cX4_init 21 = .ok (.bipush 7, 2) := by decide +kernel
theorem dX4_init_23 : decode cX4_init 23 = .ok (.newarray .int, 2) := by decide +kernel
theorem dX4_init_25 : decode cX4_init 25 = .ok (.putfield 18, 3) := by decide +kernel
theorem dX4_init_28 : decode cX4_init 28 = .ok (.aload_n 0, 1) := by decide +kernel
theorem dX4_init_29 : decode cX4_init 29 = .ok (.bipush 7, 2) := by decide +kernel
theorem dX4_init_31 : decode cX4_init 31 = .ok (.newarray .int, 2) := by decide +kernel
theorem dX4_init_33 : decode cX4_init 33 = .ok (.putfield 21, 3) := by decide +kernel
theorem dX4_init_36 : decode cX4_init 36 = .ok (.aload_n 0, 1) := by decide +kernel
theorem dX4_init_37 : decode cX4_init 37 = .ok (.new 24, 3) := by decide +kernel
theorem dX4_init_40 : decode cX4_init 40 = .ok (.dup, 1) := by decide +kernel
theorem dX4_init_41 : decode cX4_init 41 = .ok (.invokespecial 26, 3) := by decide +kernel
theorem dX4_init_44 : decode cX4_init 44 = .ok (.putfield 27, 3) := by decide +kernel
theorem dX4_init_47 : decode cX4_init 47 = .ok (.aload_n 0, 1) := by decide +kernel
theorem dX4_init_48 : decode cX4_init 48 = .ok (.sipush 128, 3) := by decide +kernel
theorem dX4_init_51 : decode cX4_init 51 = .ok (.newarray .boolean, 2) := by decide +kernel
theorem dX4_init_53 : decode cX4_init 53 = .ok (.putfield 31, 3) := by decide +kernel
theorem dX4_init_56 : decode cX4_init 56 = .ok (.aload_n 0, 1) := by decide +kernel
theorem dX4_init_57 : decode cX4_init 57 = .ok (.sipush 128, 3) := by decide +kernel
theorem dX4_init_60 : decode cX4_init 60 = .ok (.newarray .int, 2) := by decide +kernel
theorem dX4_init_62 : decode cX4_init 62 = .ok (.putfield 35, 3) := by decide +kernel
theorem dX4_init_65 : decode cX4_init 65 = .ok (.aload_n 0, 1) := by decide +kernel
theorem dX4_init_66 : decode cX4_init 66 = .ok (.sipush 128, 3) := by decide +kernel
theorem dX4_init_69 : decode cX4_init 69 = .ok (.newarray .int, 2) := by decide +kernel
theorem dX4_init_71 : decode cX4_init 71 = .ok (.putfield 38, 3) := by decide +kernel
theorem dX4_init_74 : decode cX4_init 74 = .ok (.aload_n 0, 1) := by decide +kernel
theorem dX4_init_75 : decode cX4_init 75 = .ok (.sipush 128, 3) := by decide +kernel
theorem dX4_init_78 : decode cX4_init 78 = .ok (.newarray .int, 2) := by decide +kernel
theorem dX4_init_80 : decode cX4_init 80 = .ok (.putfield 41, 3) := by decide +kernel
theorem dX4_init_83 : decode cX4_init 83 = .ok (.aload_n 0, 1) := by decide +kernel
theorem dX4_init_84 : decode cX4_init 84 = .ok (.sipush 128, 3) := by decide +kernel
theorem dX4_init_87 : decode cX4_init 87 = .ok (.newarray .long, 2) := by decide +kernel
theorem dX4_init_89 : decode cX4_init 89 = .ok (.putfield 44, 3) := by decide +kernel
theorem dX4_init_92 : decode cX4_init 92 = .ok (.aload_n 0, 1) := by decide +kernel
theorem dX4_init_93 : decode cX4_init 93 = .ok (.sipush 128, 3) := by decide +kernel
theorem dX4_init_96 : decode cX4_init 96 = .ok (.newarray .long, 2) := by decide +kernel
theorem dX4_init_98 : decode cX4_init 98 = .ok (.putfield 48, 3) := by decide +kernel
theorem dX4_init_101 : decode cX4_init 101 = .ok (.aload_n 0, 1) := by decide +kernel
theorem dX4_init_102 : decode cX4_init 102 = .ok (.iconst 4, 1) := by decide +kernel
theorem dX4_init_103 : decode cX4_init 103 = .ok (.sipush 128, 3) := by decide +kernel
theorem dX4_init_106 : decode cX4_init 106 = .ok (.multianewarray 51 2, 4) := by decide +kernel
theorem dX4_init_110 : decode cX4_init 110 = .ok (.putfield 53, 3) := by decide +kernel
theorem dX4_init_113 : decode cX4_init 113 = .ok (.return_, 1) := by decide +kernel
theorem dX4_find_0 : decode cX4_find 0 = .ok (.aload_n 0, 1) := by decide +kernel
theorem dX4_find_1 : decode cX4_find 1 = .ok (.aload_n 2, 1) := by decide +kernel
theorem dX4_find_2 : decode cX4_find 2 = .ok (.iload_n 3, 1) := by decide +kernel
theorem dX4_find_3 : decode cX4_find 3 = .ok (.invokevirtual 56, 3) := by decide +kernel
theorem dX4_find_6 : decode cX4_find 6 = .ok (.iconst 0, 1) := by decide +kernel
theorem dX4_find_7 : decode cX4_find 7 = .ok (.istore 6, 2) := by decide +kernel
theorem dX4_find_9 : decode cX4_find 9 = .ok (.iload 6, 2) := by decide +kernel
theorem dX4_find_11 : decode cX4_find 11 = .ok (.iconst 1, 1) := by decide +kernel
theorem dX4_find_12 : decode cX4_find 12 = .ok (.aload_n 0, 1) := by decide +kernel
theorem dX4_find_13 : decode cX4_find 13 = .ok (.getfield 60, 3) := by decide +kernel
theorem dX4_find_16 : decode cX4_find 16 = .ok (.ishl, 1) := by decide +kernel
theorem dX4_find_17 : decode cX4_find 17 = .ok (.if_icmp .ge 17, 3) := by decide +kernel
theorem dX4_find_20 : decode cX4_find 20 = .ok (.aload_n 0, 1) := by decide +kernel
theorem dX4_find_21 : decode cX4_find 21 = .ok (.getfield 48, 3) := by decide +kernel
theorem dX4_find_24 : decode cX4_find 24 = .ok (.iload 6, 2) := by decide +kernel
theorem dX4_find_26 : decode cX4_find 26 = .ok (.lconst 0, 1) := by decide +kernel
theorem dX4_find_27 : decode cX4_find 27 = .ok (.lastore, 1) := by decide +kernel
theorem dX4_find_28 : decode cX4_find 28 = .ok (.iinc 6 1, 3) := by decide +kernel
theorem dX4_find_31 : decode cX4_find 31 = .ok (.goto (-22), 3) := by decide +kernel
theorem dX4_find_34 : decode cX4_find 34 = .ok (.iconst 0, 1) := by decide +kernel
theorem dX4_find_35 : decode cX4_find 35 = .ok (.istore 6, 2) := by decide +kernel
theorem dX4_find_37 : decode cX4_find 37 = .ok (.iload 6, 2) := by decide +kernel
theorem dX4_find_39 : decode cX4_find 39 = .ok (.iconst 4, 1) := by decide +kernel
theorem dX4_find_40 : decode cX4_find 40 = .ok (.if_icmp .ge 64, 3) := by decide +kernel
theorem dX4_find_43 : decode cX4_find 43 = .ok (.aload_n 0, 1) := by decide +kernel
theorem dX4_find_44 : decode cX4_find 44 = .ok (.aload_n 1, 1) := by decide +kernel
theorem dX4_find_45 : decode cX4_find 45 = .ok (.iload 6, 2) := by decide +kernel
theorem dX4_find_47 : decode cX4_find 47 = .ok (.aaload, 1) := by decide +kernel
theorem dX4_find_48 : decode cX4_find 48 = .ok (.iload 5, 2) := by decide +kernel
theorem dX4_find_50 : decode cX4_find 50 = .ok (.invokevirtual 64, 3) := by decide +kernel
theorem dX4_find_53 : decode cX4_find 53 = .ok (.iconst 0, 1) := by decide +kernel
theorem dX4_find_54 : decode cX4_find 54 = .ok (.istore 7, 2) := by decide +kernel
theorem dX4_find_56 : decode cX4_find 56 = .ok (.iload 7, 2) := by decide +kernel
theorem dX4_find_58 : decode cX4_find 58 = .ok (.aload_n 0, 1) := by decide +kernel
theorem dX4_find_59 : decode cX4_find 59 = .ok (.getfield 60, 3) := by decide +kernel
theorem dX4_find_62 : decode cX4_find 62 = .ok (.if_icmp .ge 30, 3) := by decide +kernel
theorem dX4_find_65 : decode cX4_find 65 = .ok (.aload_n 0, 1) := by decide +kernel
theorem dX4_find_66 : decode cX4_find 66 = .ok (.iload 7, 2) := by decide +kernel
theorem dX4_find_68 : decode cX4_find 68 = .ok (.aload_n 2, 1) := by decide +kernel
theorem dX4_find_69 : decode cX4_find 69 = .ok (.aload_n 0, 1) := by decide +kernel
theorem dX4_find_70 : decode cX4_find 70 = .ok (.getfield 21, 3) := by decide +kernel
theorem dX4_find_73 : decode cX4_find 73 = .ok (.iload 7, 2) := by decide +kernel
theorem dX4_find_75 : decode cX4_find 75 = .ok (.iaload, 1) := by decide +kernel
theorem dX4_find_76 : decode cX4_find 76 = .ok (.aaload, 1) := by decide +kernel
theorem dX4_find_77 : decode cX4_find 77 = .ok (.aload_n 1, 1) := by decide +kernel
theorem dX4_find_78 : decode cX4_find 78 = .ok (.iload 6, 2) := by decide +kernel
theorem dX4_find_80 : decode cX4_find 80 = .ok (.aaload, 1) := by decide +kernel
theorem dX4_find_81 : decode cX4_find 81 = .ok (.aload 4, 2) := by decide +kernel
theorem dX4_find_83 : decode cX4_find 83 = .ok (.invokevirtual 68, 3) := by decide +kernel
theorem dX4_find_86 : decode cX4_find 86 = .ok (.iinc 7 1, 3) := by decide +kernel
theorem dX4_find_89 : decode cX4_find 89 = .ok (.goto (-33), 3) := by decide +kernel
theorem dX4_find_92 : decode cX4_find 92 = .ok (.aload_n 0, 1) := by decide +kernel
theorem dX4_find_93 : decode cX4_find 93 = .ok (.iload 6, 2) := by decide +kernel
theorem dX4_find_95 : decode cX4_find 95 = .ok (.invokevirtual 72, 3) := by decide +kernel
theorem dX4_find_98 : decode cX4_find 98 = .ok (.iinc 6 1, 3) := by decide +kernel
theorem dX4_find_101 : decode cX4_find 101 = .ok (.goto (-64), 3) := by decide +kernel
theorem dX4_find_104 : decode cX4_find 104 = .ok (.aload_n 0, 1) := by decide +kernel
theorem dX4_find_105 : decode cX4_find 105 = .ok (.aload_n 1, 1) := by decide +kernel
theorem dX4_find_106 : decode cX4_find 106 = .ok (.aload_n 2, 1) := by decide +kernel
theorem dX4_find_107 : decode cX4_find 107 = .ok (.aload 4, 2) := by decide +kernel
theorem dX4_find_109 : decode cX4_find 109 = .ok (.iload 5, 2) := by decide +kernel
theorem dX4_find_111 : decode cX4_find 111 = .ok (.invokevirtual 76, 3) := by decide +kernel
theorem dX4_find_114 : decode cX4_find 114 = .ok (.return_, 1) := by decide +kernel
theorem dX4_lineUp_0 : decode cX4_lineUp 0 = .ok (.aload_n 0, 1) := by decide +kernel
theorem dX4_lineUp_1 : decode cX4_lineUp 1 = .ok (.iconst 0, 1) := by decide +kernel
theorem dX4_lineUp_2 : decode cX4_lineUp 2 = .ok (.putfield 60, 3) := by decide +kernel
theorem dX4_lineUp_5 : decode cX4_lineUp 5 = .ok (.iconst 0, 1) := by decide +kernel
theorem dX4_lineUp_6 : decode cX4_lineUp 6 = .ok (.istore_n 3, 1) := by decide +kernel
theorem dX4_lineUp_7 : decode cX4_lineUp 7 = .ok (.iload_n 3, 1) := by decide +kernel
theorem dX4_lineUp_8 : decode cX4_lineUp 8 = .ok (.iload_n 2, 1) := by decide +kernel
theorem dX4_lineUp_9 : decode cX4_lineUp 9 = .ok (.if_icmp .ge 92, 3) := by decide +kernel
theorem dX4_lineUp_12 : decode cX4_lineUp 12 = .ok (.aload_n 1, 1) := by decide +kernel
theorem dX4_lineUp_13 : decode cX4_lineUp 13 = .ok (.iload_n 3, 1) := by decide +kernel
theorem dX4_lineUp_14 : decode cX4_lineUp 14 = .ok (.aaload, 1) := by decide +kernel
theorem dX4_lineUp_15 : decode cX4_lineUp 15 = .ok (.getfield 80, 3) := by decide +kernel
theorem dX4_lineUp_18 : decode cX4_lineUp 18 = .ok (.ifCond .ne 77, 3) := by decide +kernel
theorem dX4_lineUp_21 : decode cX4_lineUp 21 = .ok (.aload_n 0, 1) := by decide +kernel
theorem dX4_lineUp_22 : decode cX4_lineUp 22 = .ok (.getfield 60, 3) := by decide +kernel
theorem dX4_lineUp_25 : decode cX4_lineUp 25 = .ok (.istore 4, 2) := by decide +kernel
theorem dX4_lineUp_27 : decode cX4_lineUp 27 = .ok (.iload 4, 2) := by decide +kernel
theorem dX4_lineUp_29 : decode cX4_lineUp 29 = .ok (.ifCond .le 48, 3) := by decide +kernel
theorem dX4_lineUp_32 : decode cX4_lineUp 32 = .ok (.aload_n 1, 1) := by decide +kernel
theorem dX4_lineUp_33 : decode cX4_lineUp 33 = .ok (.aload_n 0, 1) := by decide +kernel
theorem dX4_lineUp_34 : decode cX4_lineUp 34 = .ok (.getfield 21, 3) := by decide +kernel
theorem dX4_lineUp_37 : decode cX4_lineUp 37 = .ok (.iload 4, 2) := by decide +kernel
theorem dX4_lineUp_39 : decode cX4_lineUp 39 = .ok (.iconst 1, 1) := by decide +kernel
theorem dX4_lineUp_40 : decode cX4_lineUp 40 = .ok (.isub, 1) := by decide +kernel
theorem dX4_lineUp_41 : decode cX4_lineUp 41 = .ok (.iaload, 1) := by decide +kernel
theorem dX4_lineUp_42 : decode cX4_lineUp 42 = .ok (.aaload, 1) := by decide +kernel
theorem dX4_lineUp_43 : decode cX4_lineUp 43 = .ok (.getfield 85, 3) := by decide +kernel
theorem dX4_lineUp_46 : decode cX4_lineUp 46 = .ok (.aload_n 1, 1) := by decide +kernel
theorem dX4_lineUp_47 : decode cX4_lineUp 47 = .ok (.iload_n 3, 1) := by decide +kernel
theorem dX4_lineUp_48 : decode cX4_lineUp 48 = .ok (.aaload, 1) := by decide +kernel
theorem dX4_lineUp_49 : decode cX4_lineUp 49 = .ok (.getfield 85, 3) := by decide +kernel
theorem dX4_lineUp_52 : decode cX4_lineUp 52 = .ok (.if_icmp .le 25, 3) := by decide +kernel
theorem dX4_lineUp_55 : decode cX4_lineUp 55 = .ok (.aload_n 0, 1) := by decide +kernel
theorem dX4_lineUp_56 : decode cX4_lineUp 56 = .ok (.getfield 21, 3) := by decide +kernel
theorem dX4_lineUp_59 : decode cX4_lineUp 59 = .ok (.iload 4, 2) := by decide +kernel
theorem dX4_lineUp_61 : decode cX4_lineUp 61 = .ok (.aload_n 0, 1) := by decide +kernel
theorem dX4_lineUp_62 : decode cX4_lineUp 62 = .ok (.getfield 21, 3) := by decide +kernel
theorem dX4_lineUp_65 : decode cX4_lineUp 65 = .ok (.iload 4, 2) := by decide +kernel
theorem dX4_lineUp_67 : decode cX4_lineUp 67 = .ok (.iconst 1, 1) := by decide +kernel
theorem dX4_lineUp_68 : decode cX4_lineUp 68 = .ok (.isub, 1) := by decide +kernel
theorem dX4_lineUp_69 : decode cX4_lineUp 69 = .ok (.iaload, 1) := by decide +kernel
theorem dX4_lineUp_70 : decode cX4_lineUp 70 = .ok (.iastore, 1) := by decide +kernel
theorem dX4_lineUp_71 : decode cX4_lineUp 71 = .ok (.iinc 4 (-1), 3) := by decide +kernel
theorem dX4_lineUp_74 : decode cX4_lineUp 74 = .ok (.goto (-47), 3) := by decide +kernel
theorem dX4_lineUp_77 : decode cX4_lineUp 77 = .ok (.aload_n 0, 1) := by decide +kernel
theorem dX4_lineUp_78 : decode cX4_lineUp 78 = .ok (.getfield 21, 3) := by decide +kernel
theorem dX4_lineUp_81 : decode cX4_lineUp 81 = .ok (.iload 4, 2) := by decide +kernel
theorem dX4_lineUp_83 : decode cX4_lineUp 83 = .ok (.iload_n 3, 1) := by decide +kernel
theorem dX4_lineUp_84 : decode cX4_lineUp 84 = .ok (.iastore, 1) := by decide +kernel
theorem dX4_lineUp_85 : decode cX4_lineUp 85 = .ok (.aload_n 0, 1) := by decide +kernel
theorem dX4_lineUp_86 : decode cX4_lineUp 86 = .ok (.dup, 1) := by decide +kernel
theorem dX4_lineUp_87 : decode cX4_lineUp 87 = .ok (.getfield 60, 3) := by decide +kernel
theorem dX4_lineUp_90 : decode cX4_lineUp 90 = .ok (.iconst 1, 1) := by decide +kernel
theorem dX4_lineUp_91 : decode cX4_lineUp 91 = .ok (.iadd, 1) := by decide +kernel
theorem dX4_lineUp_92 : decode cX4_lineUp 92 = .ok (.putfield 60, 3) := by decide +kernel
theorem dX4_lineUp_95 : decode cX4_lineUp 95 = .ok (.iinc 3 1, 3) := by decide +kernel
theorem dX4_lineUp_98 : decode cX4_lineUp 98 = .ok (.goto (-91), 3) := by decide +kernel
theorem dX4_lineUp_101 : decode cX4_lineUp 101 = .ok (.return_, 1) := by decide +kernel
theorem dX4_startAt_0 : decode cX4_startAt 0 = .ok (.aload_n 0, 1) := by decide +kernel
theorem dX4_startAt_1 : decode cX4_startAt 1 = .ok (.getfield 31, 3) := by decide +kernel
theorem dX4_startAt_4 : decode cX4_startAt 4 = .ok (.iconst 0, 1) := by decide +kernel
theorem dX4_startAt_5 : decode cX4_startAt 5 = .ok (.iconst 1, 1) := by decide +kernel
theorem dX4_startAt_6 : decode cX4_startAt 6 = .ok (.bastore, 1) := by decide +kernel
theorem dX4_startAt_7 : decode cX4_startAt 7 = .ok (.aload_n 0, 1) := by decide +kernel
theorem dX4_startAt_8 : decode cX4_startAt 8 = .ok (.getfield 35, 3) := by decide +kernel
theorem dX4_startAt_11 : decode cX4_startAt 11 = .ok (.iconst 0, 1) := by decide +kernel
theorem dX4_startAt_12 : decode cX4_startAt 12 = .ok (.iload_n 2, 1) := by decide +kernel
theorem dX4_startAt_13 : decode cX4_startAt 13 = .ok (.iastore, 1) := by decide +kernel
theorem dX4_startAt_14 : decode cX4_startAt 14 = .ok (.aload_n 0, 1) := by decide +kernel
theorem dX4_startAt_15 : decode cX4_startAt 15 = .ok (.getfield 38, 3) := by decide +kernel
theorem dX4_startAt_18 : decode cX4_startAt 18 = .ok (.iconst 0, 1) := by decide +kernel
theorem dX4_startAt_19 : decode cX4_startAt 19 = .ok (.aload_n 1, 1) := by decide +kernel
theorem dX4_startAt_20 : decode cX4_startAt 20 = .ok (.getfield 88, 3) := by decide +kernel
theorem dX4_startAt_23 : decode cX4_startAt 23 = .ok (.iload_n 2, 1) := by decide +kernel
theorem dX4_startAt_24 : decode cX4_startAt 24 = .ok (.iaload, 1) := by decide +kernel
theorem dX4_startAt_25 : decode cX4_startAt 25 = .ok (.iastore, 1) := by decide +kernel
theorem dX4_startAt_26 : decode cX4_startAt 26 = .ok (.aload_n 0, 1) := by decide +kernel
theorem dX4_startAt_27 : decode cX4_startAt 27 = .ok (.getfield 41, 3) := by decide +kernel
theorem dX4_startAt_30 : decode cX4_startAt 30 = .ok (.iconst 0, 1) := by decide +kernel
theorem dX4_startAt_31 : decode cX4_startAt 31 = .ok (.iconst 0, 1) := by decide +kernel
theorem dX4_startAt_32 : decode cX4_startAt 32 = .ok (.iastore, 1) := by decide +kernel
theorem dX4_startAt_33 : decode cX4_startAt 33 = .ok (.aload_n 0, 1) := by decide +kernel
theorem dX4_startAt_34 : decode cX4_startAt 34 = .ok (.getfield 44, 3) := by decide +kernel
theorem dX4_startAt_37 : decode cX4_startAt 37 = .ok (.iconst 0, 1) := by decide +kernel
theorem dX4_startAt_38 : decode cX4_startAt 38 = .ok (.lconst 0, 1) := by decide +kernel
theorem dX4_startAt_39 : decode cX4_startAt 39 = .ok (.lastore, 1) := by decide +kernel
theorem dX4_startAt_40 : decode cX4_startAt 40 = .ok (.return_, 1) := by decide +kernel
theorem dX4_addToSets_0 : decode cX4_addToSets 0 = .ok (.iconst 1, 1) := by decide +kernel
theorem dX4_addToSets_1 : decode cX4_addToSets 1 = .ok (.iload_n 1, 1) := by decide +kernel
theorem dX4_addToSets_2 : decode cX4_addToSets 2 = .ok (.ishl, 1) := by decide +kernel
theorem dX4_addToSets_3 : decode cX4_addToSets 3 = .ok (.istore 5, 2) := by decide +kernel
theorem dX4_addToSets_5 : decode cX4_addToSets 5 = .ok (.aload_n 2, 1) := by decide +kernel
theorem dX4_addToSets_6 : decode cX4_addToSets 6 = .ok (.aload_n 3, 1) := by decide +kernel
theorem dX4_addToSets_7 : decode cX4_addToSets 7 = .ok (.getfield 93, 3) := by decide +kernel
theorem dX4_addToSets_10 : decode cX4_addToSets 10 = .ok (.invokestatic 96, 3) := by decide +kernel
theorem dX4_addToSets_13 : decode cX4_addToSets 13 = .ok (.lstore 6, 2) := by decide +kernel
theorem dX4_addToSets_15 : decode cX4_addToSets 15 = .ok (.iconst 0, 1) := by decide +kernel
theorem dX4_addToSets_16 : decode cX4_addToSets 16 = .ok (.istore 8, 2) := by decide +kernel
theorem dX4_addToSets_18 : decode cX4_addToSets 18 = .ok (.iload 8, 2) := by decide +kernel
theorem dX4_addToSets_20 : decode cX4_addToSets 20 = .ok (.iload 5, 2) := by decide +kernel
theorem dX4_addToSets_22 : decode cX4_addToSets 22 = .ok (.if_icmp .ge 158, 3) := by decide +kernel
theorem dX4_addToSets_25 : decode cX4_addToSets 25 = .ok (.iload 8, 2) := by decide +kernel
theorem dX4_addToSets_27 : decode cX4_addToSets 27 = .ok (.iload 5, 2) := by decide +kernel
theorem dX4_addToSets_29 : decode cX4_addToSets 29 = .ok (.ior, 1) := by decide +kernel
theorem dX4_addToSets_30 : decode cX4_addToSets 30 = .ok (.istore 9, 2) := by decide +kernel
theorem dX4_addToSets_32 : decode cX4_addToSets 32 = .ok (.aload_n 0, 1) := by decide +kernel
theorem dX4_addToSets_33 : decode cX4_addToSets 33 = .ok (.getfield 27, 3) := by decide +kernel
theorem dX4_addToSets_36 : decode cX4_addToSets 36 = .ok (.aload_n 0, 1) := by decide +kernel
theorem dX4_addToSets_37 : decode cX4_addToSets 37 = .ok (.getfield 35, 3) := by decide +kernel
theorem dX4_addToSets_40 : decode cX4_addToSets 40 = .ok (.iload 8, 2) := by decide +kernel
theorem dX4_addToSets_42 : decode cX4_addToSets 42 = .ok (.iaload, 1) := by decide +kernel
theorem dX4_addToSets_43 : decode cX4_addToSets 43 = .ok (.putfield 100, 3) := by decide +kernel
theorem dX4_addToSets_46 : decode cX4_addToSets 46 = .ok (.aload_n 0, 1) := by decide +kernel
theorem dX4_addToSets_47 : decode cX4_addToSets 47 = .ok (.getfield 27, 3) := by decide +kernel
theorem dX4_addToSets_50 : decode cX4_addToSets 50 = .ok (.aload_n 0, 1) := by decide +kernel
theorem dX4_addToSets_51 : decode cX4_addToSets 51 = .ok (.getfield 38, 3) := by decide +kernel
theorem dX4_addToSets_54 : decode cX4_addToSets 54 = .ok (.iload 8, 2) := by decide +kernel
theorem dX4_addToSets_56 : decode cX4_addToSets 56 = .ok (.iaload, 1) := by decide +kernel
theorem dX4_addToSets_57 : decode cX4_addToSets 57 = .ok (.putfield 103, 3) := by decide +kernel
theorem dX4_addToSets_60 : decode cX4_addToSets 60 = .ok (.aload_n 0, 1) := by decide +kernel
theorem dX4_addToSets_61 : decode cX4_addToSets 61 = .ok (.getfield 41, 3) := by decide +kernel
theorem dX4_addToSets_64 : decode cX4_addToSets 64 = .ok (.iload 9, 2) := by decide +kernel
theorem dX4_addToSets_66 : decode cX4_addToSets 66 = .ok (.aload_n 0, 1) := by decide +kernel
theorem dX4_addToSets_67 : decode cX4_addToSets 67 = .ok (.getfield 41, 3) := by decide +kernel
theorem dX4_addToSets_70 : decode cX4_addToSets 70 = .ok (.iload 8, 2) := by decide +kernel
theorem dX4_addToSets_72 : decode cX4_addToSets 72 = .ok (.iaload, 1) := by decide +kernel
theorem dX4_addToSets_73 : decode cX4_addToSets 73 = .ok (.aload_n 2, 1) := by decide +kernel
theorem dX4_addToSets_74 : decode cX4_addToSets 74 = .ok (.getfield 106, 3) := by decide +kernel
theorem dX4_addToSets_77 : decode cX4_addToSets 77 = .ok (.iadd, 1) := by decide +kernel
theorem dX4_addToSets_78 : decode cX4_addToSets 78 = .ok (.iastore, 1) := by decide +kernel
theorem dX4_addToSets_79 : decode cX4_addToSets 79 = .ok (.aload_n 0, 1) := by decide +kernel
theorem dX4_addToSets_80 : decode cX4_addToSets 80 = .ok (.getfield 31, 3) := by decide +kernel
theorem dX4_addToSets_83 : decode cX4_addToSets 83 = .ok (.iload 9, 2) := by decide +kernel
theorem dX4_addToSets_85 : decode cX4_addToSets 85 = .ok (.aload_n 0, 1) := by decide +kernel
theorem dX4_addToSets_86 : decode cX4_addToSets 86 = .ok (.getfield 31, 3) := by decide +kernel
theorem dX4_addToSets_89 : decode cX4_addToSets 89 = .ok (.iload 8, 2) := by decide +kernel
theorem dX4_addToSets_91 : decode cX4_addToSets 91 = .ok (.baload, 1) := by decide +kernel
theorem dX4_addToSets_92 : decode cX4_addToSets 92 = .ok (.ifCond .eq 35, 3) := by decide +kernel
theorem dX4_addToSets_95 : decode cX4_addToSets 95 = .ok (.aload_n 0, 1) := by decide +kernel
theorem dX4_addToSets_96 : decode cX4_addToSets 96 = .ok (.getfield 41, 3) := by decide +kernel
theorem dX4_addToSets_99 : decode cX4_addToSets 99 = .ok (.iload 9, 2) := by decide +kernel
theorem dX4_addToSets_101 : decode cX4_addToSets 101 = .ok (.iaload, 1) := by decide +kernel
theorem dX4_addToSets_102 : decode cX4_addToSets 102 = .ok (.aload_n 3, 1) := by decide +kernel
theorem dX4_addToSets_103 : decode cX4_addToSets 103 = .ok (.getfield 108, 3) := by decide +kernel
theorem dX4_addToSets_106 : decode cX4_addToSets 106 = .ok (.if_icmp .gt 21, 3) := by decide +kernel
theorem dX4_addToSets_109 : decode cX4_addToSets 109 = .ok (.aload_n 0, 1) := by decide +kernel
theorem dX4_addToSets_110 : decode cX4_addToSets 110 = .ok (.getfield 27, 3) := by decide +kernel
theorem dX4_addToSets_113 : decode cX4_addToSets 113 = .ok (.aload_n 2, 1) := by decide +kernel
theorem dX4_addToSets_114 : decode cX4_addToSets 114 = .ok (.aload_n 3, 1) := by decide +kernel
theorem dX4_addToSets_115 : decode cX4_addToSets 115 = .ok (.aload 4, 2) := by decide +kernel
theorem dX4_addToSets_117 : decode cX4_addToSets 117 = .ok (.invokevirtual 109, 3) := by decide +kernel
theorem dX4_addToSets_120 : decode cX4_addToSets 120 = .ok (.ifCond .eq 7, 3) := by decide +kernel
theorem dX4_addToSets_123 : decode cX4_addToSets 123 = .ok (.iconst 1, 1) := by decide +kernel
theorem dX4_addToSets_124 : decode cX4_addToSets 124 = .ok (.goto 4, 3) := by decide +kernel
theorem dX4_addToSets_127 : decode cX4_addToSets 127 = .ok (.iconst 0, 1) := by decide +kernel
theorem dX4_addToSets_128 : decode cX4_addToSets 128 = .ok (.bastore, 1) := by decide +kernel
theorem dX4_addToSets_129 : decode cX4_addToSets 129 = .ok (.aload_n 0, 1) := by decide +kernel
theorem dX4_addToSets_130 : decode cX4_addToSets 130 = .ok (.getfield 35, 3) := by decide +kernel
theorem dX4_addToSets_133 : decode cX4_addToSets 133 = .ok (.iload 9, 2) := by decide +kernel
theorem dX4_addToSets_135 : decode cX4_addToSets 135 = .ok (.aload_n 0, 1) := by decide +kernel
theorem dX4_addToSets_136 : decode cX4_addToSets 136 = .ok (.getfield 27, 3) := by decide +kernel
theorem dX4_addToSets_139 : decode cX4_addToSets 139 = .ok (.getfield 100, 3) := by decide +kernel
theorem dX4_addToSets_142 : decode cX4_addToSets 142 = .ok (.iastore, 1) := by decide +kernel
theorem dX4_addToSets_143 : decode cX4_addToSets 143 = .ok (.aload_n 0, 1) := by decide +kernel
theorem dX4_addToSets_144 : decode cX4_addToSets 144 = .ok (.getfield 38, 3) := by decide +kernel
theorem dX4_addToSets_147 : decode cX4_addToSets 147 = .ok (.iload 9, 2) := by decide +kernel
theorem dX4_addToSets_149 : decode cX4_addToSets 149 = .ok (.aload_n 0, 1) := by decide +kernel
theorem dX4_addToSets_150 : decode cX4_addToSets 150 = .ok (.getfield 27, 3) := by decide +kernel
theorem dX4_addToSets_153 : decode cX4_addToSets 153 = .ok (.getfield 103, 3) := by decide +kernel
theorem dX4_addToSets_156 : decode cX4_addToSets 156 = .ok (.iastore, 1) := by decide +kernel
theorem dX4_addToSets_157 : decode cX4_addToSets 157 = .ok (.aload_n 0, 1) := by decide +kernel
theorem dX4_addToSets_158 : decode cX4_addToSets 158 = .ok (.getfield 44, 3) := by decide +kernel
theorem dX4_addToSets_161 : decode cX4_addToSets 161 = .ok (.iload 9, 2) := by decide +kernel
theorem dX4_addToSets_163 : decode cX4_addToSets 163 = .ok (.aload_n 0, 1) := by decide +kernel
theorem dX4_addToSets_164 : decode cX4_addToSets 164 = .ok (.getfield 44, 3) := by decide +kernel
theorem dX4_addToSets_167 : decode cX4_addToSets 167 = .ok (.iload 8, 2) := by decide +kernel
theorem dX4_addToSets_169 : decode cX4_addToSets 169 = .ok (.laload, 1) := by decide +kernel
theorem dX4_addToSets_170 : decode cX4_addToSets 170 = .ok (.lload 6, 2) := by decide +kernel
theorem dX4_addToSets_172 : decode cX4_addToSets 172 = .ok (.ladd, 1) := by decide +kernel
theorem dX4_addToSets_173 : decode cX4_addToSets 173 = .ok (.lastore, 1) := by decide +kernel
theorem dX4_addToSets_174 : decode cX4_addToSets 174 = .ok (.iinc 8 1, 3) := by decide +kernel
theorem dX4_addToSets_177 : decode cX4_addToSets 177 = .ok (.goto (-159), 3) := by decide +kernel
theorem dX4_addToSets_180 : decode cX4_addToSets 180 = .ok (.return_, 1) := by decide +kernel
theorem dX4_rankOf_0 : decode cX4_rankOf 0 = .ok (.aload_n 0, 1) := by decide +kernel
theorem dX4_rankOf_1 : decode cX4_rankOf 1 = .ok (.getfield 113, 3) := by decide +kernel
theorem dX4_rankOf_4 : decode cX4_rankOf 4 = .ok (.i2l, 1) := by decide +kernel
theorem dX4_rankOf_5 : decode cX4_rankOf 5 = .ok (.ldc2_w 116, 3) := by decide +kernel
theorem dX4_rankOf_8 : decode cX4_rankOf 8 = .ok (.lmul, 1) := by decide +kernel
theorem dX4_rankOf_9 : decode cX4_rankOf 9 = .ok (.aload_n 0, 1) := by decide +kernel
theorem dX4_rankOf_10 : decode cX4_rankOf 10 = .ok (.iload_n 1, 1) := by decide +kernel
theorem dX4_rankOf_11 : decode cX4_rankOf 11 = .ok (.invokevirtual 118, 3) := by decide +kernel
theorem dX4_rankOf_14 : decode cX4_rankOf 14 = .ok (.i2l, 1) := by decide +kernel
theorem dX4_rankOf_15 : decode cX4_rankOf 15 = .ok (.ldc2_w 122, 3) := by decide +kernel
theorem dX4_rankOf_18 : decode cX4_rankOf 18 = .ok (.lmul, 1) := by decide +kernel
theorem dX4_rankOf_19 : decode cX4_rankOf 19 = .ok (.lsub, 1) := by decide +kernel
theorem dX4_rankOf_20 : decode cX4_rankOf 20 = .ok (.iconst 4, 1) := by decide +kernel
theorem dX4_rankOf_21 : decode cX4_rankOf 21 = .ok (.iload_n 1, 1) := by decide +kernel
theorem dX4_rankOf_22 : decode cX4_rankOf 22 = .ok (.isub, 1) := by decide +kernel
theorem dX4_rankOf_23 : decode cX4_rankOf 23 = .ok (.getstatic 124, 3) := by decide +kernel
theorem dX4_rankOf_26 : decode cX4_rankOf 26 = .ok (.aload_n 0, 1) := by decide +kernel
theorem dX4_rankOf_27 : decode cX4_rankOf 27 = .ok (.getfield 127, 3) := by decide +kernel
theorem dX4_rankOf_30 : decode cX4_rankOf 30 = .ok (.iaload, 1) := by decide +kernel
theorem dX4_rankOf_31 : decode cX4_rankOf 31 = .ok (.imul, 1) := by decide +kernel
theorem dX4_rankOf_32 : decode cX4_rankOf 32 = .ok (.i2l, 1) := by decide +kernel
theorem dX4_rankOf_33 : decode cX4_rankOf 33 = .ok (.ladd, 1) := by decide +kernel
theorem dX4_rankOf_34 : decode cX4_rankOf 34 = .ok (.lreturn, 1) := by decide +kernel
theorem dX4_shareAlsoWith_0 : decode cX4_shareAlsoWith 0 = .ok (.iconst 1, 1) := by decide +kernel
theorem dX4_shareAlsoWith_1 : decode cX4_shareAlsoWith 1 = .ok (.aload_n 0, 1) := by decide +kernel
theorem dX4_shareAlsoWith_2 : decode cX4_shareAlsoWith 2 = .ok (.getfield 60, 3) := by decide +kernel
theorem dX4_shareAlsoWith_5 : decode cX4_shareAlsoWith 5 = .ok (.ishl, 1) := by decide +kernel
theorem dX4_shareAlsoWith_6 : decode cX4_shareAlsoWith 6 = .ok (.iconst 1, 1) := by decide +kernel
theorem dX4_shareAlsoWith_7 : decode cX4_shareAlsoWith 7 = .ok (.isub, 1) := by decide +kernel
theorem dX4_shareAlsoWith_8 : decode cX4_shareAlsoWith 8 = .ok (.istore_n 2, 1) := by decide +kernel
theorem dX4_shareAlsoWith_9 : decode cX4_shareAlsoWith 9 = .ok (.iload_n 2, 1) := by decide +kernel
theorem dX4_shareAlsoWith_10 : decode cX4_shareAlsoWith 10 = .ok (.ifCond .lt 114, 3) := by decide +kernel
theorem dX4_shareAlsoWith_13 : decode cX4_shareAlsoWith 13 = .ok (.aload_n 0, 1) := by decide +kernel
theorem dX4_shareAlsoWith_14 : decode cX4_shareAlsoWith 14 = .ok (.getfield 48, 3) := by decide +kernel
theorem dX4_shareAlsoWith_17 : decode cX4_shareAlsoWith 17 = .ok (.iload_n 2, 1) := by decide +kernel
theorem dX4_shareAlsoWith_18 : decode cX4_shareAlsoWith 18 = .ok (.laload, 1) := by decide +kernel
theorem dX4_shareAlsoWith_19 : decode cX4_shareAlsoWith 19 = .ok (.lstore_n 3, 1) := by decide +kernel
theorem dX4_shareAlsoWith_20 : decode cX4_shareAlsoWith 20 = .ok (.iconst 0, 1) := by decide +kernel
theorem dX4_shareAlsoWith_21 : decode cX4_shareAlsoWith 21 = .ok (.istore 5, 2) := by decide +kernel
theorem dX4_shareAlsoWith_23 : decode cX4_shareAlsoWith 23 = .ok (.iconst 1, 1) := by decide +kernel
theorem dX4_shareAlsoWith_24 : decode cX4_shareAlsoWith 24 = .ok (.istore 6, 2) := by decide +kernel
theorem dX4_shareAlsoWith_26 : decode cX4_shareAlsoWith 26 = .ok (.iload 6, 2) := by decide +kernel
theorem dX4_shareAlsoWith_28 : decode cX4_shareAlsoWith 28 = .ok (.iload_n 2, 1) := by decide +kernel
theorem dX4_shareAlsoWith_29 : decode cX4_shareAlsoWith 29 = .ok (.if_icmp .gt 72, 3) := by decide +kernel
theorem dX4_shareAlsoWith_32 : decode cX4_shareAlsoWith 32 = .ok (.iload 6, 2) := by decide +kernel
theorem dX4_shareAlsoWith_34 : decode cX4_shareAlsoWith 34 = .ok (.iload_n 2, 1) := by decide +kernel
theorem dX4_shareAlsoWith_35 : decode cX4_shareAlsoWith 35 = .ok (.iand, 1) := by decide +kernel
theorem dX4_shareAlsoWith_36 : decode cX4_shareAlsoWith 36 = .ok (.iload 6, 2) := by decide +kernel
theorem dX4_shareAlsoWith_38 : decode cX4_shareAlsoWith 38 = .ok (.if_icmp .ne 57, 3) := by decide +kernel
theorem dX4_shareAlsoWith_41 : decode cX4_shareAlsoWith 41 = .ok (.aload_n 0, 1) := by decide +kernel
theorem dX4_shareAlsoWith_42 : decode cX4_shareAlsoWith 42 = .ok (.getfield 31, 3) := by decide +kernel
theorem dX4_shareAlsoWith_45 : decode cX4_shareAlsoWith 45 = .ok (.iload 6, 2) := by decide +kernel
theorem dX4_shareAlsoWith_47 : decode cX4_shareAlsoWith 47 = .ok (.baload, 1) := by decide +kernel
theorem dX4_shareAlsoWith_48 : decode cX4_shareAlsoWith 48 = .ok (.ifCond .eq 47, 3) := by decide +kernel
theorem dX4_shareAlsoWith_51 : decode cX4_shareAlsoWith 51 = .ok (.aload_n 0, 1) := by decide +kernel
theorem dX4_shareAlsoWith_52 : decode cX4_shareAlsoWith 52 = .ok (.getfield 44, 3) := by decide +kernel
theorem dX4_shareAlsoWith_55 : decode cX4_shareAlsoWith 55 = .ok (.iload 6, 2) := by decide +kernel
theorem dX4_shareAlsoWith_57 : decode cX4_shareAlsoWith 57 = .ok (.laload, 1) := by decide +kernel
theorem dX4_shareAlsoWith_58 : decode cX4_shareAlsoWith 58 = .ok (.aload_n 0, 1) := by decide +kernel
theorem dX4_shareAlsoWith_59 : decode cX4_shareAlsoWith 59 = .ok (.getfield 48, 3) := by decide +kernel
theorem dX4_shareAlsoWith_62 : decode cX4_shareAlsoWith 62 = .ok (.iload_n 2, 1) := by decide +kernel
theorem dX4_shareAlsoWith_63 : decode cX4_shareAlsoWith 63 = .ok (.iload 6, 2) := by decide +kernel
theorem dX4_shareAlsoWith_65 : decode cX4_shareAlsoWith 65 = .ok (.ixor, 1) := by decide +kernel
theorem dX4_shareAlsoWith_66 : decode cX4_shareAlsoWith 66 = .ok (.laload, 1) := by decide +kernel
theorem dX4_shareAlsoWith_67 : decode cX4_shareAlsoWith 67 = .ok (.ladd, 1) := by decide +kernel
theorem dX4_shareAlsoWith_68 : decode cX4_shareAlsoWith 68 = .ok (.lload_n 3, 1) := by decide +kernel
theorem dX4_shareAlsoWith_69 : decode cX4_shareAlsoWith 69 = .ok (.lcmp, 1) := by decide +kernel
theorem dX4_shareAlsoWith_70 : decode cX4_shareAlsoWith 70 = .ok (.ifCond .le 25, 3) := by decide +kernel
theorem dX4_shareAlsoWith_73 : decode cX4_shareAlsoWith 73 = .ok (.aload_n 0, 1) := by decide +kernel
theorem dX4_shareAlsoWith_74 : decode cX4_shareAlsoWith 74 = .ok (.getfield 44, 3) := by decide +kernel
theorem dX4_shareAlsoWith_77 : decode cX4_shareAlsoWith 77 = .ok (.iload 6, 2) := by decide +kernel
theorem dX4_shareAlsoWith_79 : decode cX4_shareAlsoWith 79 = .ok (.laload, 1) := by decide +kernel
theorem dX4_shareAlsoWith_80 : decode cX4_shareAlsoWith 80 = .ok (.aload_n 0, 1) := by decide +kernel
theorem dX4_shareAlsoWith_81 : decode cX4_shareAlsoWith 81 = .ok (.getfield 48, 3) := by decide +kernel
theorem dX4_shareAlsoWith_84 : decode cX4_shareAlsoWith 84 = .ok (.iload_n 2, 1) := by decide +kernel
theorem dX4_shareAlsoWith_85 : decode cX4_shareAlsoWith 85 = .ok (.iload 6, 2) := by decide +kernel
theorem dX4_shareAlsoWith_87 : decode cX4_shareAlsoWith 87 = .ok (.ixor, 1) := by decide +kernel
theorem dX4_shareAlsoWith_88 : decode cX4_shareAlsoWith 88 = .ok (.laload, 1) := by decide +kernel
theorem dX4_shareAlsoWith_89 : decode cX4_shareAlsoWith 89 = .ok (.ladd, 1) := by decide +kernel
theorem dX4_shareAlsoWith_90 : decode cX4_shareAlsoWith 90 = .ok (.lstore_n 3, 1) := by decide +kernel
theorem dX4_shareAlsoWith_91 : decode cX4_shareAlsoWith 91 = .ok (.iload 6, 2) := by decide +kernel
theorem dX4_shareAlsoWith_93 : decode cX4_shareAlsoWith 93 = .ok (.istore 5, 2) := by decide +kernel
theorem dX4_shareAlsoWith_95 : decode cX4_shareAlsoWith 95 = .ok (.iinc 6 1, 3) := by decide +kernel
theorem dX4_shareAlsoWith_98 : decode cX4_shareAlsoWith 98 = .ok (.goto (-72), 3) := by decide +kernel
theorem dX4_shareAlsoWith_101 : decode cX4_shareAlsoWith 101 = .ok (.aload_n 0, 1) := by decide +kernel
theorem dX4_shareAlsoWith_102 : decode cX4_shareAlsoWith 102 = .ok (.getfield 48, 3) := by decide +kernel
theorem dX4_shareAlsoWith_105 : decode cX4_shareAlsoWith 105 = .ok (.iload_n 2, 1) := by decide +kernel
theorem dX4_shareAlsoWith_106 : decode cX4_shareAlsoWith 106 = .ok (.lload_n 3, 1) := by decide +kernel
theorem dX4_shareAlsoWith_107 : decode cX4_shareAlsoWith 107 = .ok (.lastore, 1) := by decide +kernel
theorem dX4_shareAlsoWith_108 : decode cX4_shareAlsoWith 108 = .ok (.aload_n 0, 1) := by decide +kernel
theorem dX4_shareAlsoWith_109 : decode cX4_shareAlsoWith 109 = .ok (.getfield 53, 3) := by decide +kernel
theorem dX4_shareAlsoWith_112 : decode cX4_shareAlsoWith 112 = .ok (.iload_n 1, 1) := by decide +kernel
theorem dX4_shareAlsoWith_113 : decode cX4_shareAlsoWith 113 = .ok (.aaload, 1) := by decide +kernel
theorem dX4_shareAlsoWith_114 : decode cX4_shareAlsoWith 114 = .ok (.iload_n 2, 1) := by decide +kernel
theorem dX4_shareAlsoWith_115 : decode cX4_shareAlsoWith 115 = .ok (.iload 5, 2) := by decide +kernel
theorem dX4_shareAlsoWith_117 : decode cX4_shareAlsoWith 117 = .ok (.iastore, 1) := by decide +kernel
theorem dX4_shareAlsoWith_118 : decode cX4_shareAlsoWith 118 = .ok (.iinc 2 (-1), 3) := by decide +kernel
theorem dX4_shareAlsoWith_121 : decode cX4_shareAlsoWith 121 = .ok (.goto (-112), 3) := by decide +kernel
theorem dX4_shareAlsoWith_124 : decode cX4_shareAlsoWith 124 = .ok (.return_, 1) := by decide +kernel
theorem dX4_tellWay_0 : decode cX4_tellWay 0 = .ok (.aload_n 0, 1) := by decide +kernel
theorem dX4_tellWay_1 : decode cX4_tellWay 1 = .ok (.iconst 0, 1) := by decide +kernel
theorem dX4_tellWay_2 : decode cX4_tellWay 2 = .ok (.putfield 128, 3) := by decide +kernel
theorem dX4_tellWay_5 : decode cX4_tellWay 5 = .ok (.aload_n 0, 1) := by decide +kernel
theorem dX4_tellWay_6 : decode cX4_tellWay 6 = .ok (.iconst 0, 1) := by decide +kernel
theorem dX4_tellWay_7 : decode cX4_tellWay 7 = .ok (.putfield 131, 3) := by decide +kernel
theorem dX4_tellWay_10 : decode cX4_tellWay 10 = .ok (.iconst 0, 1) := by decide +kernel
theorem dX4_tellWay_11 : decode cX4_tellWay 11 = .ok (.istore 5, 2) := by decide +kernel
theorem dX4_tellWay_13 : decode cX4_tellWay 13 = .ok (.iload 5, 2) := by decide +kernel
theorem dX4_tellWay_15 : decode cX4_tellWay 15 = .ok (.bipush 7, 2) := by decide +kernel
theorem dX4_tellWay_17 : decode cX4_tellWay 17 = .ok (.if_icmp .ge 33, 3) := by decide +kernel
theorem dX4_tellWay_20 : decode cX4_tellWay 20 = .ok (.aload_n 0, 1) := by decide +kernel
theorem dX4_tellWay_21 : decode cX4_tellWay 21 = .ok (.getfield 9, 3) := by decide +kernel
theorem dX4_tellWay_24 : decode cX4_tellWay 24 = .ok (.iload 5, 2) := by decide +kernel
theorem dX4_tellWay_26 : decode cX4_tellWay 26 = .ok (.iconst (-1), 1) := by decide +kernel
theorem dX4_tellWay_27 : decode cX4_tellWay 27 = .ok (.iastore, 1) := by decide +kernel
theorem dX4_tellWay_28 : decode cX4_tellWay 28 = .ok (.aload_n 0, 1) := by decide +kernel
theorem dX4_tellWay_29 : decode cX4_tellWay 29 = .ok (.getfield 15, 3) := by decide +kernel
theorem dX4_tellWay_32 : decode cX4_tellWay 32 = .ok (.iload 5, 2) := by decide +kernel
theorem dX4_tellWay_34 : decode cX4_tellWay 34 = .ok (.iconst (-1), 1) := by decide +kernel
theorem dX4_tellWay_35 : decode cX4_tellWay 35 = .ok (.iastore, 1) := by decide +kernel
theorem dX4_tellWay_36 : decode cX4_tellWay 36 = .ok (.aload_n 0, 1) := by decide +kernel
theorem dX4_tellWay_37 : decode cX4_tellWay 37 = .ok (.getfield 18, 3) := by decide +kernel
theorem dX4_tellWay_40 : decode cX4_tellWay 40 = .ok (.iload 5, 2) := by decide +kernel
theorem dX4_tellWay_42 : decode cX4_tellWay 42 = .ok (.iconst 0, 1) := by decide +kernel
theorem dX4_tellWay_43 : decode cX4_tellWay 43 = .ok (.iastore, 1) := by decide +kernel
theorem dX4_tellWay_44 : decode cX4_tellWay 44 = .ok (.iinc 5 1, 3) := by decide +kernel
theorem dX4_tellWay_47 : decode cX4_tellWay 47 = .ok (.goto (-34), 3) := by decide +kernel
theorem dX4_tellWay_50 : decode cX4_tellWay 50 = .ok (.iconst 1, 1) := by decide +kernel
theorem dX4_tellWay_51 : decode cX4_tellWay 51 = .ok (.aload_n 0, 1) := by decide +kernel
theorem dX4_tellWay_52 : decode cX4_tellWay 52 = .ok (.getfield 60, 3) := by decide +kernel
theorem dX4_tellWay_55 : decode cX4_tellWay 55 = .ok (.ishl, 1) := by decide +kernel
theorem dX4_tellWay_56 : decode cX4_tellWay 56 = .ok (.iconst 1, 1) := by decide +kernel
theorem dX4_tellWay_57 : decode cX4_tellWay 57 = .ok (.isub, 1) := by decide +kernel
theorem dX4_tellWay_58 : decode cX4_tellWay 58 = .ok (.istore 5, 2) := by decide +kernel
theorem dX4_tellWay_60 : decode cX4_tellWay 60 = .ok (.iconst 3, 1) := by decide +kernel
theorem dX4_tellWay_61 : decode cX4_tellWay 61 = .ok (.istore 6, 2) := by decide +kernel
theorem dX4_tellWay_63 : decode cX4_tellWay 63 = .ok (.iload 6, 2) := by decide +kernel
theorem dX4_tellWay_65 : decode cX4_tellWay 65 = .ok (.ifCond .lt 103, 3) := by decide +kernel
theorem dX4_tellWay_68 : decode cX4_tellWay 68 = .ok (.aload_n 0, 1) := by decide +kernel
theorem dX4_tellWay_69 : decode cX4_tellWay 69 = .ok (.getfield 53, 3) := by decide +kernel
theorem dX4_tellWay_72 : decode cX4_tellWay 72 = .ok (.iload 6, 2) := by decide +kernel
theorem dX4_tellWay_74 : decode cX4_tellWay 74 = .ok (.aaload, 1) := by decide +kernel
theorem dX4_tellWay_75 : decode cX4_tellWay 75 = .ok (.iload 5, 2) := by decide +kernel
theorem dX4_tellWay_77 : decode cX4_tellWay 77 = .ok (.iaload, 1) := by decide +kernel
theorem dX4_tellWay_78 : decode cX4_tellWay 78 = .ok (.istore 7, 2) := by decide +kernel
theorem dX4_tellWay_80 : decode cX4_tellWay 80 = .ok (.aload_n 0, 1) := by decide +kernel
theorem dX4_tellWay_81 : decode cX4_tellWay 81 = .ok (.getfield 27, 3) := by decide +kernel
theorem dX4_tellWay_84 : decode cX4_tellWay 84 = .ok (.iload 4, 2) := by decide +kernel
theorem dX4_tellWay_86 : decode cX4_tellWay 86 = .ok (.putfield 100, 3) := by decide +kernel
theorem dX4_tellWay_89 : decode cX4_tellWay 89 = .ok (.aload_n 0, 1) := by decide +kernel
theorem dX4_tellWay_90 : decode cX4_tellWay 90 = .ok (.getfield 27, 3) := by decide +kernel
theorem dX4_tellWay_93 : decode cX4_tellWay 93 = .ok (.aload_n 1, 1) := by decide +kernel
theorem dX4_tellWay_94 : decode cX4_tellWay 94 = .ok (.iload 6, 2) := by decide +kernel
theorem dX4_tellWay_96 : decode cX4_tellWay 96 = .ok (.aaload, 1) := by decide +kernel
theorem dX4_tellWay_97 : decode cX4_tellWay 97 = .ok (.getfield 88, 3) := by decide +kernel
theorem dX4_tellWay_100 : decode cX4_tellWay 100 = .ok (.iload 4, 2) := by decide +kernel
theorem dX4_tellWay_102 : decode cX4_tellWay 102 = .ok (.iaload, 1) := by decide +kernel
theorem dX4_tellWay_103 : decode cX4_tellWay 103 = .ok (.putfield 103, 3) := by decide +kernel
theorem dX4_tellWay_106 : decode cX4_tellWay 106 = .ok (.iconst 0, 1) := by decide +kernel
theorem dX4_tellWay_107 : decode cX4_tellWay 107 = .ok (.istore 8, 2) := by decide +kernel
theorem dX4_tellWay_109 : decode cX4_tellWay 109 = .ok (.iload 8, 2) := by decide +kernel
theorem dX4_tellWay_111 : decode cX4_tellWay 111 = .ok (.aload_n 0, 1) := by decide +kernel
theorem dX4_tellWay_112 : decode cX4_tellWay 112 = .ok (.getfield 60, 3) := by decide +kernel
theorem dX4_tellWay_115 : decode cX4_tellWay 115 = .ok (.if_icmp .ge 40, 3) := by decide +kernel
theorem dX4_tellWay_118 : decode cX4_tellWay 118 = .ok (.iload 7, 2) := by decide +kernel
theorem dX4_tellWay_120 : decode cX4_tellWay 120 = .ok (.iload 8, 2) := by decide +kernel
theorem dX4_tellWay_122 : decode cX4_tellWay 122 = .ok (.ishr, 1) := by decide +kernel
theorem dX4_tellWay_123 : decode cX4_tellWay 123 = .ok (.iconst 1, 1) := by decide +kernel
theorem dX4_tellWay_124 : decode cX4_tellWay 124 = .ok (.iand, 1) := by decide +kernel
theorem dX4_tellWay_125 : decode cX4_tellWay 125 = .ok (.iconst 1, 1) := by decide +kernel
theorem dX4_tellWay_126 : decode cX4_tellWay 126 = .ok (.if_icmp .ne 23, 3) := by decide +kernel
theorem dX4_tellWay_129 : decode cX4_tellWay 129 = .ok (.aload_n 0, 1) := by decide +kernel
theorem dX4_tellWay_130 : decode cX4_tellWay 130 = .ok (.aload_n 2, 1) := by decide +kernel
theorem dX4_tellWay_131 : decode cX4_tellWay 131 = .ok (.aload_n 0, 1) := by decide +kernel
theorem dX4_tellWay_132 : decode cX4_tellWay 132 = .ok (.getfield 21, 3) := by decide +kernel
theorem dX4_tellWay_135 : decode cX4_tellWay 135 = .ok (.iload 8, 2) := by decide +kernel
theorem dX4_tellWay_137 : decode cX4_tellWay 137 = .ok (.iaload, 1) := by decide +kernel
theorem dX4_tellWay_138 : decode cX4_tellWay 138 = .ok (.aaload, 1) := by decide +kernel
theorem dX4_tellWay_139 : decode cX4_tellWay 139 = .ok (.aload_n 1, 1) := by decide +kernel
theorem dX4_tellWay_140 : decode cX4_tellWay 140 = .ok (.iload 6, 2) := by decide +kernel
theorem dX4_tellWay_142 : decode cX4_tellWay 142 = .ok (.aaload, 1) := by decide +kernel
theorem dX4_tellWay_143 : decode cX4_tellWay 143 = .ok (.aload_n 3, 1) := by decide +kernel
theorem dX4_tellWay_144 : decode cX4_tellWay 144 = .ok (.iload 4, 2) := by decide +kernel
theorem dX4_tellWay_146 : decode cX4_tellWay 146 = .ok (.invokevirtual 133, 3) := by decide +kernel
theorem dX4_tellWay_149 : decode cX4_tellWay 149 = .ok (.iinc 8 1, 3) := by decide +kernel
theorem dX4_tellWay_152 : decode cX4_tellWay 152 = .ok (.goto (-43), 3) := by decide +kernel
theorem dX4_tellWay_155 : decode cX4_tellWay 155 = .ok (.iload 5, 2) := by decide +kernel
theorem dX4_tellWay_157 : decode cX4_tellWay 157 = .ok (.iload 7, 2) := by decide +kernel
theorem dX4_tellWay_159 : decode cX4_tellWay 159 = .ok (.ixor, 1) := by decide +kernel
theorem dX4_tellWay_160 : decode cX4_tellWay 160 = .ok (.istore 5, 2) := by decide +kernel
theorem dX4_tellWay_162 : decode cX4_tellWay 162 = .ok (.iinc 6 (-1), 3) := by decide +kernel
theorem dX4_tellWay_165 : decode cX4_tellWay 165 = .ok (.goto (-102), 3) := by decide +kernel
theorem dX4_tellWay_168 : decode cX4_tellWay 168 = .ok (.return_, 1) := by decide +kernel
theorem dX4_tellOrder_0 : decode cX4_tellOrder 0 = .ok (.aload_n 1, 1) := by decide +kernel
theorem dX4_tellOrder_1 : decode cX4_tellOrder 1 = .ok (.aload_n 2, 1) := by decide +kernel
theorem dX4_tellOrder_2 : decode cX4_tellOrder 2 = .ok (.getfield 93, 3) := by decide +kernel
theorem dX4_tellOrder_5 : decode cX4_tellOrder 5 = .ok (.invokevirtual 118, 3) := by decide +kernel
theorem dX4_tellOrder_8 : decode cX4_tellOrder 8 = .ok (.istore 5, 2) := by decide +kernel
theorem dX4_tellOrder_10 : decode cX4_tellOrder 10 = .ok (.aload_n 0, 1) := by decide +kernel
theorem dX4_tellOrder_11 : decode cX4_tellOrder 11 = .ok (.getfield 27, 3) := by decide +kernel
theorem dX4_tellOrder_14 : decode cX4_tellOrder 14 = .ok (.getfield 100, 3) := by decide +kernel
theorem dX4_tellOrder_17 : decode cX4_tellOrder 17 = .ok (.iload 4, 2) := by decide +kernel
theorem dX4_tellOrder_19 : decode cX4_tellOrder 19 = .ok (.if_icmp .ne 13, 3) := by decide +kernel
theorem dX4_tellOrder_22 : decode cX4_tellOrder 22 = .ok (.aload_n 0, 1) := by decide +kernel
theorem dX4_tellOrder_23 : decode cX4_tellOrder 23 = .ok (.getfield 27, 3) := by decide +kernel
theorem dX4_tellOrder_26 : decode cX4_tellOrder 26 = .ok (.getfield 103, 3) := by decide +kernel
theorem dX4_tellOrder_29 : decode cX4_tellOrder 29 = .ok (.goto 4, 3) := by decide +kernel
theorem dX4_tellOrder_32 : decode cX4_tellOrder 32 = .ok (.iconst 0, 1) := by decide +kernel
theorem dX4_tellOrder_33 : decode cX4_tellOrder 33 = .ok (.istore 6, 2) := by decide +kernel
theorem dX4_tellOrder_35 : decode cX4_tellOrder 35 = .ok (.aload_n 0, 1) := by decide +kernel
theorem dX4_tellOrder_36 : decode cX4_tellOrder 36 = .ok (.getfield 27, 3) := by decide +kernel
theorem dX4_tellOrder_39 : decode cX4_tellOrder 39 = .ok (.aload_n 1, 1) := by decide +kernel
theorem dX4_tellOrder_40 : decode cX4_tellOrder 40 = .ok (.aload_n 2, 1) := by decide +kernel
theorem dX4_tellOrder_41 : decode cX4_tellOrder 41 = .ok (.aload_n 3, 1) := by decide +kernel
theorem dX4_tellOrder_42 : decode cX4_tellOrder 42 = .ok (.invokevirtual 109, 3) := by decide +kernel
theorem dX4_tellOrder_45 : decode cX4_tellOrder 45 = .ok (.ifCond .eq 72, 3) := by decide +kernel
theorem dX4_tellOrder_48 : decode cX4_tellOrder 48 = .ok (.aload_n 0, 1) := by decide +kernel
theorem dX4_tellOrder_49 : decode cX4_tellOrder 49 = .ok (.dup, 1) := by decide +kernel
theorem dX4_tellOrder_50 : decode cX4_tellOrder 50 = .ok (.getfield 128, 3) := by decide +kernel
theorem dX4_tellOrder_53 : decode cX4_tellOrder 53 = .ok (.aload_n 1, 1) := by decide +kernel
theorem dX4_tellOrder_54 : decode cX4_tellOrder 54 = .ok (.getfield 113, 3) := by decide +kernel
theorem dX4_tellOrder_57 : decode cX4_tellOrder 57 = .ok (.iadd, 1) := by decide +kernel
theorem dX4_tellOrder_58 : decode cX4_tellOrder 58 = .ok (.putfield 128, 3) := by decide +kernel
theorem dX4_tellOrder_61 : decode cX4_tellOrder 61 = .ok (.aload_n 0, 1) := by decide +kernel
theorem dX4_tellOrder_62 : decode cX4_tellOrder 62 = .ok (.dup, 1) := by decide +kernel
theorem dX4_tellOrder_63 : decode cX4_tellOrder 63 = .ok (.getfield 131, 3) := by decide +kernel
theorem dX4_tellOrder_66 : decode cX4_tellOrder 66 = .ok (.iload 5, 2) := by decide +kernel
theorem dX4_tellOrder_68 : decode cX4_tellOrder 68 = .ok (.iadd, 1) := by decide +kernel
theorem dX4_tellOrder_69 : decode cX4_tellOrder 69 = .ok (.putfield 131, 3) := by decide +kernel
theorem dX4_tellOrder_72 : decode cX4_tellOrder 72 = .ok (.aload_n 0, 1) := by decide +kernel
theorem dX4_tellOrder_73 : decode cX4_tellOrder 73 = .ok (.getfield 9, 3) := by decide +kernel
theorem dX4_tellOrder_76 : decode cX4_tellOrder 76 = .ok (.aload_n 1, 1) := by decide +kernel
theorem dX4_tellOrder_77 : decode cX4_tellOrder 77 = .ok (.getfield 127, 3) := by decide +kernel
theorem dX4_tellOrder_80 : decode cX4_tellOrder 80 = .ok (.aload_n 2, 1) := by decide +kernel
theorem dX4_tellOrder_81 : decode cX4_tellOrder 81 = .ok (.getfield 93, 3) := by decide +kernel
theorem dX4_tellOrder_84 : decode cX4_tellOrder 84 = .ok (.iastore, 1) := by decide +kernel
theorem dX4_tellOrder_85 : decode cX4_tellOrder 85 = .ok (.aload_n 0, 1) := by decide +kernel
theorem dX4_tellOrder_86 : decode cX4_tellOrder 86 = .ok (.getfield 15, 3) := by decide +kernel
theorem dX4_tellOrder_89 : decode cX4_tellOrder 89 = .ok (.aload_n 1, 1) := by decide +kernel
theorem dX4_tellOrder_90 : decode cX4_tellOrder 90 = .ok (.getfield 127, 3) := by decide +kernel
theorem dX4_tellOrder_93 : decode cX4_tellOrder 93 = .ok (.aload_n 0, 1) := by decide +kernel
theorem dX4_tellOrder_94 : decode cX4_tellOrder 94 = .ok (.getfield 27, 3) := by decide +kernel
theorem dX4_tellOrder_97 : decode cX4_tellOrder 97 = .ok (.getfield 100, 3) := by decide +kernel
theorem dX4_tellOrder_100 : decode cX4_tellOrder 100 = .ok (.iastore, 1) := by decide +kernel
theorem dX4_tellOrder_101 : decode cX4_tellOrder 101 = .ok (.aload_n 0, 1) := by decide +kernel
theorem dX4_tellOrder_102 : decode cX4_tellOrder 102 = .ok (.getfield 18, 3) := by decide +kernel
theorem dX4_tellOrder_105 : decode cX4_tellOrder 105 = .ok (.aload_n 1, 1) := by decide +kernel
theorem dX4_tellOrder_106 : decode cX4_tellOrder 106 = .ok (.getfield 127, 3) := by decide +kernel
theorem dX4_tellOrder_109 : decode cX4_tellOrder 109 = .ok (.iload 5, 2) := by decide +kernel
theorem dX4_tellOrder_111 : decode cX4_tellOrder 111 = .ok (.iload 6, 2) := by decide +kernel
theorem dX4_tellOrder_113 : decode cX4_tellOrder 113 = .ok (.invokestatic 137, 3) := by decide +kernel
theorem dX4_tellOrder_116 : decode cX4_tellOrder 116 = .ok (.iastore, 1) := by decide +kernel
theorem dX4_tellOrder_117 : decode cX4_tellOrder 117 = .ok (.return_, 1) := by decide +kernel
theorem dX8_init_0 : decode cX8_init 0 = .ok (.aload_n 0, 1) := by decide +kernel
theorem dX8_init_1 : decode cX8_init 1 = .ok (.invokespecial 3, 3) := by decide +kernel
theorem dX8_init_4 : decode cX8_init 4 = .ok (.aload_n 0, 1) := by decide +kernel
theorem dX8_init_5 : decode cX8_init 5 = .ok (.iconst 4, 1) := by decide +kernel
theorem dX8_init_6 : decode cX8_init 6 = .ok (.anewarray 9, 3) := by decide +kernel
theorem dX8_init_9 : decode cX8_init 9 = .ok (.putfield 11, 3) := by decide +kernel
theorem dX8_init_12 : decode cX8_init 12 = .ok (.aload_n 0, 1) := by decide +kernel
theorem dX8_init_13 : decode cX8_init 13 = .ok (.bipush 6, 2) := by decide +kernel
theorem dX8_init_15 : decode cX8_init 15 = .ok (.anewarray 15, 3) := by decide +kernel
theorem dX8_init_18 : decode cX8_init 18 = .ok (.putfield 17, 3) := by decide +kernel
theorem dX8_init_21 : decode cX8_init 21 = .ok (.aload_n 0, 1) := by decide +kernel
theorem dX8_init_22 : decode cX8_init 22 = .ok (.bipush 7, 2) := by decide +kernel
theorem dX8_init_24 : decode cX8_init 24 = .ok (.anewarray 21, 3) := by decide +kernel
theorem dX8_init_27 : decode cX8_init 27 = .ok (.putfield 23, 3) := by decide +kernel
theorem dX8_init_30 : decode cX8_init 30 = .ok (.aload_n 0, 1) := by decide +kernel
theorem dX8_init_31 : decode cX8_init 31 = .ok (.new 27, 3) := by decide +kernel
theorem dX8_init_34 : decode cX8_init 34 = .ok (.dup, 1) := by decide +kernel
theorem dX8_init_35 : decode cX8_init 35 = .ok (.invokespecial 29, 3) := by decide +kernel
theorem dX8_init_38 : decode cX8_init 38 = .ok (.putfield 30, 3) := by decide +kernel
theorem dX8_init_41 : decode cX8_init 41 = .ok (.aload_n 0, 1) := by decide +kernel
theorem dX8_init_42 : decode cX8_init 42 = .ok (.new 34, 3) := by decide +kernel
theorem dX8_init_45 : decode cX8_init 45 = .ok (.dup, 1) := by decide +kernel
theorem dX8_init_46 : decode cX8_init 46 = .ok (.invokespecial 36, 3) := by decide +kernel
theorem dX8_init_49 : decode cX8_init 49 = .ok (.putfield 37, 3) := by decide +kernel
theorem dX8_init_52 : decode cX8_init 52 = .ok (.aload_n 0, 1) := by decide +kernel
theorem dX8_init_53 : decode cX8_init 53 = .ok (.new 41, 3) := by decide +kernel
theorem dX8_init_56 : decode cX8_init 56 = .ok (.dup, 1) := by decide +kernel
theorem dX8_init_57 : decode cX8_init 57 = .ok (.invokespecial 43, 3) := by decide +kernel
theorem dX8_init_60 : decode cX8_init 60 = .ok (.putfield 44, 3) := by decide +kernel
theorem dX8_init_63 : decode cX8_init 63 = .ok (.aload_n 0, 1) := by decide +kernel
theorem dX8_init_64 : decode cX8_init 64 = .ok (.new 41, 3) := by decide +kernel
theorem dX8_init_67 : decode cX8_init 67 = .ok (.dup, 1) := by decide +kernel
theorem dX8_init_68 : decode cX8_init 68 = .ok (.invokespecial 43, 3) := by decide +kernel
theorem dX8_init_71 : decode cX8_init 71 = .ok (.putfield 48, 3) := by decide +kernel
theorem dX8_init_74 : decode cX8_init 74 = .ok (.iconst 0, 1) := by decide +kernel
theorem dX8_init_75 : decode cX8_init 75 = .ok (.istore_n 1, 1) := by decide +kernel
theorem dX8_init_76 : decode cX8_init 76 = .ok (.iload_n 1, 1) := by decide +kernel
theorem dX8_init_77 : decode cX8_init 77 = .ok (.iconst 4, 1) := by decide +kernel
theorem dX8_init_78 : decode cX8_init 78 = .ok (.if_icmp .ge 23, 3) := by decide +kernel
theorem dX8_init_81 : decode cX8_init 81 = .ok (.aload_n 0, 1) := by decide +kernel
theorem dX8_init_82 : decode cX8_init 82 = .ok (.getfield 11, 3) := by decide +kernel
theorem dX8_init_85 : decode cX8_init 85 = .ok (.iload_n 1, 1) := by decide +kernel
theorem dX8_init_86 : decode cX8_init 86 = .ok (.new 9, 3) := by decide +kernel
theorem dX8_init_89 : decode cX8_init 89 = .ok (.dup, 1) := by decide +kernel
theorem dX8_init_90 : decode cX8_init 90 = .ok (.iload_n 1, 1) := by decide +kernel
theorem dX8_init_91 : decode cX8_init 91 = .ok (.invokespecial 51, 3) := by decide +kernel
theorem dX8_init_94 : decode cX8_init 94 = .ok (.aastore, 1) := by decide +kernel
theorem dX8_init_95 : decode cX8_init 95 = .ok (.iinc 1 1, 3) := by decide +kernel
theorem dX8_init_98 : decode cX8_init 98 = .ok (.goto (-22), 3) := by decide +kernel
theorem dX8_init_101 : decode cX8_init 101 = .ok (.iconst 0, 1) := by decide +kernel
theorem dX8_init_102 : decode cX8_init 102 = .ok (.istore_n 1, 1) := by decide +kernel
theorem dX8_init_103 : decode cX8_init 103 = .ok (.iload_n 1, 1) := by decide +kernel
theorem dX8_init_104 : decode cX8_init 104 = .ok (.bipush 6, 2) := by decide +kernel
theorem dX8_init_106 : decode cX8_init 106 = .ok (.if_icmp .ge 22, 3) := by decide +kernel
theorem dX8_init_109 : decode cX8_init 109 = .ok (.aload_n 0, 1) := by decide +kernel
theorem dX8_init_110 : decode cX8_init 110 = .ok (.getfield 17, 3) := by decide +kernel
theorem dX8_init_113 : decode cX8_init 113 = .ok (.iload_n 1, 1) := by decide +kernel
theorem dX8_init_114 : decode cX8_init 114 = .ok (.new 15, 3) := by decide +kernel
theorem dX8_init_117 : decode cX8_init 117 = .ok (.dup, 1) := by decide +kernel
theorem dX8_init_118 : decode cX8_init 118 = .ok (.invokespecial 54, 3) := by decide +kernel
theorem dX8_init_121 : decode cX8_init 121 = .ok (.aastore, 1) := by decide +kernel
theorem dX8_init_122 : decode cX8_init 122 = .ok (.iinc 1 1, 3) := by decide +kernel
theorem dX8_init_125 : decode cX8_init 125 = .ok (.goto (-22), 3) := by decide +kernel
theorem dX8_init_128 : decode cX8_init 128 = .ok (.iconst 0, 1) := by decide +kernel
theorem dX8_init_129 : decode cX8_init 129 = .ok (.istore_n 1, 1) := by decide +kernel
theorem dX8_init_130 : decode cX8_init 130 = .ok (.iload_n 1, 1) := by decide +kernel
theorem dX8_init_131 : decode cX8_init 131 = .ok (.bipush 7, 2) := by decide +kernel
theorem dX8_init_133 : decode cX8_init 133 = .ok (.if_icmp .ge 23, 3) := by decide +kernel
theorem dX8_init_136 : decode cX8_init 136 = .ok (.aload_n 0, 1) := by decide +kernel
theorem dX8_init_137 : decode cX8_init 137 = .ok (.getfield 23, 3) := by decide +kernel
theorem dX8_init_140 : decode cX8_init 140 = .ok (.iload_n 1, 1) := by decide +kernel
theorem dX8_init_141 : decode cX8_init 141 = .ok (.new 21, 3) := by decide +kernel
theorem dX8_init_144 : decode cX8_init 144 = .ok (.dup, 1) := by decide +kernel
theorem dX8_init_145 : decode cX8_init 145 = .ok (.iload_n 1, 1) := by decide +kernel
theorem dX8_init_146 : decode cX8_init 146 = .ok (.invokespecial 55, 3) := by decide +kernel
theorem dX8_init_149 : decode cX8_init 149 = .ok (.aastore, 1) := by decide +kernel
theorem dX8_init_150 : decode cX8_init 150 = .ok (.iinc 1 1, 3) := by decide +kernel
theorem dX8_init_153 : decode cX8_init 153 = .ok (.goto (-23), 3) := by decide +kernel
theorem dX8_init_156 : decode cX8_init 156 = .ok (.return_, 1) := by decide +kernel
theorem dX8_hours_0 : decode cX8_hours 0 = .ok (.iload_n 1, 1) := by decide +kernel
theorem dX8_hours_1 : decode cX8_hours 1 = .ok (.invokestatic 56, 3) := by decide +kernel
theorem dX8_hours_4 : decode cX8_hours 4 = .ok (.ifCond .eq 21, 3) := by decide +kernel
theorem dX8_hours_7 : decode cX8_hours 7 = .ok (.aload_n 0, 1) := by decide +kernel
theorem dX8_hours_8 : decode cX8_hours 8 = .ok (.iload_n 2, 1) := by decide +kernel
theorem dX8_hours_9 : decode cX8_hours 9 = .ok (.invokevirtual 60, 3) := by decide +kernel
theorem dX8_hours_12 : decode cX8_hours 12 = .ok (.ifCond .eq 13, 3) := by decide +kernel
theorem dX8_hours_15 : decode cX8_hours 15 = .ok (.iload_n 3, 1) := by decide +kernel
theorem dX8_hours_16 : decode cX8_hours 16 = .ok (.iconst 0, 1) := by decide +kernel
theorem dX8_hours_17 : decode cX8_hours 17 = .ok (.bipush 99, 2) := by decide +kernel
theorem dX8_hours_19 : decode cX8_hours 19 = .ok (.invokestatic 63, 3) := by decide +kernel
theorem dX8_hours_22 : decode cX8_hours 22 = .ok (.ifCond .ne 5, 3) := by decide +kernel
theorem dX8_hours_25 : decode cX8_hours 25 = .ok (.iconst 0, 1) := by decide +kernel
theorem dX8_hours_26 : decode cX8_hours 26 = .ok (.ireturn, 1) := by decide +kernel
theorem dX8_hours_27 : decode cX8_hours 27 = .ok (.aload_n 0, 1) := by decide +kernel
theorem dX8_hours_28 : decode cX8_hours 28 = .ok (.getfield 11, 3) := by decide +kernel
theorem dX8_hours_31 : decode cX8_hours 31 = .ok (.iload_n 1, 1) := by decide +kernel
theorem dX8_hours_32 : decode cX8_hours 32 = .ok (.aaload, 1) := by decide +kernel
theorem dX8_hours_33 : decode cX8_hours 33 = .ok (.getfield 67, 3) := by decide +kernel
theorem dX8_hours_36 : decode cX8_hours 36 = .ok (.iload_n 2, 1) := by decide +kernel
theorem dX8_hours_37 : decode cX8_hours 37 = .ok (.iload_n 3, 1) := by decide +kernel
theorem dX8_hours_38 : decode cX8_hours 38 = .ok (.iastore, 1) := by decide +kernel
theorem dX8_hours_39 : decode cX8_hours 39 = .ok (.aload_n 0, 1) := by decide +kernel
theorem dX8_hours_40 : decode cX8_hours 40 = .ok (.iconst 0, 1) := by decide +kernel
theorem dX8_hours_41 : decode cX8_hours 41 = .ok (.putfield 71, 3) := by decide +kernel
theorem dX8_hours_44 : decode cX8_hours 44 = .ok (.iconst 1, 1) := by decide +kernel
theorem dX8_hours_45 : decode cX8_hours 45 = .ok (.ireturn, 1) := by decide +kernel
theorem dX8_pattern_0 : decode cX8_pattern 0 = .ok (.iload_n 1, 1) := by decide +kernel
theorem dX8_pattern_1 : decode cX8_pattern 1 = .ok (.invokestatic 75, 3) := by decide +kernel
theorem dX8_pattern_4 : decode cX8_pattern 4 = .ok (.ifCond .eq 34, 3) := by decide +kernel
theorem dX8_pattern_7 : decode cX8_pattern 7 = .ok (.iload_n 2, 1) := by decide +kernel
theorem dX8_pattern_8 : decode cX8_pattern 8 = .ok (.iconst 1, 1) := by decide +kernel
theorem dX8_pattern_9 : decode cX8_pattern 9 = .ok (.bipush 30, 2) := by decide +kernel
theorem dX8_pattern_11 : decode cX8_pattern 11 = .ok (.invokestatic 63, 3) := by decide +kernel
theorem dX8_pattern_14 : decode cX8_pattern 14 = .ok (.ifCond .eq 24, 3) := by decide +kernel
theorem dX8_pattern_17 : decode cX8_pattern 17 = .ok (.iload_n 3, 1) := by decide +kernel
theorem dX8_pattern_18 : decode cX8_pattern 18 = .ok (.iconst 0, 1) := by decide +kernel
theorem dX8_pattern_19 : decode cX8_pattern 19 = .ok (.bipush 20, 2) := by decide +kernel
theorem dX8_pattern_21 : decode cX8_pattern 21 = .ok (.invokestatic 63, 3) := by decide +kernel
theorem dX8_pattern_24 : decode cX8_pattern 24 = .ok (.ifCond .eq 14, 3) := by decide +kernel
theorem dX8_pattern_27 : decode cX8_pattern 27 = .ok (.iload 4, 2) := by decide +kernel
theorem dX8_pattern_29 : decode cX8_pattern 29 = .ok (.iconst 0, 1) := by decide +kernel
theorem dX8_pattern_30 : decode cX8_pattern 30 = .ok (.bipush 90, 2) := by decide +kernel
theorem dX8_pattern_32 : decode cX8_pattern 32 = .ok (.invokestatic 63, 3) := by decide +kernel
theorem dX8_pattern_35 : decode cX8_pattern 35 = .ok (.ifCond .ne 5, 3) := by decide +kernel
theorem dX8_pattern_38 : decode cX8_pattern 38 = .ok (.iconst 0, 1) := by decide +kernel
theorem dX8_pattern_39 : decode cX8_pattern 39 = .ok (.ireturn, 1) := by decide +kernel
theorem dX8_pattern_40 : decode cX8_pattern 40 = .ok (.aload_n 0, 1) := by decide +kernel
theorem dX8_pattern_41 : decode cX8_pattern 41 = .ok (.getfield 17, 3) := by decide +kernel
theorem dX8_pattern_44 : decode cX8_pattern 44 = .ok (.iload_n 1, 1) := by decide +kernel
theorem dX8_pattern_45 : decode cX8_pattern 45 = .ok (.aaload, 1) := by decide +kernel
theorem dX8_pattern_46 : decode cX8_pattern 46 = .ok (.iload_n 2, 1) := by decide +kernel
theorem dX8_pattern_47 : decode cX8_pattern 47 = .ok (.putfield 78, 3) := by decide +kernel
theorem dX8_pattern_50 : decode cX8_pattern 50 = .ok (.aload_n 0, 1) := by decide +kernel
theorem dX8_pattern_51 : decode cX8_pattern 51 = .ok (.getfield 17, 3) := by decide +kernel
theorem dX8_pattern_54 : decode cX8_pattern 54 = .ok (.iload_n 1, 1) := by decide +kernel
theorem dX8_pattern_55 : decode cX8_pattern 55 = .ok (.aaload, 1) := by decide +kernel
theorem dX8_pattern_56 : decode cX8_pattern 56 = .ok (.iload_n 3, 1) := by decide +kernel
theorem dX8_pattern_57 : decode cX8_pattern 57 = .ok (.putfield 81, 3) := by decide +kernel
theorem dX8_pattern_60 : decode cX8_pattern 60 = .ok (.aload_n 0, 1) := by decide +kernel
theorem dX8_pattern_61 : decode cX8_pattern 61 = .ok (.getfield 17, 3) := by decide +kernel
theorem dX8_pattern_64 : decode cX8_pattern 64 = .ok (.iload_n 1, 1) := by decide +kernel
theorem dX8_pattern_65 : decode cX8_pattern 65 = .ok (.aaload, 1) := by decide +kernel
theorem dX8_pattern_66 : decode cX8_pattern 66 = .ok (.iload 4, 2) := by decide +kernel
theorem dX8_pattern_68 : decode cX8_pattern 68 = .ok (.putfield 84, 3) := by decide +kernel
theorem dX8_pattern_71 : decode cX8_pattern 71 = .ok (.iconst 0, 1) := by decide +kernel
theorem dX8_pattern_72 : decode cX8_pattern 72 = .ok (.istore 5, 2) := by decide +kernel
theorem dX8_pattern_74 : decode cX8_pattern 74 = .ok (.iload 5, 2) := by decide +kernel
theorem dX8_pattern_76 : decode cX8_pattern 76 = .ok (.aload_n 0, 1) := by decide +kernel
theorem dX8_pattern_77 : decode cX8_pattern 77 = .ok (.getfield 87, 3) := by decide +kernel
theorem dX8_pattern_80 : decode cX8_pattern 80 = .ok (.if_icmp .ge 52, 3) := by decide +kernel
theorem dX8_pattern_83 : decode cX8_pattern 83 = .ok (.aload_n 0, 1) := by decide +kernel
theorem dX8_pattern_84 : decode cX8_pattern 84 = .ok (.getfield 23, 3) := by decide +kernel
theorem dX8_pattern_87 : decode cX8_pattern 87 = .ok (.iload 5, 2) := by decide +kernel
theorem dX8_pattern_89 : decode cX8_pattern 89 = .ok (.aaload, 1) := by decide +kernel
theorem dX8_pattern_90 : decode cX8_pattern 90 = .ok (.getfield 90, 3) := by decide +kernel
theorem dX8_pattern_93 : decode cX8_pattern 93 = .ok (.ifCond .ne 33, 3) := by decide +kernel
theorem dX8_pattern_96 : decode cX8_pattern 96 = .ok (.aload_n 0, 1) := by decide +kernel
theorem dX8_pattern_97 : decode cX8_pattern 97 = .ok (.getfield 23, 3) := by decide +kernel
theorem dX8_pattern_100 : decode cX8_pattern 100 = .ok (.iload 5, 2) := by decide +kernel
theorem dX8_pattern_102 : decode cX8_pattern 102 = .ok (.aaload, 1) := by decide +kernel
theorem dX8_pattern_103 : decode cX8_pattern 103 = .ok (.getfield 93, 3) := by decide +kernel
theorem dX8_pattern_106 : decode cX8_pattern 106 = .ok (.iload_n 1, 1) := by decide +kernel
theorem dX8_pattern_107 : decode cX8_pattern 107 = .ok (.if_icmp .ne 19, 3) := by decide +kernel
theorem dX8_pattern_110 : decode cX8_pattern 110 = .ok (.aload_n 0, 1) := by decide +kernel
theorem dX8_pattern_111 : decode cX8_pattern 111 = .ok (.getfield 23, 3) := by decide +kernel
theorem dX8_pattern_114 : decode cX8_pattern 114 = .ok (.iload 5, 2) := by decide +kernel
theorem dX8_pattern_116 : decode cX8_pattern 116 = .ok (.aaload, 1) := by decide +kernel
theorem dX8_pattern_117 : decode cX8_pattern 117 = .ok (.aload_n 0, 1) := by decide +kernel
theorem dX8_pattern_118 : decode cX8_pattern 118 = .ok (.getfield 17, 3) := by decide +kernel
theorem dX8_pattern_121 : decode cX8_pattern 121 = .ok (.iload_n 1, 1) := by decide +kernel
theorem dX8_pattern_122 : decode cX8_pattern 122 = .ok (.aaload, 1) := by decide +kernel
theorem dX8_pattern_123 : decode cX8_pattern 123 = .ok (.invokevirtual 96, 3) := by decide +kernel
theorem dX8_pattern_126 : decode cX8_pattern 126 = .ok (.iinc 5 1, 3) := by decide +kernel
theorem dX8_pattern_129 : decode cX8_pattern 129 = .ok (.goto (-55), 3) := by decide +kernel
theorem dX8_pattern_132 : decode cX8_pattern 132 = .ok (.aload_n 0, 1) := by decide +kernel
theorem dX8_pattern_133 : decode cX8_pattern 133 = .ok (.iconst 0, 1) := by decide +kernel
theorem dX8_pattern_134 : decode cX8_pattern 134 = .ok (.putfield 71, 3) := by decide +kernel
theorem dX8_pattern_137 : decode cX8_pattern 137 = .ok (.iconst 1, 1) := by decide +kernel
theorem dX8_pattern_138 : decode cX8_pattern 138 = .ok (.ireturn, 1) := by decide +kernel
theorem dX8_lend_0 : decode cX8_lend 0 = .ok (.iload_n 1, 1) := by decide +kernel
theorem dX8_lend_1 : decode cX8_lend 1 = .ok (.invokestatic 56, 3) := by decide +kernel
theorem dX8_lend_4 : decode cX8_lend 4 = .ok (.ifCond .eq 30, 3) := by decide +kernel
theorem dX8_lend_7 : decode cX8_lend 7 = .ok (.iload_n 2, 1) := by decide +kernel
theorem dX8_lend_8 : decode cX8_lend 8 = .ok (.iconst 1, 1) := by decide +kernel
theorem dX8_lend_9 : decode cX8_lend 9 = .ok (.sipush 9999, 3) := by decide +kernel
theorem dX8_lend_12 : decode cX8_lend 12 = .ok (.invokestatic 63, 3) := by decide +kernel
theorem dX8_lend_15 : decode cX8_lend 15 = .ok (.ifCond .eq 19, 3) := by decide +kernel
theorem dX8_lend_18 : decode cX8_lend 18 = .ok (.aload_n 0, 1) := by decide +kernel
theorem dX8_lend_19 : decode cX8_lend 19 = .ok (.getfield 11, 3) := by decide +kernel
theorem dX8_lend_22 : decode cX8_lend 22 = .ok (.iload_n 1, 1) := by decide +kernel
theorem dX8_lend_23 : decode cX8_lend 23 = .ok (.aaload, 1) := by decide +kernel
theorem dX8_lend_24 : decode cX8_lend 24 = .ok (.getfield 100, 3) := by decide +kernel
theorem dX8_lend_27 : decode cX8_lend 27 = .ok (.iload_n 2, 1) := by decide +kernel
theorem dX8_lend_28 : decode cX8_lend 28 = .ok (.iadd, 1) := by decide +kernel
theorem dX8_lend_29 : decode cX8_lend 29 = .ok (.ldc 101, 2) := by decide +kernel
theorem dX8_lend_31 : decode cX8_lend 31 = .ok (.if_icmp .le 5, 3) := by decide +kernel
theorem dX8_lend_34 : decode cX8_lend 34 = .ok (.iconst 0, 1) := by decide +kernel
theorem dX8_lend_35 : decode cX8_lend 35 = .ok (.ireturn, 1) := by decide +kernel
theorem dX8_lend_36 : decode cX8_lend 36 = .ok (.aload_n 0, 1) := by decide +kernel
theorem dX8_lend_37 : decode cX8_lend 37 = .ok (.getfield 11, 3) := by decide +kernel
theorem dX8_lend_40 : decode cX8_lend 40 = .ok (.iload_n 1, 1) := by decide +kernel
theorem dX8_lend_41 : decode cX8_lend 41 = .ok (.aaload, 1) := by decide +kernel
theorem dX8_lend_42 : decode cX8_lend 42 = .ok (.dup, 1) := by decide +kernel
theorem dX8_lend_43 : decode cX8_lend 43 = .ok (.getfield 100, 3) := by decide +kernel
theorem dX8_lend_46 : decode cX8_lend 46 = .ok (.iload_n 2, 1) := by decide +kernel
theorem dX8_lend_47 : decode cX8_lend 47 = .ok (.iadd, 1) := by decide +kernel
theorem dX8_lend_48 : decode cX8_lend 48 = .ok (.putfield 100, 3) := by decide +kernel
theorem dX8_lend_51 : decode cX8_lend 51 = .ok (.aload_n 0, 1) := by decide +kernel
theorem dX8_lend_52 : decode cX8_lend 52 = .ok (.iconst 0, 1) := by decide +kernel
theorem dX8_lend_53 : decode cX8_lend 53 = .ok (.putfield 71, 3) := by decide +kernel
theorem dX8_lend_56 : decode cX8_lend 56 = .ok (.iconst 1, 1) := by decide +kernel
theorem dX8_lend_57 : decode cX8_lend 57 = .ok (.ireturn, 1) := by decide +kernel
theorem dX8_bring_0 : decode cX8_bring 0 = .ok (.iload_n 1, 1) := by decide +kernel
theorem dX8_bring_1 : decode cX8_bring 1 = .ok (.invokestatic 56, 3) := by decide +kernel
theorem dX8_bring_4 : decode cX8_bring 4 = .ok (.ifCond .ne 5, 3) := by decide +kernel
theorem dX8_bring_7 : decode cX8_bring 7 = .ok (.iconst (-1), 1) := by decide +kernel
theorem dX8_bring_8 : decode cX8_bring 8 = .ok (.ireturn, 1) := by decide +kernel
theorem dX8_bring_9 : decode cX8_bring 9 = .ok (.aload_n 0, 1) := by decide +kernel
theorem dX8_bring_10 : decode cX8_bring 10 = .ok (.getfield 11, 3) := by decide +kernel
theorem dX8_bring_13 : decode cX8_bring 13 = .ok (.iload_n 1, 1) := by decide +kernel
theorem dX8_bring_14 : decode cX8_bring 14 = .ok (.aaload, 1) := by decide +kernel
theorem dX8_bring_15 : decode cX8_bring 15 = .ok (.getfield 100, 3) := by decide +kernel
theorem dX8_bring_18 : decode cX8_bring 18 = .ok (.istore_n 2, 1) := by decide +kernel
theorem dX8_bring_19 : decode cX8_bring 19 = .ok (.aload_n 0, 1) := by decide +kernel
theorem dX8_bring_20 : decode cX8_bring 20 = .ok (.getfield 11, 3) := by decide +kernel
theorem dX8_bring_23 : decode cX8_bring 23 = .ok (.iload_n 1, 1) := by decide +kernel
theorem dX8_bring_24 : decode cX8_bring 24 = .ok (.aaload, 1) := by decide +kernel
theorem dX8_bring_25 : decode cX8_bring 25 = .ok (.iconst 0, 1) := by decide +kernel
theorem dX8_bring_26 : decode cX8_bring 26 = .ok (.putfield 100, 3) := by decide +kernel
theorem dX8_bring_29 : decode cX8_bring 29 = .ok (.aload_n 0, 1) := by decide +kernel
theorem dX8_bring_30 : decode cX8_bring 30 = .ok (.iconst 0, 1) := by decide +kernel
theorem dX8_bring_31 : decode cX8_bring 31 = .ok (.putfield 71, 3) := by decide +kernel
theorem dX8_bring_34 : decode cX8_bring 34 = .ok (.iload_n 2, 1) := by decide +kernel
theorem dX8_bring_35 : decode cX8_bring 35 = .ok (.ireturn, 1) := by decide +kernel
theorem dX8_order_0 : decode cX8_order 0 = .ok (.iload_n 1, 1) := by decide +kernel
theorem dX8_order_1 : decode cX8_order 1 = .ok (.invokestatic 75, 3) := by decide +kernel
theorem dX8_order_4 : decode cX8_order 4 = .ok (.ifCond .eq 42, 3) := by decide +kernel
theorem dX8_order_7 : decode cX8_order 7 = .ok (.iload_n 2, 1) := by decide +kernel
theorem dX8_order_8 : decode cX8_order 8 = .ok (.iconst 1, 1) := by decide +kernel
theorem dX8_order_9 : decode cX8_order 9 = .ok (.bipush 20, 2) := by decide +kernel
theorem dX8_order_11 : decode cX8_order 11 = .ok (.invokestatic 63, 3) := by decide +kernel
theorem dX8_order_14 : decode cX8_order 14 = .ok (.ifCond .eq 32, 3) := by decide +kernel
theorem dX8_order_17 : decode cX8_order 17 = .ok (.aload_n 0, 1) := by decide +kernel
theorem dX8_order_18 : decode cX8_order 18 = .ok (.iload_n 3, 1) := by decide +kernel
theorem dX8_order_19 : decode cX8_order 19 = .ok (.invokevirtual 60, 3) := by decide +kernel
theorem dX8_order_22 : decode cX8_order 22 = .ok (.ifCond .eq 24, 3) := by decide +kernel
theorem dX8_order_25 : decode cX8_order 25 = .ok (.iload 4, 2) := by decide +kernel
theorem dX8_order_27 : decode cX8_order 27 = .ok (.iconst 1, 1) := by decide +kernel
theorem dX8_order_28 : decode cX8_order 28 = .ok (.sipush 9999, 3) := by decide +kernel
theorem dX8_order_31 : decode cX8_order 31 = .ok (.invokestatic 63, 3) := by decide +kernel
theorem dX8_order_34 : decode cX8_order 34 = .ok (.ifCond .eq 12, 3) := by decide +kernel
theorem dX8_order_37 : decode cX8_order 37 = .ok (.aload_n 0, 1) := by decide +kernel
theorem dX8_order_38 : decode cX8_order 38 = .ok (.getfield 87, 3) := by decide +kernel
theorem dX8_order_41 : decode cX8_order 41 = .ok (.bipush 7, 2) := by decide +kernel
theorem dX8_order_43 : decode cX8_order 43 = .ok (.if_icmp .lt 5, 3) := by decide +kernel
theorem dX8_order_46 : decode cX8_order 46 = .ok (.iconst (-1), 1) := by decide +kernel
theorem dX8_order_47 : decode cX8_order 47 = .ok (.ireturn, 1) := by decide +kernel
theorem dX8_order_48 : decode cX8_order 48 = .ok (.aload_n 0, 1) := by decide +kernel
theorem dX8_order_49 : decode cX8_order 49 = .ok (.getfield 23, 3) := by decide +kernel
theorem dX8_order_52 : decode cX8_order 52 = .ok (.aload_n 0, 1) := by decide +kernel
theorem dX8_order_53 : decode cX8_order 53 = .ok (.getfield 87, 3) := by decide +kernel
theorem dX8_order_56 : decode cX8_order 56 = .ok (.aaload, 1) := by decide +kernel
theorem dX8_order_57 : decode cX8_order 57 = .ok (.astore 5, 2) := by decide +kernel
theorem dX8_order_59 : decode cX8_order 59 = .ok (.aload 5, 2) := by decide +kernel
theorem dX8_order_61 : decode cX8_order 61 = .ok (.iload_n 1, 1) := by decide +kernel
theorem dX8_order_62 : decode cX8_order 62 = .ok (.putfield 93, 3) := by decide +kernel
theorem dX8_order_65 : decode cX8_order 65 = .ok (.aload 5, 2) := by decide +kernel
theorem dX8_order_67 : decode cX8_order 67 = .ok (.iload_n 2, 1) := by decide +kernel
theorem dX8_order_68 : decode cX8_order 68 = .ok (.putfield 102, 3) := by decide +kernel
theorem dX8_order_71 : decode cX8_order 71 = .ok (.aload 5, 2) := by decide +kernel
theorem dX8_order_73 : decode cX8_order 73 = .ok (.iload_n 3, 1) := by decide +kernel
theorem dX8_order_74 : decode cX8_order 74 = .ok (.putfield 105, 3) := by decide +kernel
theorem dX8_order_77 : decode cX8_order 77 = .ok (.aload 5, 2) := by decide +kernel
theorem dX8_order_79 : decode cX8_order 79 = .ok (.iload 4, 2) := by decide +kernel
theorem dX8_order_81 : decode cX8_order 81 = .ok (.putfield 108, 3) := by decide +kernel
theorem dX8_order_84 : decode cX8_order 84 = .ok (.aload 5, 2) := by decide +kernel
theorem dX8_order_86 : decode cX8_order 86 = .ok (.aload_n 0, 1) := by decide +kernel
theorem dX8_order_87 : decode cX8_order 87 = .ok (.getfield 17, 3) := by decide +kernel
theorem dX8_order_90 : decode cX8_order 90 = .ok (.iload_n 1, 1) := by decide +kernel
theorem dX8_order_91 : decode cX8_order 91 = .ok (.aaload, 1) := by decide +kernel
theorem dX8_order_92 : decode cX8_order 92 = .ok (.invokevirtual 96, 3) := by decide +kernel
theorem dX8_order_95 : decode cX8_order 95 = .ok (.aload_n 0, 1) := by decide +kernel
theorem dX8_order_96 : decode cX8_order 96 = .ok (.dup, 1) := by decide +kernel
theorem dX8_order_97 : decode cX8_order 97 = .ok (.getfield 87, 3) := by decide +kernel
theorem dX8_order_100 : decode cX8_order 100 = .ok (.iconst 1, 1) := by decide +kernel
theorem dX8_order_101 : decode cX8_order 101 = .ok (.iadd, 1) := by decide +kernel
theorem dX8_order_102 : decode cX8_order 102 = .ok (.putfield 87, 3) := by decide +kernel
theorem dX8_order_105 : decode cX8_order 105 = .ok (.aload_n 0, 1) := by decide +kernel
theorem dX8_order_106 : decode cX8_order 106 = .ok (.iconst 0, 1) := by decide +kernel
theorem dX8_order_107 : decode cX8_order 107 = .ok (.putfield 71, 3) := by decide +kernel
theorem dX8_order_110 : decode cX8_order 110 = .ok (.aload 5, 2) := by decide +kernel
theorem dX8_order_112 : decode cX8_order 112 = .ok (.getfield 111, 3) := by decide +kernel
theorem dX8_order_115 : decode cX8_order 115 = .ok (.ireturn, 1) := by decide +kernel
theorem dX8_drop_0 : decode cX8_drop 0 = .ok (.aload_n 0, 1) := by decide +kernel
theorem dX8_drop_1 : decode cX8_drop 1 = .ok (.iload_n 1, 1) := by decide +kernel
theorem dX8_drop_2 : decode cX8_drop 2 = .ok (.invokevirtual 114, 3) := by decide +kernel
theorem dX8_drop_5 : decode cX8_drop 5 = .ok (.ifCond .eq 15, 3) := by decide +kernel
theorem dX8_drop_8 : decode cX8_drop 8 = .ok (.aload_n 0, 1) := by decide +kernel
theorem dX8_drop_9 : decode cX8_drop 9 = .ok (.getfield 23, 3) := by decide +kernel
theorem dX8_drop_12 : decode cX8_drop 12 = .ok (.iload_n 1, 1) := by decide +kernel
theorem dX8_drop_13 : decode cX8_drop 13 = .ok (.aaload, 1) := by decide +kernel
theorem dX8_drop_14 : decode cX8_drop 14 = .ok (.getfield 90, 3) := by decide +kernel
theorem dX8_drop_17 : decode cX8_drop 17 = .ok (.ifCond .eq 5, 3) := by decide +kernel
theorem dX8_drop_20 : decode cX8_drop 20 = .ok (.iconst 0, 1) := by decide +kernel
theorem dX8_drop_21 : decode cX8_drop 21 = .ok (.ireturn, 1) := by decide +kernel
theorem dX8_drop_22 : decode cX8_drop 22 = .ok (.aload_n 0, 1) := by decide +kernel
theorem dX8_drop_23 : decode cX8_drop 23 = .ok (.getfield 23, 3) := by decide +kernel
theorem dX8_drop_26 : decode cX8_drop 26 = .ok (.iload_n 1, 1) := by decide +kernel
theorem dX8_drop_27 : decode cX8_drop 27 = .ok (.aaload, 1) := by decide +kernel
theorem dX8_drop_28 : decode cX8_drop 28 = .ok (.iconst 2, 1) := by decide +kernel
theorem dX8_drop_29 : decode cX8_drop 29 = .ok (.putfield 90, 3) := by decide +kernel
theorem dX8_drop_32 : decode cX8_drop 32 = .ok (.aload_n 0, 1) := by decide +kernel
theorem dX8_drop_33 : decode cX8_drop 33 = .ok (.iconst 0, 1) := by decide +kernel
theorem dX8_drop_34 : decode cX8_drop 34 = .ok (.putfield 71, 3) := by decide +kernel
theorem dX8_drop_37 : decode cX8_drop 37 = .ok (.iconst 1, 1) := by decide +kernel
theorem dX8_drop_38 : decode cX8_drop 38 = .ok (.ireturn, 1) := by decide +kernel
theorem dX8_feed_0 : decode cX8_feed 0 = .ok (.aload_n 0, 1) := by decide +kernel
theorem dX8_feed_1 : decode cX8_feed 1 = .ok (.getfield 30, 3) := by decide +kernel
theorem dX8_feed_4 : decode cX8_feed 4 = .ok (.getfield 117, 3) := by decide +kernel
theorem dX8_feed_7 : decode cX8_feed 7 = .ok (.astore 6, 2) := by decide +kernel
theorem dX8_feed_9 : decode cX8_feed 9 = .ok (.aload 6, 2) := by decide +kernel
theorem dX8_feed_11 : decode cX8_feed 11 = .ok (.getfield 121, 3) := by decide +kernel
theorem dX8_feed_14 : decode cX8_feed 14 = .ok (.bipush 20, 2) := by decide +kernel
theorem dX8_feed_16 : decode cX8_feed 16 = .ok (.iadd, 1) := by decide +kernel
theorem dX8_feed_17 : decode cX8_feed 17 = .ok (.sipush 500, 3) := by decide +kernel
theorem dX8_feed_20 : decode cX8_feed 20 = .ok (.if_icmp .le 5, 3) := by decide +kernel
theorem dX8_feed_23 : decode cX8_feed 23 = .ok (.iconst (-1), 1) := by decide +kernel
theorem dX8_feed_24 : decode cX8_feed 24 = .ok (.ireturn, 1) := by decide +kernel
theorem dX8_feed_25 : decode cX8_feed 25 = .ok (.aload 6, 2) := by decide +kernel
theorem dX8_feed_27 : decode cX8_feed 27 = .ok (.iload_n 1, 1) := by decide +kernel
theorem dX8_feed_28 : decode cX8_feed 28 = .ok (.invokevirtual 126, 3) := by decide +kernel
theorem dX8_feed_31 : decode cX8_feed 31 = .ok (.aload 6, 2) := by decide +kernel
theorem dX8_feed_33 : decode cX8_feed 33 = .ok (.iload_n 2, 1) := by decide +kernel
theorem dX8_feed_34 : decode cX8_feed 34 = .ok (.invokevirtual 126, 3) := by decide +kernel
theorem dX8_feed_37 : decode cX8_feed 37 = .ok (.aload 6, 2) := by decide +kernel
theorem dX8_feed_39 : decode cX8_feed 39 = .ok (.iload_n 3, 1) := by decide +kernel
theorem dX8_feed_40 : decode cX8_feed 40 = .ok (.invokevirtual 126, 3) := by decide +kernel
theorem dX8_feed_43 : decode cX8_feed 43 = .ok (.aload 6, 2) := by decide +kernel
theorem dX8_feed_45 : decode cX8_feed 45 = .ok (.iload 4, 2) := by decide +kernel
theorem dX8_feed_47 : decode cX8_feed 47 = .ok (.invokevirtual 126, 3) := by decide +kernel
theorem dX8_feed_50 : decode cX8_feed 50 = .ok (.aload 6, 2) := by decide +kernel
theorem dX8_feed_52 : decode cX8_feed 52 = .ok (.iload 5, 2) := by decide +kernel
theorem dX8_feed_54 : decode cX8_feed 54 = .ok (.invokevirtual 126, 3) := by decide +kernel
theorem dX8_feed_57 : decode cX8_feed 57 = .ok (.aload 6, 2) := by decide +kernel
theorem dX8_feed_59 : decode cX8_feed 59 = .ok (.getfield 121, 3) := by decide +kernel
theorem dX8_feed_62 : decode cX8_feed 62 = .ok (.ireturn, 1) := by decide +kernel
theorem dX8_end_0 : decode cX8_end 0 = .ok (.iload_n 1, 1) := by decide +kernel
theorem dX8_end_1 : decode cX8_end 1 = .ok (.iconst 0, 1) := by decide +kernel
theorem dX8_end_2 : decode cX8_end 2 = .ok (.aload_n 0, 1) := by decide +kernel
theorem dX8_end_3 : decode cX8_end 3 = .ok (.getfield 30, 3) := by decide +kernel
theorem dX8_end_6 : decode cX8_end 6 = .ok (.getfield 117, 3) := by decide +kernel
theorem dX8_end_9 : decode cX8_end 9 = .ok (.getfield 121, 3) := by decide +kernel
theorem dX8_end_12 : decode cX8_end 12 = .ok (.invokestatic 63, 3) := by decide +kernel
theorem dX8_end_15 : decode cX8_end 15 = .ok (.ifCond .ne 5, 3) := by decide +kernel
theorem dX8_end_18 : decode cX8_end 18 = .ok (.iconst 0, 1) := by decide +kernel
theorem dX8_end_19 : decode cX8_end 19 = .ok (.ireturn, 1) := by decide +kernel
theorem dX8_end_20 : decode cX8_end 20 = .ok (.aload_n 0, 1) := by decide +kernel
theorem dX8_end_21 : decode cX8_end 21 = .ok (.getfield 30, 3) := by decide +kernel
theorem dX8_end_24 : decode cX8_end 24 = .ok (.getfield 117, 3) := by decide +kernel
theorem dX8_end_27 : decode cX8_end 27 = .ok (.iload_n 1, 1) := by decide +kernel
theorem dX8_end_28 : decode cX8_end 28 = .ok (.putfield 121, 3) := by decide +kernel
theorem dX8_end_31 : decode cX8_end 31 = .ok (.iconst 1, 1) := by decide +kernel
theorem dX8_end_32 : decode cX8_end 32 = .ok (.ireturn, 1) := by decide +kernel
theorem dX8_custom_0 : decode cX8_custom 0 = .ok (.aload_n 0, 1) := by decide +kernel
theorem dX8_custom_1 : decode cX8_custom 1 = .ok (.getfield 30, 3) := by decide +kernel
theorem dX8_custom_4 : decode cX8_custom 4 = .ok (.aload_n 0, 1) := by decide +kernel
theorem dX8_custom_5 : decode cX8_custom 5 = .ok (.getfield 48, 3) := by decide +kernel
theorem dX8_custom_8 : decode cX8_custom 8 = .ok (.invokevirtual 129, 3) := by decide +kernel
theorem dX8_custom_11 : decode cX8_custom 11 = .ok (.istore_n 1, 1) := by decide +kernel
theorem dX8_custom_12 : decode cX8_custom 12 = .ok (.aload_n 0, 1) := by decide +kernel
theorem dX8_custom_13 : decode cX8_custom 13 = .ok (.getfield 30, 3) := by decide +kernel
theorem dX8_custom_16 : decode cX8_custom 16 = .ok (.getfield 117, 3) := by decide +kernel
theorem dX8_custom_19 : decode cX8_custom 19 = .ok (.iconst 0, 1) := by decide +kernel
theorem dX8_custom_20 : decode cX8_custom 20 = .ok (.putfield 121, 3) := by decide +kernel
theorem dX8_custom_23 : decode cX8_custom 23 = .ok (.iload_n 1, 1) := by decide +kernel
theorem dX8_custom_24 : decode cX8_custom 24 = .ok (.ifCond .ne 5, 3) := by decide +kernel
theorem dX8_custom_27 : decode cX8_custom 27 = .ok (.iconst (-1), 1) := by decide +kernel
theorem dX8_custom_28 : decode cX8_custom 28 = .ok (.ireturn, 1) := by decide +kernel
theorem dX8_custom_29 : decode cX8_custom 29 = .ok (.aload_n 0, 1) := by decide +kernel
theorem dX8_custom_30 : decode cX8_custom 30 = .ok (.getfield 44, 3) := by decide +kernel
theorem dX8_custom_33 : decode cX8_custom 33 = .ok (.astore_n 2, 1) := by decide +kernel
theorem dX8_custom_34 : decode cX8_custom 34 = .ok (.aload_n 0, 1) := by decide +kernel
theorem dX8_custom_35 : decode cX8_custom 35 = .ok (.aload_n 0, 1) := by decide +kernel
theorem dX8_custom_36 : decode cX8_custom 36 = .ok (.getfield 48, 3) := by decide +kernel
theorem dX8_custom_39 : decode cX8_custom 39 = .ok (.putfield 44, 3) := by decide +kernel
theorem dX8_custom_42 : decode cX8_custom 42 = .ok (.aload_n 0, 1) := by decide +kernel
theorem dX8_custom_43 : decode cX8_custom 43 = .ok (.aload_n 2, 1) := by decide +kernel
theorem dX8_custom_44 : decode cX8_custom 44 = .ok (.putfield 48, 3) := by decide +kernel
theorem dX8_custom_47 : decode cX8_custom 47 = .ok (.aload_n 0, 1) := by decide +kernel
theorem dX8_custom_48 : decode cX8_custom 48 = .ok (.iconst 0, 1) := by decide +kernel
theorem dX8_custom_49 : decode cX8_custom 49 = .ok (.putfield 71, 3) := by decide +kernel
theorem dX8_custom_52 : decode cX8_custom 52 = .ok (.aload_n 0, 1) := by decide +kernel
theorem dX8_custom_53 : decode cX8_custom 53 = .ok (.getfield 30, 3) := by decide +kernel
theorem dX8_custom_56 : decode cX8_custom 56 = .ok (.getfield 133, 3) := by decide +kernel
theorem dX8_custom_59 : decode cX8_custom 59 = .ok (.ireturn, 1) := by decide +kernel
theorem dX8_fault_0 : decode cX8_fault 0 = .ok (.iload_n 1, 1) := by decide +kernel
theorem dX8_fault_1 : decode cX8_fault 1 = .ok (.lookupswitch 43 #[(0, 27), (1, 35)], 27) := by decide +kernel
theorem dX8_fault_28 : decode cX8_fault 28 = .ok (.aload_n 0, 1) := by decide +kernel
theorem dX8_fault_29 : decode cX8_fault 29 = .ok (.getfield 30, 3) := by decide +kernel
theorem dX8_fault_32 : decode cX8_fault 32 = .ok (.getfield 136, 3) := by decide +kernel
theorem dX8_fault_35 : decode cX8_fault 35 = .ok (.ireturn, 1) := by decide +kernel
theorem dX8_fault_36 : decode cX8_fault 36 = .ok (.aload_n 0, 1) := by decide +kernel
theorem dX8_fault_37 : decode cX8_fault 37 = .ok (.getfield 30, 3) := by decide +kernel
theorem dX8_fault_40 : decode cX8_fault 40 = .ok (.getfield 139, 3) := by decide +kernel
theorem dX8_fault_43 : decode cX8_fault 43 = .ok (.ireturn, 1) := by decide +kernel
theorem dX8_fault_44 : decode cX8_fault 44 = .ok (.iconst (-1), 1) := by decide +kernel
theorem dX8_fault_45 : decode cX8_fault 45 = .ok (.ireturn, 1) := by decide +kernel
theorem dX8_may_0 : decode cX8_may 0 = .ok (.iload_n 1, 1) := by decide +kernel
theorem dX8_may_1 : decode cX8_may 1 = .ok (.invokestatic 56, 3) := by decide +kernel
theorem dX8_may_4 : decode cX8_may 4 = .ok (.ifCond .eq 20, 3) := by decide +kernel
theorem dX8_may_7 : decode cX8_may 7 = .ok (.iload_n 2, 1) := by decide +kernel
theorem dX8_may_8 : decode cX8_may 8 = .ok (.invokestatic 75, 3) := by decide +kernel
theorem dX8_may_11 : decode cX8_may 11 = .ok (.ifCond .eq 13, 3) := by decide +kernel
theorem dX8_may_14 : decode cX8_may 14 = .ok (.iload_n 3, 1) := by decide +kernel
theorem dX8_may_15 : decode cX8_may 15 = .ok (.iconst 0, 1) := by decide +kernel
theorem dX8_may_16 : decode cX8_may 16 = .ok (.bipush 51, 2) := by decide +kernel
theorem dX8_may_18 : decode cX8_may 18 = .ok (.invokestatic 63, 3) := by decide +kernel
theorem dX8_may_21 : decode cX8_may 21 = .ok (.ifCond .ne 5, 3) := by decide +kernel
theorem dX8_may_24 : decode cX8_may 24 = .ok (.iconst (-1), 1) := by decide +kernel
theorem dX8_may_25 : decode cX8_may 25 = .ok (.ireturn, 1) := by decide +kernel
theorem dX8_may_26 : decode cX8_may 26 = .ok (.aload_n 0, 1) := by decide +kernel
theorem dX8_may_27 : decode cX8_may 27 = .ok (.getfield 44, 3) := by decide +kernel
theorem dX8_may_30 : decode cX8_may 30 = .ok (.iload_n 1, 1) := by decide +kernel
theorem dX8_may_31 : decode cX8_may 31 = .ok (.iload_n 2, 1) := by decide +kernel
theorem dX8_may_32 : decode cX8_may 32 = .ok (.iload_n 3, 1) := by decide +kernel
theorem dX8_may_33 : decode cX8_may 33 = .ok (.invokevirtual 142, 3) := by decide +kernel
theorem dX8_may_36 : decode cX8_may 36 = .ok (.ifCond .eq 7, 3) := by decide +kernel
theorem dX8_may_39 : decode cX8_may 39 = .ok (.iconst 1, 1) := by decide +kernel
theorem dX8_may_40 : decode cX8_may 40 = .ok (.goto 4, 3) := by decide +kernel
theorem dX8_may_43 : decode cX8_may 43 = .ok (.iconst 0, 1) := by decide +kernel
theorem dX8_may_44 : decode cX8_may 44 = .ok (.ireturn, 1) := by decide +kernel
theorem dX8_look_0 : decode cX8_look 0 = .ok (.iload_n 1, 1) := by decide +kernel
theorem dX8_look_1 : decode cX8_look 1 = .ok (.bipush 10, 2) := by decide +kernel
theorem dX8_look_3 : decode cX8_look 3 = .ok (.isub, 1) := by decide +kernel
theorem dX8_look_4 : decode cX8_look 4 = .ok (.invokestatic 56, 3) := by decide +kernel
theorem dX8_look_7 : decode cX8_look 7 = .ok (.ifCond .eq 16, 3) := by decide +kernel
theorem dX8_look_10 : decode cX8_look 10 = .ok (.aload_n 0, 1) := by decide +kernel
theorem dX8_look_11 : decode cX8_look 11 = .ok (.getfield 11, 3) := by decide +kernel
theorem dX8_look_14 : decode cX8_look 14 = .ok (.iload_n 1, 1) := by decide +kernel
theorem dX8_look_15 : decode cX8_look 15 = .ok (.bipush 10, 2) := by decide +kernel
theorem dX8_look_17 : decode cX8_look 17 = .ok (.isub, 1) := by decide +kernel
theorem dX8_look_18 : decode cX8_look 18 = .ok (.aaload, 1) := by decide +kernel
theorem dX8_look_19 : decode cX8_look 19 = .ok (.getfield 100, 3) := by decide +kernel
theorem dX8_look_22 : decode cX8_look 22 = .ok (.ireturn, 1) := by decide +kernel
theorem dX8_look_23 : decode cX8_look 23 = .ok (.iload_n 1, 1) := by decide +kernel
theorem dX8_look_24 : decode cX8_look 24 = .ok (.bipush 20, 2) := by decide +kernel
theorem dX8_look_26 : decode cX8_look 26 = .ok (.isub, 1) := by decide +kernel
theorem dX8_look_27 : decode cX8_look 27 = .ok (.invokestatic 56, 3) := by decide +kernel
theorem dX8_look_30 : decode cX8_look 30 = .ok (.ifCond .eq 16, 3) := by decide +kernel
theorem dX8_look_33 : decode cX8_look 33 = .ok (.aload_n 0, 1) := by decide +kernel
theorem dX8_look_34 : decode cX8_look 34 = .ok (.getfield 11, 3) := by decide +kernel
theorem dX8_look_37 : decode cX8_look 37 = .ok (.iload_n 1, 1) := by decide +kernel
theorem dX8_look_38 : decode cX8_look 38 = .ok (.bipush 20, 2) := by decide +kernel
theorem dX8_look_40 : decode cX8_look 40 = .ok (.isub, 1) := by decide +kernel
theorem dX8_look_41 : decode cX8_look 41 = .ok (.aaload, 1) := by decide +kernel
theorem dX8_look_42 : decode cX8_look 42 = .ok (.getfield 145, 3) := by decide +kernel
theorem dX8_look_45 : decode cX8_look 45 = .ok (.ireturn, 1) := by decide +kernel
theorem dX8_look_46 : decode cX8_look 46 = .ok (.iload_n 1, 1) := by decide +kernel
theorem dX8_look_47 : decode cX8_look 47 = .ok (.tableswitch 70 0 5 #[37, 42, 47, 53, 59, 65], 37) := by decide +kernel
theorem dX8_look_84 : decode cX8_look 84 = .ok (.aload_n 0, 1) := by decide +kernel
theorem dX8_look_85 : decode cX8_look 85 = .ok (.getfield 148, 3) := by decide +kernel
theorem dX8_look_88 : decode cX8_look 88 = .ok (.ireturn, 1) := by decide +kernel
theorem dX8_look_89 : decode cX8_look 89 = .ok (.aload_n 0, 1) := by decide +kernel
theorem dX8_look_90 : decode cX8_look 90 = .ok (.getfield 87, 3) := by decide +kernel
theorem dX8_look_93 : decode cX8_look 93 = .ok (.ireturn, 1) := by decide +kernel
theorem dX8_look_94 : decode cX8_look 94 = .ok (.aload_n 0, 1) := by decide +kernel
theorem dX8_look_95 : decode cX8_look 95 = .ok (.iconst 0, 1) := by decide +kernel
theorem dX8_look_96 : decode cX8_look 96 = .ok (.invokevirtual 151, 3) := by decide +kernel
theorem dX8_look_99 : decode cX8_look 99 = .ok (.ireturn, 1) := by decide +kernel
theorem dX8_look_100 : decode cX8_look 100 = .ok (.aload_n 0, 1) := by decide +kernel
theorem dX8_look_101 : decode cX8_look 101 = .ok (.iconst 1, 1) := by decide +kernel
theorem dX8_look_102 : decode cX8_look 102 = .ok (.invokevirtual 151, 3) := by decide +kernel
theorem dX8_look_105 : decode cX8_look 105 = .ok (.ireturn, 1) := by decide +kernel
theorem dX8_look_106 : decode cX8_look 106 = .ok (.aload_n 0, 1) := by decide +kernel
theorem dX8_look_107 : decode cX8_look 107 = .ok (.iconst 3, 1) := by decide +kernel
theorem dX8_look_108 : decode cX8_look 108 = .ok (.invokevirtual 151, 3) := by decide +kernel
theorem dX8_look_111 : decode cX8_look 111 = .ok (.ireturn, 1) := by decide +kernel
theorem dX8_look_112 : decode cX8_look 112 = .ok (.aload_n 0, 1) := by decide +kernel
theorem dX8_look_113 : decode cX8_look 113 = .ok (.getfield 155, 3) := by decide +kernel
theorem dX8_look_116 : decode cX8_look 116 = .ok (.ireturn, 1) := by decide +kernel
theorem dX8_look_117 : decode cX8_look 117 = .ok (.iconst (-1), 1) := by decide +kernel
theorem dX8_look_118 : decode cX8_look 118 = .ok (.ireturn, 1) := by decide +kernel
theorem dX8_of_0 : decode cX8_of 0 = .ok (.aload_n 0, 1) := by decide +kernel
theorem dX8_of_1 : decode cX8_of 1 = .ok (.iload_n 1, 1) := by decide +kernel
theorem dX8_of_2 : decode cX8_of 2 = .ok (.invokevirtual 114, 3) := by decide +kernel
theorem dX8_of_5 : decode cX8_of 5 = .ok (.ifCond .ne 5, 3) := by decide +kernel
theorem dX8_of_8 : decode cX8_of 8 = .ok (.iconst (-1), 1) := by decide +kernel
theorem dX8_of_9 : decode cX8_of 9 = .ok (.ireturn, 1) := by decide +kernel
theorem dX8_of_10 : decode cX8_of 10 = .ok (.aload_n 0, 1) := by decide +kernel
theorem dX8_of_11 : decode cX8_of 11 = .ok (.getfield 23, 3) := by decide +kernel
theorem dX8_of_14 : decode cX8_of 14 = .ok (.iload_n 1, 1) := by decide +kernel
theorem dX8_of_15 : decode cX8_of 15 = .ok (.aaload, 1) := by decide +kernel
theorem dX8_of_16 : decode cX8_of 16 = .ok (.astore_n 3, 1) := by decide +kernel
theorem dX8_of_17 : decode cX8_of 17 = .ok (.iload_n 2, 1) := by decide +kernel
theorem dX8_of_18 : decode cX8_of 18 = .ok (.tableswitch 104 0 9 #[54, 59, 64, 69, 74, 79, 84, 89, 94, 99], 54) := by decide +kernel
theorem dX8_of_72 : decode cX8_of 72 = .ok (.aload_n 3, 1) := by decide +kernel
theorem dX8_of_73 : decode cX8_of 73 = .ok (.getfield 93, 3) := by decide +kernel
theorem dX8_of_76 : decode cX8_of 76 = .ok (.ireturn, 1) := by decide +kernel
theorem dX8_of_77 : decode cX8_of 77 = .ok (.aload_n 3, 1) := by decide +kernel
theorem dX8_of_78 : decode cX8_of 78 = .ok (.getfield 102, 3) := by decide +kernel
theorem dX8_of_81 : decode cX8_of 81 = .ok (.ireturn, 1) := by decide +kernel
theorem dX8_of_82 : decode cX8_of 82 = .ok (.aload_n 3, 1) := by decide +kernel
theorem dX8_of_83 : decode cX8_of 83 = .ok (.getfield 105, 3) := by decide +kernel
theorem dX8_of_86 : decode cX8_of 86 = .ok (.ireturn, 1) := by decide +kernel
theorem dX8_of_87 : decode cX8_of 87 = .ok (.aload_n 3, 1) := by decide +kernel
theorem dX8_of_88 : decode cX8_of 88 = .ok (.getfield 108, 3) := by decide +kernel
theorem dX8_of_91 : decode cX8_of 91 = .ok (.ireturn, 1) := by decide +kernel
theorem dX8_of_92 : decode cX8_of 92 = .ok (.aload_n 3, 1) := by decide +kernel
theorem dX8_of_93 : decode cX8_of 93 = .ok (.getfield 158, 3) := by decide +kernel
theorem dX8_of_96 : decode cX8_of 96 = .ok (.ireturn, 1) := by decide +kernel
theorem dX8_of_97 : decode cX8_of 97 = .ok (.aload_n 3, 1) := by decide +kernel
theorem dX8_of_98 : decode cX8_of 98 = .ok (.getfield 161, 3) := by decide +kernel
theorem dX8_of_101 : decode cX8_of 101 = .ok (.ireturn, 1) := by decide +kernel
theorem dX8_of_102 : decode cX8_of 102 = .ok (.aload_n 3, 1) := by decide +kernel
theorem dX8_of_103 : decode cX8_of 103 = .ok (.getfield 162, 3) := by decide +kernel
theorem dX8_of_106 : decode cX8_of 106 = .ok (.ireturn, 1) := by decide +kernel
theorem dX8_of_107 : decode cX8_of 107 = .ok (.aload_n 3, 1) := by decide +kernel
theorem dX8_of_108 : decode cX8_of 108 = .ok (.getfield 90, 3) := by decide +kernel
theorem dX8_of_111 : decode cX8_of 111 = .ok (.ireturn, 1) := by decide +kernel
theorem dX8_of_112 : decode cX8_of 112 = .ok (.aload_n 3, 1) := by decide +kernel
theorem dX8_of_113 : decode cX8_of 113 = .ok (.getfield 163, 3) := by decide +kernel
theorem dX8_of_116 : decode cX8_of 116 = .ok (.ireturn, 1) := by decide +kernel
theorem dX8_of_117 : decode cX8_of 117 = .ok (.aload_n 3, 1) := by decide +kernel
theorem dX8_of_118 : decode cX8_of 118 = .ok (.getfield 166, 3) := by decide +kernel
theorem dX8_of_121 : decode cX8_of 121 = .ok (.ireturn, 1) := by decide +kernel
theorem dX8_of_122 : decode cX8_of 122 = .ok (.iconst (-1), 1) := by decide +kernel
theorem dX8_of_123 : decode cX8_of 123 = .ok (.ireturn, 1) := by decide +kernel
theorem dX8_best_0 : decode cX8_best 0 = .ok (.aload_n 0, 1) := by decide +kernel
theorem dX8_best_1 : decode cX8_best 1 = .ok (.invokevirtual 169, 3) := by decide +kernel
theorem dX8_best_4 : decode cX8_best 4 = .ok (.aload_n 0, 1) := by decide +kernel
theorem dX8_best_5 : decode cX8_best 5 = .ok (.iload_n 1, 1) := by decide +kernel
theorem dX8_best_6 : decode cX8_best 6 = .ok (.bipush 10, 2) := by decide +kernel
theorem dX8_best_8 : decode cX8_best 8 = .ok (.isub, 1) := by decide +kernel
theorem dX8_best_9 : decode cX8_best 9 = .ok (.invokevirtual 114, 3) := by decide +kernel
theorem dX8_best_12 : decode cX8_best 12 = .ok (.ifCond .eq 16, 3) := by decide +kernel
theorem dX8_best_15 : decode cX8_best 15 = .ok (.aload_n 0, 1) := by decide +kernel
theorem dX8_best_16 : decode cX8_best 16 = .ok (.getfield 37, 3) := by decide +kernel
theorem dX8_best_19 : decode cX8_best 19 = .ok (.getfield 172, 3) := by decide +kernel
theorem dX8_best_22 : decode cX8_best 22 = .ok (.iload_n 1, 1) := by decide +kernel
theorem dX8_best_23 : decode cX8_best 23 = .ok (.bipush 10, 2) := by decide +kernel
theorem dX8_best_25 : decode cX8_best 25 = .ok (.isub, 1) := by decide +kernel
theorem dX8_best_26 : decode cX8_best 26 = .ok (.iaload, 1) := by decide +kernel
theorem dX8_best_27 : decode cX8_best 27 = .ok (.ireturn, 1) := by decide +kernel
theorem dX8_best_28 : decode cX8_best 28 = .ok (.aload_n 0, 1) := by decide +kernel
theorem dX8_best_29 : decode cX8_best 29 = .ok (.iload_n 1, 1) := by decide +kernel
theorem dX8_best_30 : decode cX8_best 30 = .ok (.bipush 20, 2) := by decide +kernel
theorem dX8_best_32 : decode cX8_best 32 = .ok (.isub, 1) := by decide +kernel
theorem dX8_best_33 : decode cX8_best 33 = .ok (.invokevirtual 114, 3) := by decide +kernel
theorem dX8_best_36 : decode cX8_best 36 = .ok (.ifCond .eq 16, 3) := by decide +kernel
theorem dX8_best_39 : decode cX8_best 39 = .ok (.aload_n 0, 1) := by decide +kernel
theorem dX8_best_40 : decode cX8_best 40 = .ok (.getfield 37, 3) := by decide +kernel
theorem dX8_best_43 : decode cX8_best 43 = .ok (.getfield 175, 3) := by decide +kernel
theorem dX8_best_46 : decode cX8_best 46 = .ok (.iload_n 1, 1) := by decide +kernel
theorem dX8_best_47 : decode cX8_best 47 = .ok (.bipush 20, 2) := by decide +kernel
theorem dX8_best_49 : decode cX8_best 49 = .ok (.isub, 1) := by decide +kernel
theorem dX8_best_50 : decode cX8_best 50 = .ok (.iaload, 1) := by decide +kernel
theorem dX8_best_51 : decode cX8_best 51 = .ok (.ireturn, 1) := by decide +kernel
theorem dX8_best_52 : decode cX8_best 52 = .ok (.iload_n 1, 1) := by decide +kernel
theorem dX8_best_53 : decode cX8_best 53 = .ok (.lookupswitch 43 #[(0, 27), (1, 35)], 27) := by decide +kernel
theorem dX8_best_80 : decode cX8_best 80 = .ok (.aload_n 0, 1) := by decide +kernel
theorem dX8_best_81 : decode cX8_best 81 = .ok (.getfield 37, 3) := by decide +kernel
theorem dX8_best_84 : decode cX8_best 84 = .ok (.getfield 178, 3) := by decide +kernel
theorem dX8_best_87 : decode cX8_best 87 = .ok (.ireturn, 1) := by decide +kernel
theorem dX8_best_88 : decode cX8_best 88 = .ok (.aload_n 0, 1) := by decide +kernel
theorem dX8_best_89 : decode cX8_best 89 = .ok (.getfield 37, 3) := by decide +kernel
theorem dX8_best_92 : decode cX8_best 92 = .ok (.getfield 181, 3) := by decide +kernel
theorem dX8_best_95 : decode cX8_best 95 = .ok (.ireturn, 1) := by decide +kernel
theorem dX8_best_96 : decode cX8_best 96 = .ok (.iconst (-1), 1) := by decide +kernel
theorem dX8_best_97 : decode cX8_best 97 = .ok (.ireturn, 1) := by decide +kernel
theorem dX8_work_0 : decode cX8_work 0 = .ok (.aload_n 0, 1) := by decide +kernel
theorem dX8_work_1 : decode cX8_work 1 = .ok (.getfield 148, 3) := by decide +kernel
theorem dX8_work_4 : decode cX8_work 4 = .ok (.bipush 51, 2) := by decide +kernel
theorem dX8_work_6 : decode cX8_work 6 = .ok (.if_icmp .lt 5, 3) := by decide +kernel
theorem dX8_work_9 : decode cX8_work 9 = .ok (.iconst (-1), 1) := by decide +kernel
theorem dX8_work_10 : decode cX8_work 10 = .ok (.ireturn, 1) := by decide +kernel
theorem dX8_work_11 : decode cX8_work 11 = .ok (.aload_n 0, 1) := by decide +kernel
theorem dX8_work_12 : decode cX8_work 12 = .ok (.invokevirtual 169, 3) := by decide +kernel
theorem dX8_work_15 : decode cX8_work 15 = .ok (.iconst 0, 1) := by decide +kernel
theorem dX8_work_16 : decode cX8_work 16 = .ok (.istore_n 1, 1) := by decide +kernel
theorem dX8_work_17 : decode cX8_work 17 = .ok (.iload_n 1, 1) := by decide +kernel
theorem dX8_work_18 : decode cX8_work 18 = .ok (.aload_n 0, 1) := by decide +kernel
theorem dX8_work_19 : decode cX8_work 19 = .ok (.getfield 87, 3) := by decide +kernel
theorem dX8_work_22 : decode cX8_work 22 = .ok (.if_icmp .ge 19, 3) := by decide +kernel
theorem dX8_work_25 : decode cX8_work 25 = .ok (.aload_n 0, 1) := by decide +kernel
theorem dX8_work_26 : decode cX8_work 26 = .ok (.aload_n 0, 1) := by decide +kernel
theorem dX8_work_27 : decode cX8_work 27 = .ok (.getfield 23, 3) := by decide +kernel
theorem dX8_work_30 : decode cX8_work 30 = .ok (.iload_n 1, 1) := by decide +kernel
theorem dX8_work_31 : decode cX8_work 31 = .ok (.aaload, 1) := by decide +kernel
theorem dX8_work_32 : decode cX8_work 32 = .ok (.invokevirtual 182, 3) := by decide +kernel
theorem dX8_work_35 : decode cX8_work 35 = .ok (.iinc 1 1, 3) := by decide +kernel
theorem dX8_work_38 : decode cX8_work 38 = .ok (.goto (-21), 3) := by decide +kernel
theorem dX8_work_41 : decode cX8_work 41 = .ok (.aload_n 0, 1) := by decide +kernel
theorem dX8_work_42 : decode cX8_work 42 = .ok (.dup, 1) := by decide +kernel
theorem dX8_work_43 : decode cX8_work 43 = .ok (.getfield 148, 3) := by decide +kernel
theorem dX8_work_46 : decode cX8_work 46 = .ok (.iconst 1, 1) := by decide +kernel
theorem dX8_work_47 : decode cX8_work 47 = .ok (.iadd, 1) := by decide +kernel
theorem dX8_work_48 : decode cX8_work 48 = .ok (.putfield 148, 3) := by decide +kernel
theorem dX8_work_51 : decode cX8_work 51 = .ok (.iconst 0, 1) := by decide +kernel
theorem dX8_work_52 : decode cX8_work 52 = .ok (.istore_n 1, 1) := by decide +kernel
theorem dX8_work_53 : decode cX8_work 53 = .ok (.iload_n 1, 1) := by decide +kernel
theorem dX8_work_54 : decode cX8_work 54 = .ok (.aload_n 0, 1) := by decide +kernel
theorem dX8_work_55 : decode cX8_work 55 = .ok (.getfield 87, 3) := by decide +kernel
theorem dX8_work_58 : decode cX8_work 58 = .ok (.if_icmp .ge 47, 3) := by decide +kernel
theorem dX8_work_61 : decode cX8_work 61 = .ok (.aload_n 0, 1) := by decide +kernel
theorem dX8_work_62 : decode cX8_work 62 = .ok (.getfield 23, 3) := by decide +kernel
theorem dX8_work_65 : decode cX8_work 65 = .ok (.iload_n 1, 1) := by decide +kernel
theorem dX8_work_66 : decode cX8_work 66 = .ok (.aaload, 1) := by decide +kernel
theorem dX8_work_67 : decode cX8_work 67 = .ok (.getfield 90, 3) := by decide +kernel
theorem dX8_work_70 : decode cX8_work 70 = .ok (.ifCond .ne 29, 3) := by decide +kernel
theorem dX8_work_73 : decode cX8_work 73 = .ok (.aload_n 0, 1) := by decide +kernel
theorem dX8_work_74 : decode cX8_work 74 = .ok (.getfield 23, 3) := by decide +kernel
theorem dX8_work_77 : decode cX8_work 77 = .ok (.iload_n 1, 1) := by decide +kernel
theorem dX8_work_78 : decode cX8_work 78 = .ok (.aaload, 1) := by decide +kernel
theorem dX8_work_79 : decode cX8_work 79 = .ok (.getfield 105, 3) := by decide +kernel
theorem dX8_work_82 : decode cX8_work 82 = .ok (.aload_n 0, 1) := by decide +kernel
theorem dX8_work_83 : decode cX8_work 83 = .ok (.getfield 148, 3) := by decide +kernel
theorem dX8_work_86 : decode cX8_work 86 = .ok (.if_icmp .ge 13, 3) := by decide +kernel
theorem dX8_work_89 : decode cX8_work 89 = .ok (.aload_n 0, 1) := by decide +kernel
theorem dX8_work_90 : decode cX8_work 90 = .ok (.getfield 23, 3) := by decide +kernel
theorem dX8_work_93 : decode cX8_work 93 = .ok (.iload_n 1, 1) := by decide +kernel
theorem dX8_work_94 : decode cX8_work 94 = .ok (.aaload, 1) := by decide +kernel
theorem dX8_work_95 : decode cX8_work 95 = .ok (.iconst 3, 1) := by decide +kernel
theorem dX8_work_96 : decode cX8_work 96 = .ok (.putfield 90, 3) := by decide +kernel
theorem dX8_work_99 : decode cX8_work 99 = .ok (.iinc 1 1, 3) := by decide +kernel
theorem dX8_work_102 : decode cX8_work 102 = .ok (.goto (-49), 3) := by decide +kernel
theorem dX8_work_105 : decode cX8_work 105 = .ok (.aload_n 0, 1) := by decide +kernel
theorem dX8_work_106 : decode cX8_work 106 = .ok (.iconst 0, 1) := by decide +kernel
theorem dX8_work_107 : decode cX8_work 107 = .ok (.putfield 71, 3) := by decide +kernel
theorem dX8_work_110 : decode cX8_work 110 = .ok (.aload_n 0, 1) := by decide +kernel
theorem dX8_work_111 : decode cX8_work 111 = .ok (.getfield 148, 3) := by decide +kernel
theorem dX8_work_114 : decode cX8_work 114 = .ok (.ireturn, 1) := by decide +kernel
theorem dX8_workAsPlanned_0 : decode cX8_workAsPlanned 0 = .ok (.aload_n 0, 1) := by decide +kernel
theorem dX8_workAsPlanned_1 : decode cX8_workAsPlanned 1 = .ok (.getfield 37, 3) := by decide +kernel
theorem dX8_workAsPlanned_4 : decode cX8_workAsPlanned 4 = .ok (.getfield 172, 3) := by decide +kernel
theorem dX8_workAsPlanned_7 : decode cX8_workAsPlanned 7 = .ok (.aload_n 1, 1) := by decide +kernel
theorem dX8_workAsPlanned_8 : decode cX8_workAsPlanned 8 = .ok (.getfield 111, 3) := by decide +kernel
theorem dX8_workAsPlanned_11 : decode cX8_workAsPlanned 11 = .ok (.iaload, 1) := by decide +kernel
theorem dX8_workAsPlanned_12 : decode cX8_workAsPlanned 12 = .ok (.istore_n 2, 1) := by decide +kernel
theorem dX8_workAsPlanned_13 : decode cX8_workAsPlanned 13 = .ok (.aload_n 0, 1) := by decide +kernel
theorem dX8_workAsPlanned_14 : decode cX8_workAsPlanned 14 = .ok (.getfield 37, 3) := by decide +kernel
theorem dX8_workAsPlanned_17 : decode cX8_workAsPlanned 17 = .ok (.getfield 186, 3) := by decide +kernel
theorem dX8_workAsPlanned_20 : decode cX8_workAsPlanned 20 = .ok (.aload_n 1, 1) := by decide +kernel
theorem dX8_workAsPlanned_21 : decode cX8_workAsPlanned 21 = .ok (.getfield 111, 3) := by decide +kernel
theorem dX8_workAsPlanned_24 : decode cX8_workAsPlanned 24 = .ok (.iaload, 1) := by decide +kernel
theorem dX8_workAsPlanned_25 : decode cX8_workAsPlanned 25 = .ok (.istore_n 3, 1) := by decide +kernel
theorem dX8_workAsPlanned_26 : decode cX8_workAsPlanned 26 = .ok (.iload_n 2, 1) := by decide +kernel
theorem dX8_workAsPlanned_27 : decode cX8_workAsPlanned 27 = .ok (.invokestatic 56, 3) := by decide +kernel
theorem dX8_workAsPlanned_30 : decode cX8_workAsPlanned 30 = .ok (.ifCond .eq 7, 3) := by decide +kernel
theorem dX8_workAsPlanned_33 : decode cX8_workAsPlanned 33 = .ok (.iload_n 3, 1) := by decide +kernel
theorem dX8_workAsPlanned_34 : decode cX8_workAsPlanned 34 = .ok (.ifCond .ne 4, 3) := by decide +kernel
theorem dX8_workAsPlanned_37 : decode cX8_workAsPlanned 37 = .ok (.return_, 1) := by decide +kernel
theorem dX8_workAsPlanned_38 : decode cX8_workAsPlanned 38 = .ok (.aload_n 1, 1) := by decide +kernel
theorem dX8_workAsPlanned_39 : decode cX8_workAsPlanned 39 = .ok (.iload_n 2, 1) := by decide +kernel
theorem dX8_workAsPlanned_40 : decode cX8_workAsPlanned 40 = .ok (.iload_n 3, 1) := by decide +kernel
theorem dX8_workAsPlanned_41 : decode cX8_workAsPlanned 41 = .ok (.invokevirtual 189, 3) := by decide +kernel
theorem dX8_workAsPlanned_44 : decode cX8_workAsPlanned 44 = .ok (.aload_n 1, 1) := by decide +kernel
theorem dX8_workAsPlanned_45 : decode cX8_workAsPlanned 45 = .ok (.getfield 163, 3) := by decide +kernel
theorem dX8_workAsPlanned_48 : decode cX8_workAsPlanned 48 = .ok (.aload_n 1, 1) := by decide +kernel
theorem dX8_workAsPlanned_49 : decode cX8_workAsPlanned 49 = .ok (.getfield 161, 3) := by decide +kernel
theorem dX8_workAsPlanned_52 : decode cX8_workAsPlanned 52 = .ok (.if_icmp .lt 57, 3) := by decide +kernel
theorem dX8_workAsPlanned_55 : decode cX8_workAsPlanned 55 = .ok (.aload_n 1, 1) := by decide +kernel
theorem dX8_workAsPlanned_56 : decode cX8_workAsPlanned 56 = .ok (.iconst 1, 1) := by decide +kernel
theorem dX8_workAsPlanned_57 : decode cX8_workAsPlanned 57 = .ok (.putfield 90, 3) := by decide +kernel
theorem dX8_workAsPlanned_60 : decode cX8_workAsPlanned 60 = .ok (.aload_n 0, 1) := by decide +kernel
theorem dX8_workAsPlanned_61 : decode cX8_workAsPlanned 61 = .ok (.getfield 11, 3) := by decide +kernel
theorem dX8_workAsPlanned_64 : decode cX8_workAsPlanned 64 = .ok (.iload_n 2, 1) := by decide +kernel
theorem dX8_workAsPlanned_65 : decode cX8_workAsPlanned 65 = .ok (.aaload, 1) := by decide +kernel
theorem dX8_workAsPlanned_66 : decode cX8_workAsPlanned 66 = .ok (.dup, 1) := by decide +kernel
theorem dX8_workAsPlanned_67 : decode cX8_workAsPlanned 67 = .ok (.getfield 100, 3) := by decide +kernel
theorem dX8_workAsPlanned_70 : decode cX8_workAsPlanned 70 = .ok (.aload_n 1, 1) := by decide +kernel
theorem dX8_workAsPlanned_71 : decode cX8_workAsPlanned 71 = .ok (.getfield 162, 3) := by decide +kernel
theorem dX8_workAsPlanned_74 : decode cX8_workAsPlanned 74 = .ok (.isub, 1) := by decide +kernel
theorem dX8_workAsPlanned_75 : decode cX8_workAsPlanned 75 = .ok (.putfield 100, 3) := by decide +kernel
theorem dX8_workAsPlanned_78 : decode cX8_workAsPlanned 78 = .ok (.aload_n 0, 1) := by decide +kernel
theorem dX8_workAsPlanned_79 : decode cX8_workAsPlanned 79 = .ok (.getfield 11, 3) := by decide +kernel
theorem dX8_workAsPlanned_82 : decode cX8_workAsPlanned 82 = .ok (.iload_n 2, 1) := by decide +kernel
theorem dX8_workAsPlanned_83 : decode cX8_workAsPlanned 83 = .ok (.aaload, 1) := by decide +kernel
theorem dX8_workAsPlanned_84 : decode cX8_workAsPlanned 84 = .ok (.dup, 1) := by decide +kernel
theorem dX8_workAsPlanned_85 : decode cX8_workAsPlanned 85 = .ok (.getfield 145, 3) := by decide +kernel
theorem dX8_workAsPlanned_88 : decode cX8_workAsPlanned 88 = .ok (.aload_n 1, 1) := by decide +kernel
theorem dX8_workAsPlanned_89 : decode cX8_workAsPlanned 89 = .ok (.getfield 162, 3) := by decide +kernel
theorem dX8_workAsPlanned_92 : decode cX8_workAsPlanned 92 = .ok (.iadd, 1) := by decide +kernel
theorem dX8_workAsPlanned_93 : decode cX8_workAsPlanned 93 = .ok (.putfield 145, 3) := by decide +kernel
theorem dX8_workAsPlanned_96 : decode cX8_workAsPlanned 96 = .ok (.aload_n 0, 1) := by decide +kernel
theorem dX8_workAsPlanned_97 : decode cX8_workAsPlanned 97 = .ok (.dup, 1) := by decide +kernel
theorem dX8_workAsPlanned_98 : decode cX8_workAsPlanned 98 = .ok (.getfield 155, 3) := by decide +kernel
theorem dX8_workAsPlanned_101 : decode cX8_workAsPlanned 101 = .ok (.aload_n 1, 1) := by decide +kernel
theorem dX8_workAsPlanned_102 : decode cX8_workAsPlanned 102 = .ok (.getfield 108, 3) := by decide +kernel
theorem dX8_workAsPlanned_105 : decode cX8_workAsPlanned 105 = .ok (.iadd, 1) := by decide +kernel
theorem dX8_workAsPlanned_106 : decode cX8_workAsPlanned 106 = .ok (.putfield 155, 3) := by decide +kernel
theorem dX8_workAsPlanned_109 : decode cX8_workAsPlanned 109 = .ok (.return_, 1) := by decide +kernel
theorem dX8_bringPlanUpToDate_0 : decode cX8_bringPlanUpToDate 0 = .ok (.aload_n 0, 1) := by decide +kernel
theorem dX8_bringPlanUpToDate_1 : decode cX8_bringPlanUpToDate 1 = .ok (.getfield 71, 3) := by decide +kernel
theorem dX8_bringPlanUpToDate_4 : decode cX8_bringPlanUpToDate 4 = .ok (.ifCond .ne 35, 3) := by decide +kernel
theorem dX8_bringPlanUpToDate_7 : decode cX8_bringPlanUpToDate 7 = .ok (.aload_n 0, 1) := by decide +kernel
theorem dX8_bringPlanUpToDate_8 : decode cX8_bringPlanUpToDate 8 = .ok (.getfield 37, 3) := by decide +kernel
theorem dX8_bringPlanUpToDate_11 : decode cX8_bringPlanUpToDate 11 = .ok (.aload_n 0, 1) := by decide +kernel
theorem dX8_bringPlanUpToDate_12 : decode cX8_bringPlanUpToDate 12 = .ok (.getfield 11, 3) := by decide +kernel
theorem dX8_bringPlanUpToDate_15 : decode cX8_bringPlanUpToDate 15 = .ok (.aload_n 0, 1) := by decide +kernel
theorem dX8_bringPlanUpToDate_16 : decode cX8_bringPlanUpToDate 16 = .ok (.getfield 23, 3) := by decide +kernel
theorem dX8_bringPlanUpToDate_19 : decode cX8_bringPlanUpToDate 19 = .ok (.aload_n 0, 1) := by decide +kernel
theorem dX8_bringPlanUpToDate_20 : decode cX8_bringPlanUpToDate 20 = .ok (.getfield 87, 3) := by decide +kernel
theorem dX8_bringPlanUpToDate_23 : decode cX8_bringPlanUpToDate 23 = .ok (.aload_n 0, 1) := by decide +kernel
theorem dX8_bringPlanUpToDate_24 : decode cX8_bringPlanUpToDate 24 = .ok (.getfield 44, 3) := by decide +kernel
theorem dX8_bringPlanUpToDate_27 : decode cX8_bringPlanUpToDate 27 = .ok (.aload_n 0, 1) := by decide +kernel
theorem dX8_bringPlanUpToDate_28 : decode cX8_bringPlanUpToDate 28 = .ok (.getfield 148, 3) := by decide +kernel
theorem dX8_bringPlanUpToDate_31 : decode cX8_bringPlanUpToDate 31 = .ok (.invokevirtual 193, 3) := by decide +kernel
theorem dX8_bringPlanUpToDate_34 : decode cX8_bringPlanUpToDate 34 = .ok (.aload_n 0, 1) := by decide +kernel
theorem dX8_bringPlanUpToDate_35 : decode cX8_bringPlanUpToDate 35 = .ok (.iconst 1, 1) := by decide +kernel
theorem dX8_bringPlanUpToDate_36 : decode cX8_bringPlanUpToDate 36 = .ok (.putfield 71, 3) := by decide +kernel
theorem dX8_bringPlanUpToDate_39 : decode cX8_bringPlanUpToDate 39 = .ok (.return_, 1) := by decide +kernel
theorem dX8_countOrders_0 : decode cX8_countOrders 0 = .ok (.iconst 0, 1) := by decide +kernel
theorem dX8_countOrders_1 : decode cX8_countOrders 1 = .ok (.istore_n 2, 1) := by decide +kernel
theorem dX8_countOrders_2 : decode cX8_countOrders 2 = .ok (.iconst 0, 1) := by decide +kernel
theorem dX8_countOrders_3 : decode cX8_countOrders 3 = .ok (.istore_n 3, 1) := by decide +kernel
theorem dX8_countOrders_4 : decode cX8_countOrders 4 = .ok (.iload_n 3, 1) := by decide +kernel
theorem dX8_countOrders_5 : decode cX8_countOrders 5 = .ok (.aload_n 0, 1) := by decide +kernel
theorem dX8_countOrders_6 : decode cX8_countOrders 6 = .ok (.getfield 87, 3) := by decide +kernel
theorem dX8_countOrders_9 : decode cX8_countOrders 9 = .ok (.if_icmp .ge 25, 3) := by decide +kernel
theorem dX8_countOrders_12 : decode cX8_countOrders 12 = .ok (.aload_n 0, 1) := by decide +kernel
theorem dX8_countOrders_13 : decode cX8_countOrders 13 = .ok (.getfield 23, 3) := by decide +kernel
theorem dX8_countOrders_16 : decode cX8_countOrders 16 = .ok (.iload_n 3, 1) := by decide +kernel
theorem dX8_countOrders_17 : decode cX8_countOrders 17 = .ok (.aaload, 1) := by decide +kernel
theorem dX8_countOrders_18 : decode cX8_countOrders 18 = .ok (.getfield 90, 3) := by decide +kernel
theorem dX8_countOrders_21 : decode cX8_countOrders 21 = .ok (.iload_n 1, 1) := by decide +kernel
theorem dX8_countOrders_22 : decode cX8_countOrders 22 = .ok (.if_icmp .ne 6, 3) := by decide +kernel
theorem dX8_countOrders_25 : decode cX8_countOrders 25 = .ok (.iinc 2 1, 3) := by decide +kernel
theorem dX8_countOrders_28 : decode cX8_countOrders 28 = .ok (.iinc 3 1, 3) := by decide +kernel
theorem dX8_countOrders_31 : decode cX8_countOrders 31 = .ok (.goto (-27), 3) := by decide +kernel
theorem dX8_countOrders_34 : decode cX8_countOrders 34 = .ok (.iload_n 2, 1) := by decide +kernel
theorem dX8_countOrders_35 : decode cX8_countOrders 35 = .ok (.ireturn, 1) := by decide +kernel
theorem dX8_isOrder_0 : decode cX8_isOrder 0 = .ok (.iload_n 1, 1) := by decide +kernel
theorem dX8_isOrder_1 : decode cX8_isOrder 1 = .ok (.ifCond .lt 15, 3) := by decide +kernel
theorem dX8_isOrder_4 : decode cX8_isOrder 4 = .ok (.iload_n 1, 1) := by decide +kernel
theorem dX8_isOrder_5 : decode cX8_isOrder 5 = .ok (.aload_n 0, 1) := by decide +kernel
theorem dX8_isOrder_6 : decode cX8_isOrder 6 = .ok (.getfield 87, 3) := by decide +kernel
theorem dX8_isOrder_9 : decode cX8_isOrder 9 = .ok (.if_icmp .ge 7, 3) := by decide +kernel
theorem dX8_isOrder_12 : decode cX8_isOrder 12 = .ok (.iconst 1, 1) := by decide +kernel
theorem dX8_isOrder_13 : decode cX8_isOrder 13 = .ok (.goto 4, 3) := by decide +kernel
theorem dX8_isOrder_16 : decode cX8_isOrder 16 = .ok (.iconst 0, 1) := by decide +kernel
theorem dX8_isOrder_17 : decode cX8_isOrder 17 = .ok (.ireturn, 1) := by decide +kernel
theorem dX8_isWeekToCome_0 : decode cX8_isWeekToCome 0 = .ok (.iload_n 1, 1) := by decide +kernel
theorem dX8_isWeekToCome_1 : decode cX8_isWeekToCome 1 = .ok (.aload_n 0, 1) := by decide +kernel
theorem dX8_isWeekToCome_2 : decode cX8_isWeekToCome 2 = .ok (.getfield 148, 3) := by decide +kernel
theorem dX8_isWeekToCome_5 : decode cX8_isWeekToCome 5 = .ok (.bipush 51, 2) := by decide +kernel
theorem dX8_isWeekToCome_7 : decode cX8_isWeekToCome 7 = .ok (.invokestatic 63, 3) := by decide +kernel
theorem dX8_isWeekToCome_10 : decode cX8_isWeekToCome 10 = .ok (.ireturn, 1) := by decide +kernel
theorem dX8_isFamily_0 : decode cX8_isFamily 0 = .ok (.iload_n 0, 1) := by decide +kernel
theorem dX8_isFamily_1 : decode cX8_isFamily 1 = .ok (.ifCond .lt 12, 3) := by decide +kernel
theorem dX8_isFamily_4 : decode cX8_isFamily 4 = .ok (.iload_n 0, 1) := by decide +kernel
theorem dX8_isFamily_5 : decode cX8_isFamily 5 = .ok (.iconst 4, 1) := by decide +kernel
theorem dX8_isFamily_6 : decode cX8_isFamily 6 = .ok (.if_icmp .ge 7, 3) := by decide +kernel
theorem dX8_isFamily_9 : decode cX8_isFamily 9 = .ok (.iconst 1, 1) := by decide +kernel
theorem dX8_isFamily_10 : decode cX8_isFamily 10 = .ok (.goto 4, 3) := by decide +kernel
theorem dX8_isFamily_13 : decode cX8_isFamily 13 = .ok (.iconst 0, 1) := by decide +kernel
theorem dX8_isFamily_14 : decode cX8_isFamily 14 = .ok (.ireturn, 1) := by decide +kernel
theorem dX8_isPattern_0 : decode cX8_isPattern 0 = .ok (.iload_n 0, 1) := by decide +kernel
theorem dX8_isPattern_1 : decode cX8_isPattern 1 = .ok (.ifCond .lt 13, 3) := by decide +kernel
theorem dX8_isPattern_4 : decode cX8_isPattern 4 = .ok (.iload_n 0, 1) := by decide +kernel
theorem dX8_isPattern_5 : decode cX8_isPattern 5 = .ok (.bipush 6, 2) := by decide +kernel
theorem dX8_isPattern_7 : decode cX8_isPattern 7 = .ok (.if_icmp .ge 7, 3) := by decide +kernel
theorem dX8_isPattern_10 : decode cX8_isPattern 10 = .ok (.iconst 1, 1) := by decide +kernel
theorem dX8_isPattern_11 : decode cX8_isPattern 11 = .ok (.goto 4, 3) := by decide +kernel
theorem dX8_isPattern_14 : decode cX8_isPattern 14 = .ok (.iconst 0, 1) := by decide +kernel
theorem dX8_isPattern_15 : decode cX8_isPattern 15 = .ok (.ireturn, 1) := by decide +kernel
theorem dX8_isWithin_0 : decode cX8_isWithin 0 = .ok (.iload_n 0, 1) := by decide +kernel
theorem dX8_isWithin_1 : decode cX8_isWithin 1 = .ok (.iload_n 1, 1) := by decide +kernel
theorem dX8_isWithin_2 : decode cX8_isWithin 2 = .ok (.if_icmp .lt 12, 3) := by decide +kernel
theorem dX8_isWithin_5 : decode cX8_isWithin 5 = .ok (.iload_n 0, 1) := by decide +kernel
theorem dX8_isWithin_6 : decode cX8_isWithin 6 = .ok (.iload_n 2, 1) := by decide +kernel
theorem dX8_isWithin_7 : decode cX8_isWithin 7 = .ok (.if_icmp .gt 7, 3) := by decide +kernel
theorem dX8_isWithin_10 : decode cX8_isWithin 10 = .ok (.iconst 1, 1) := by decide +kernel
theorem dX8_isWithin_11 : decode cX8_isWithin 11 = .ok (.goto 4, 3) := by decide +kernel
theorem dX8_isWithin_14 : decode cX8_isWithin 14 = .ok (.iconst 0, 1) := by decide +kernel
theorem dX8_isWithin_15 : decode cX8_isWithin 15 = .ok (.ireturn, 1) := by decide +kernel
theorem dL_law_0 : decode cL_law 0 = .ok (.new 7, 3) := by decide +kernel
theorem dL_law_3 : decode cL_law 3 = .ok (.dup, 1) := by decide +kernel
theorem dL_law_4 : decode cL_law 4 = .ok (.invokespecial 9, 3) := by decide +kernel
theorem dL_law_7 : decode cL_law 7 = .ok (.astore_n 1, 1) := by decide +kernel
theorem dL_law_8 : decode cL_law 8 = .ok (.new 10, 3) := by decide +kernel
theorem dL_law_11 : decode cL_law 11 = .ok (.dup, 1) := by decide +kernel
theorem dL_law_12 : decode cL_law 12 = .ok (.invokespecial 12, 3) := by decide +kernel
theorem dL_law_15 : decode cL_law 15 = .ok (.astore_n 2, 1) := by decide +kernel
theorem dL_law_16 : decode cL_law 16 = .ok (.iconst 0, 1) := by decide +kernel
theorem dL_law_17 : decode cL_law 17 = .ok (.istore_n 3, 1) := by decide +kernel
theorem dL_law_18 : decode cL_law 18 = .ok (.iload_n 3, 1) := by decide +kernel
theorem dL_law_19 : decode cL_law 19 = .ok (.aload_n 0, 1) := by decide +kernel
theorem dL_law_20 : decode cL_law 20 = .ok (.arraylength, 1) := by decide +kernel
theorem dL_law_21 : decode cL_law 21 = .ok (.bipush 6, 2) := by decide +kernel
theorem dL_law_23 : decode cL_law 23 = .ok (.isub, 1) := by decide +kernel
theorem dL_law_24 : decode cL_law 24 = .ok (.if_icmp .gt 575, 3) := by decide +kernel
theorem dL_law_27 : decode cL_law 27 = .ok (.aload_n 0, 1) := by decide +kernel
theorem dL_law_28 : decode cL_law 28 = .ok (.iload_n 3, 1) := by decide +kernel
theorem dL_law_29 : decode cL_law 29 = .ok (.iaload, 1) := by decide +kernel
theorem dL_law_30 : decode cL_law 30 = .ok (.bipush 15, 2) := by decide +kernel
theorem dL_law_32 : decode cL_law 32 = .ok (.iand, 1) := by decide +kernel
theorem dL_law_33 : decode cL_law 33 = .ok (.tableswitch 560 0 14 #[75, 118, 171, 204, 227, 280, 303, 366, 389, 402, 425, 468, 491, 524, 547], 75) := by decide +kernel
theorem dL_law_108 : decode cL_law 108 = .ok (.aload_n 1, 1) := by decide +kernel
theorem dL_law_109 : decode cL_law 109 = .ok (.aload_n 0, 1) := by decide +kernel
theorem dL_law_110 : decode cL_law 110 = .ok (.iload_n 3, 1) := by decide +kernel
theorem dL_law_111 : decode cL_law 111 = .ok (.iconst 1, 1) := by decide +kernel
theorem dL_law_112 : decode cL_law 112 = .ok (.iadd, 1) := by decide +kernel
theorem dL_law_113 : decode cL_law 113 = .ok (.iaload, 1) := by decide +kernel
theorem dL_law_114 : decode cL_law 114 = .ok (.aload_n 0, 1) := by decide +kernel
theorem dL_law_115 : decode cL_law 115 = .ok (.iload_n 3, 1) := by decide +kernel
theorem dL_law_116 : decode cL_law 116 = .ok (.iconst 2, 1) := by decide +kernel
theorem dL_law_117 : decode cL_law 117 = .ok (.iadd, 1) := by decide +kernel
theorem dL_law_118 : decode cL_law 118 = .ok (.iaload, 1) := by decide +kernel
theorem dL_law_119 : decode cL_law 119 = .ok (.aload_n 0, 1) := by decide +kernel
theorem dL_law_120 : decode cL_law 120 = .ok (.iload_n 3, 1) := by decide +kernel
theorem dL_law_121 : decode cL_law 121 = .ok (.iconst 3, 1) := by decide +kernel
theorem dL_law_122 : decode cL_law 122 = .ok (.iadd, 1) := by decide +kernel
theorem dL_law_123 : decode cL_law 123 = .ok (.iaload, 1) := by decide +kernel
theorem dL_law_124 : decode cL_law 124 = .ok (.invokevirtual 13, 3) := by decide +kernel
theorem dL_law_127 : decode cL_law 127 = .ok (.aload_n 2, 1) := by decide +kernel
theorem dL_law_128 : decode cL_law 128 = .ok (.aload_n 0, 1) := by decide +kernel
theorem dL_law_129 : decode cL_law 129 = .ok (.iload_n 3, 1) := by decide +kernel
theorem dL_law_130 : decode cL_law 130 = .ok (.iconst 1, 1) := by decide +kernel
theorem dL_law_131 : decode cL_law 131 = .ok (.iadd, 1) := by decide +kernel
theorem dL_law_132 : decode cL_law 132 = .ok (.iaload, 1) := by decide +kernel
theorem dL_law_133 : decode cL_law 133 = .ok (.aload_n 0, 1) := by decide +kernel
theorem dL_law_134 : decode cL_law 134 = .ok (.iload_n 3, 1) := by decide +kernel
theorem dL_law_135 : decode cL_law 135 = .ok (.iconst 2, 1) := by decide +kernel
theorem dL_law_136 : decode cL_law 136 = .ok (.iadd, 1) := by decide +kernel
theorem dL_law_137 : decode cL_law 137 = .ok (.iaload, 1) := by decide +kernel
theorem dL_law_138 : decode cL_law 138 = .ok (.aload_n 0, 1) := by decide +kernel
theorem dL_law_139 : decode cL_law 139 = .ok (.iload_n 3, 1) := by decide +kernel
theorem dL_law_140 : decode cL_law 140 = .ok (.iconst 3, 1) := by decide +kernel
theorem dL_law_141 : decode cL_law 141 = .ok (.iadd, 1) := by decide +kernel
theorem dL_law_142 : decode cL_law 142 = .ok (.iaload, 1) := by decide +kernel
theorem dL_law_143 : decode cL_law 143 = .ok (.invokevirtual 17, 3) := by decide +kernel
theorem dL_law_146 : decode cL_law 146 = .ok (.if_icmp .eq 447, 3) := by decide +kernel
theorem dL_law_149 : decode cL_law 149 = .ok (.iconst 0, 1) := by decide +kernel
theorem dL_law_150 : decode cL_law 150 = .ok (.ireturn, 1) := by decide +kernel
theorem dL_law_151 : decode cL_law 151 = .ok (.aload_n 1, 1) := by decide +kernel
theorem dL_law_152 : decode cL_law 152 = .ok (.aload_n 0, 1) := by decide +kernel
theorem dL_law_153 : decode cL_law 153 = .ok (.iload_n 3, 1) := by decide +kernel
theorem dL_law_154 : decode cL_law 154 = .ok (.iconst 1, 1) := by decide +kernel
theorem dL_law_155 : decode cL_law 155 = .ok (.iadd, 1) := by decide +kernel
theorem dL_law_156 : decode cL_law 156 = .ok (.iaload, 1) := by decide +kernel
theorem dL_law_157 : decode cL_law 157 = .ok (.aload_n 0, 1) := by decide +kernel
theorem dL_law_158 : decode cL_law 158 = .ok (.iload_n 3, 1) := by decide +kernel
theorem dL_law_159 : decode cL_law 159 = .ok (.iconst 2, 1) := by decide +kernel
theorem dL_law_160 : decode cL_law 160 = .ok (.iadd, 1) := by decide +kernel
theorem dL_law_161 : decode cL_law 161 = .ok (.iaload, 1) := by decide +kernel
theorem dL_law_162 : decode cL_law 162 = .ok (.aload_n 0, 1) := by decide +kernel
theorem dL_law_163 : decode cL_law 163 = .ok (.iload_n 3, 1) := by decide +kernel
theorem dL_law_164 : decode cL_law 164 = .ok (.iconst 3, 1) := by decide +kernel
theorem dL_law_165 : decode cL_law 165 = .ok (.iadd, 1) := by decide +kernel
theorem dL_law_166 : decode cL_law 166 = .ok (.iaload, 1) := by decide +kernel
theorem dL_law_167 : decode cL_law 167 = .ok (.aload_n 0, 1) := by decide +kernel
theorem dL_law_168 : decode cL_law 168 = .ok (.iload_n 3, 1) := by decide +kernel
theorem dL_law_169 : decode cL_law 169 = .ok (.iconst 4, 1) := by decide +kernel
theorem dL_law_170 : decode cL_law 170 = .ok (.iadd, 1) := by decide +kernel
theorem dL_law_171 : decode cL_law 171 = .ok (.iaload, 1) := by decide +kernel
theorem dL_law_172 : decode cL_law 172 = .ok (.invokevirtual 18, 3) := by decide +kernel
theorem dL_law_175 : decode cL_law 175 = .ok (.aload_n 2, 1) := by decide +kernel
theorem dL_law_176 : decode cL_law 176 = .ok (.aload_n 0, 1) := by decide +kernel
theorem dL_law_177 : decode cL_law 177 = .ok (.iload_n 3, 1) := by decide +kernel
theorem dL_law_178 : decode cL_law 178 = .ok (.iconst 1, 1) := by decide +kernel
theorem dL_law_179 : decode cL_law 179 = .ok (.iadd, 1) := by decide +kernel
theorem dL_law_180 : decode cL_law 180 = .ok (.iaload, 1) := by decide +kernel
theorem dL_law_181 : decode cL_law 181 = .ok (.aload_n 0, 1) := by decide +kernel
theorem dL_law_182 : decode cL_law 182 = .ok (.iload_n 3, 1) := by decide +kernel
theorem dL_law_183 : decode cL_law 183 = .ok (.iconst 2, 1) := by decide +kernel
theorem dL_law_184 : decode cL_law 184 = .ok (.iadd, 1) := by decide +kernel
theorem dL_law_185 : decode cL_law 185 = .ok (.iaload, 1) := by decide +kernel
theorem dL_law_186 : decode cL_law 186 = .ok (.aload_n 0, 1) := by decide +kernel
theorem dL_law_187 : decode cL_law 187 = .ok (.iload_n 3, 1) := by decide +kernel
theorem dL_law_188 : decode cL_law 188 = .ok (.iconst 3, 1) := by decide +kernel
theorem dL_law_189 : decode cL_law 189 = .ok (.iadd, 1) := by decide +kernel
theorem dL_law_190 : decode cL_law 190 = .ok (.iaload, 1) := by decide +kernel
theorem dL_law_191 : decode cL_law 191 = .ok (.aload_n 0, 1) := by decide +kernel
theorem dL_law_192 : decode cL_law 192 = .ok (.iload_n 3, 1) := by decide +kernel
theorem dL_law_193 : decode cL_law 193 = .ok (.iconst 4, 1) := by decide +kernel
theorem dL_law_194 : decode cL_law 194 = .ok (.iadd, 1) := by decide +kernel
theorem dL_law_195 : decode cL_law 195 = .ok (.iaload, 1) := by decide +kernel
theorem dL_law_196 : decode cL_law 196 = .ok (.invokevirtual 22, 3) := by decide +kernel
theorem dL_law_199 : decode cL_law 199 = .ok (.if_icmp .eq 394, 3) := by decide +kernel
theorem dL_law_202 : decode cL_law 202 = .ok (.iconst 0, 1) := by decide +kernel
theorem dL_law_203 : decode cL_law 203 = .ok (.ireturn, 1) := by decide +kernel
theorem dL_law_204 : decode cL_law 204 = .ok (.aload_n 1, 1) := by decide +kernel
theorem dL_law_205 : decode cL_law 205 = .ok (.aload_n 0, 1) := by decide +kernel
theorem dL_law_206 : decode cL_law 206 = .ok (.iload_n 3, 1) := by decide +kernel
theorem dL_law_207 : decode cL_law 207 = .ok (.iconst 1, 1) := by decide +kernel
theorem dL_law_208 : decode cL_law 208 = .ok (.iadd, 1) := by decide +kernel
theorem dL_law_209 : decode cL_law 209 = .ok (.iaload, 1) := by decide +kernel
theorem dL_law_210 : decode cL_law 210 = .ok (.aload_n 0, 1) := by decide +kernel
theorem dL_law_211 : decode cL_law 211 = .ok (.iload_n 3, 1) := by decide +kernel
theorem dL_law_212 : decode cL_law 212 = .ok (.iconst 2, 1) := by decide +kernel
theorem dL_law_213 : decode cL_law 213 = .ok (.iadd, 1) := by decide +kernel
theorem dL_law_214 : decode cL_law 214 = .ok (.iaload, 1) := by decide +kernel
theorem dL_law_215 : decode cL_law 215 = .ok (.invokevirtual 23, 3) := by decide +kernel
theorem dL_law_218 : decode cL_law 218 = .ok (.aload_n 2, 1) := by decide +kernel
theorem dL_law_219 : decode cL_law 219 = .ok (.aload_n 0, 1) := by decide +kernel
theorem dL_law_220 : decode cL_law 220 = .ok (.iload_n 3, 1) := by decide +kernel
theorem dL_law_221 : decode cL_law 221 = .ok (.iconst 1, 1) := by decide +kernel
theorem dL_law_222 : decode cL_law 222 = .ok (.iadd, 1) := by decide +kernel
theorem dL_law_223 : decode cL_law 223 = .ok (.iaload, 1) := by decide +kernel
theorem dL_law_224 : decode cL_law 224 = .ok (.aload_n 0, 1) := by decide +kernel
theorem dL_law_225 : decode cL_law 225 = .ok (.iload_n 3, 1) := by decide +kernel
theorem dL_law_226 : decode cL_law 226 = .ok (.iconst 2, 1) := by decide +kernel
theorem dL_law_227 : decode cL_law 227 = .ok (.iadd, 1) := by decide +kernel
theorem dL_law_228 : decode cL_law 228 = .ok (.iaload, 1) := by decide +kernel
theorem dL_law_229 : decode cL_law 229 = .ok (.invokevirtual 27, 3) := by decide +kernel
theorem dL_law_232 : decode cL_law 232 = .ok (.if_icmp .eq 361, 3) := by decide +kernel
theorem dL_law_235 : decode cL_law 235 = .ok (.iconst 0, 1) := by decide +kernel
theorem dL_law_236 : decode cL_law 236 = .ok (.ireturn, 1) := by decide +kernel
theorem dL_law_237 : decode cL_law 237 = .ok (.aload_n 1, 1) := by decide +kernel
theorem dL_law_238 : decode cL_law 238 = .ok (.aload_n 0, 1) := by decide +kernel
theorem dL_law_239 : decode cL_law 239 = .ok (.iload_n 3, 1) := by decide +kernel
theorem dL_law_240 : decode cL_law 240 = .ok (.iconst 1, 1) := by decide +kernel
theorem dL_law_241 : decode cL_law 241 = .ok (.iadd, 1) := by decide +kernel
theorem dL_law_242 : decode cL_law 242 = .ok (.iaload, 1) := by decide +kernel
theorem dL_law_243 : decode cL_law 243 = .ok (.invokevirtual 28, 3) := by decide +kernel
theorem dL_law_246 : decode cL_law 246 = .ok (.aload_n 2, 1) := by decide +kernel
theorem dL_law_247 : decode cL_law 247 = .ok (.aload_n 0, 1) := by decide +kernel
theorem dL_law_248 : decode cL_law 248 = .ok (.iload_n 3, 1) := by decide +kernel
theorem dL_law_249 : decode cL_law 249 = .ok (.iconst 1, 1) := by decide +kernel
theorem dL_law_250 : decode cL_law 250 = .ok (.iadd, 1) := by decide +kernel
theorem dL_law_251 : decode cL_law 251 = .ok (.iaload, 1) := by decide +kernel
theorem dL_law_252 : decode cL_law 252 = .ok (.invokevirtual 32, 3) := by decide +kernel
theorem dL_law_255 : decode cL_law 255 = .ok (.if_icmp .eq 338, 3) := by decide +kernel
theorem dL_law_258 : decode cL_law 258 = .ok (.iconst 0, 1) := by decide +kernel
theorem dL_law_259 : decode cL_law 259 = .ok (.ireturn, 1) := by decide +kernel
theorem dL_law_260 : decode cL_law 260 = .ok (.aload_n 1, 1) := by decide +kernel
theorem dL_law_261 : decode cL_law 261 = .ok (.aload_n 0, 1) := by decide +kernel
theorem dL_law_262 : decode cL_law 262 = .ok (.iload_n 3, 1) := by decide +kernel
theorem dL_law_263 : decode cL_law 263 = .ok (.iconst 1, 1) := by decide +kernel
theorem dL_law_264 : decode cL_law 264 = .ok (.iadd, 1) := by decide +kernel
theorem dL_law_265 : decode cL_law 265 = .ok (.iaload, 1) := by decide +kernel
theorem dL_law_266 : decode cL_law 266 = .ok (.aload_n 0, 1) := by decide +kernel
theorem dL_law_267 : decode cL_law 267 = .ok (.iload_n 3, 1) := by decide +kernel
theorem dL_law_268 : decode cL_law 268 = .ok (.iconst 2, 1) := by decide +kernel
theorem dL_law_269 : decode cL_law 269 = .ok (.iadd, 1) := by decide +kernel
theorem dL_law_270 : decode cL_law 270 = .ok (.iaload, 1) := by decide +kernel
theorem dL_law_271 : decode cL_law 271 = .ok (.aload_n 0, 1) := by decide +kernel
theorem dL_law_272 : decode cL_law 272 = .ok (.iload_n 3, 1) := by decide +kernel
theorem dL_law_273 : decode cL_law 273 = .ok (.iconst 3, 1) := by decide +kernel
theorem dL_law_274 : decode cL_law 274 = .ok (.iadd, 1) := by decide +kernel
theorem dL_law_275 : decode cL_law 275 = .ok (.iaload, 1) := by decide +kernel
theorem dL_law_276 : decode cL_law 276 = .ok (.aload_n 0, 1) := by decide +kernel
theorem dL_law_277 : decode cL_law 277 = .ok (.iload_n 3, 1) := by decide +kernel
theorem dL_law_278 : decode cL_law 278 = .ok (.iconst 4, 1) := by decide +kernel
theorem dL_law_279 : decode cL_law 279 = .ok (.iadd, 1) := by decide +kernel
theorem dL_law_280 : decode cL_law 280 = .ok (.iaload, 1) := by decide +kernel
theorem dL_law_281 : decode cL_law 281 = .ok (.invokevirtual 33, 3) := by decide +kernel
theorem dL_law_284 : decode cL_law 284 = .ok (.aload_n 2, 1) := by decide +kernel
theorem dL_law_285 : decode cL_law 285 = .ok (.aload_n 0, 1) := by decide +kernel
theorem dL_law_286 : decode cL_law 286 = .ok (.iload_n 3, 1) := by decide +kernel
theorem dL_law_287 : decode cL_law 287 = .ok (.iconst 1, 1) := by decide +kernel
theorem dL_law_288 : decode cL_law 288 = .ok (.iadd, 1) := by decide +kernel
theorem dL_law_289 : decode cL_law 289 = .ok (.iaload, 1) := by decide +kernel
theorem dL_law_290 : decode cL_law 290 = .ok (.aload_n 0, 1) := by decide +kernel
theorem dL_law_291 : decode cL_law 291 = .ok (.iload_n 3, 1) := by decide +kernel
theorem dL_law_292 : decode cL_law 292 = .ok (.iconst 2, 1) := by decide +kernel
theorem dL_law_293 : decode cL_law 293 = .ok (.iadd, 1) := by decide +kernel
theorem dL_law_294 : decode cL_law 294 = .ok (.iaload, 1) := by decide +kernel
theorem dL_law_295 : decode cL_law 295 = .ok (.aload_n 0, 1) := by decide +kernel
theorem dL_law_296 : decode cL_law 296 = .ok (.iload_n 3, 1) := by decide +kernel
theorem dL_law_297 : decode cL_law 297 = .ok (.iconst 3, 1) := by decide +kernel
theorem dL_law_298 : decode cL_law 298 = .ok (.iadd, 1) := by decide +kernel
theorem dL_law_299 : decode cL_law 299 = .ok (.iaload, 1) := by decide +kernel
theorem dL_law_300 : decode cL_law 300 = .ok (.aload_n 0, 1) := by decide +kernel
theorem dL_law_301 : decode cL_law 301 = .ok (.iload_n 3, 1) := by decide +kernel
theorem dL_law_302 : decode cL_law 302 = .ok (.iconst 4, 1) := by decide +kernel
theorem dL_law_303 : decode cL_law 303 = .ok (.iadd, 1) := by decide +kernel
theorem dL_law_304 : decode cL_law 304 = .ok (.iaload, 1) := by decide +kernel
theorem dL_law_305 : decode cL_law 305 = .ok (.invokevirtual 37, 3) := by decide +kernel
theorem dL_law_308 : decode cL_law 308 = .ok (.if_icmp .eq 285, 3) := by decide +kernel
theorem dL_law_311 : decode cL_law 311 = .ok (.iconst 0, 1) := by decide +kernel
theorem dL_law_312 : decode cL_law 312 = .ok (.ireturn, 1) := by decide +kernel
theorem dL_law_313 : decode cL_law 313 = .ok (.aload_n 1, 1) := by decide +kernel
theorem dL_law_314 : decode cL_law 314 = .ok (.aload_n 0, 1) := by decide +kernel
theorem dL_law_315 : decode cL_law 315 = .ok (.iload_n 3, 1) := by decide +kernel
theorem dL_law_316 : decode cL_law 316 = .ok (.iconst 1, 1) := by decide +kernel
theorem dL_law_317 : decode cL_law 317 = .ok (.iadd, 1) := by decide +kernel
theorem dL_law_318 : decode cL_law 318 = .ok (.iaload, 1) := by decide +kernel
theorem dL_law_319 : decode cL_law 319 = .ok (.invokevirtual 38, 3) := by decide +kernel
theorem dL_law_322 : decode cL_law 322 = .ok (.aload_n 2, 1) := by decide +kernel
theorem dL_law_323 : decode cL_law 323 = .ok (.aload_n 0, 1) := by decide +kernel
theorem dL_law_324 : decode cL_law 324 = .ok (.iload_n 3, 1) := by decide +kernel
theorem dL_law_325 : decode cL_law 325 = .ok (.iconst 1, 1) := by decide +kernel
theorem dL_law_326 : decode cL_law 326 = .ok (.iadd, 1) := by decide +kernel
theorem dL_law_327 : decode cL_law 327 = .ok (.iaload, 1) := by decide +kernel
theorem dL_law_328 : decode cL_law 328 = .ok (.invokevirtual 42, 3) := by decide +kernel
theorem dL_law_331 : decode cL_law 331 = .ok (.if_icmp .eq 262, 3) := by decide +kernel
theorem dL_law_334 : decode cL_law 334 = .ok (.iconst 0, 1) := by decide +kernel
theorem dL_law_335 : decode cL_law 335 = .ok (.ireturn, 1) := by decide +kernel
theorem dL_law_336 : decode cL_law 336 = .ok (.aload_n 1, 1) := by decide +kernel
theorem dL_law_337 : decode cL_law 337 = .ok (.aload_n 0, 1) := by decide +kernel
theorem dL_law_338 : decode cL_law 338 = .ok (.iload_n 3, 1) := by decide +kernel
theorem dL_law_339 : decode cL_law 339 = .ok (.iconst 1, 1) := by decide +kernel
theorem dL_law_340 : decode cL_law 340 = .ok (.iadd, 1) := by decide +kernel
theorem dL_law_341 : decode cL_law 341 = .ok (.iaload, 1) := by decide +kernel
theorem dL_law_342 : decode cL_law 342 = .ok (.aload_n 0, 1) := by decide +kernel
theorem dL_law_343 : decode cL_law 343 = .ok (.iload_n 3, 1) := by decide +kernel
theorem dL_law_344 : decode cL_law 344 = .ok (.iconst 2, 1) := by decide +kernel
theorem dL_law_345 : decode cL_law 345 = .ok (.iadd, 1) := by decide +kernel
theorem dL_law_346 : decode cL_law 346 = .ok (.iaload, 1) := by decide +kernel
theorem dL_law_347 : decode cL_law 347 = .ok (.aload_n 0, 1) := by decide +kernel
theorem dL_law_348 : decode cL_law 348 = .ok (.iload_n 3, 1) := by decide +kernel
theorem dL_law_349 : decode cL_law 349 = .ok (.iconst 3, 1) := by decide +kernel
theorem dL_law_350 : decode cL_law 350 = .ok (.iadd, 1) := by decide +kernel
theorem dL_law_351 : decode cL_law 351 = .ok (.iaload, 1) := by decide +kernel
theorem dL_law_352 : decode cL_law 352 = .ok (.aload_n 0, 1) := by decide +kernel
theorem dL_law_353 : decode cL_law 353 = .ok (.iload_n 3, 1) := by decide +kernel
theorem dL_law_354 : decode cL_law 354 = .ok (.iconst 4, 1) := by decide +kernel
theorem dL_law_355 : decode cL_law 355 = .ok (.iadd, 1) := by decide +kernel
theorem dL_law_356 : decode cL_law 356 = .ok (.iaload, 1) := by decide +kernel
theorem dL_law_357 : decode cL_law 357 = .ok (.aload_n 0, 1) := by decide +kernel
theorem dL_law_358 : decode cL_law 358 = .ok (.iload_n 3, 1) := by decide +kernel
theorem dL_law_359 : decode cL_law 359 = .ok (.iconst 5, 1) := by decide +kernel
theorem dL_law_360 : decode cL_law 360 = .ok (.iadd, 1) := by decide +kernel
theorem dL_law_361 : decode cL_law 361 = .ok (.iaload, 1) := by decide +kernel
theorem dL_law_362 : decode cL_law 362 = .ok (.invokevirtual 43, 3) := by decide +kernel
theorem dL_law_365 : decode cL_law 365 = .ok (.aload_n 2, 1) := by decide +kernel
theorem dL_law_366 : decode cL_law 366 = .ok (.aload_n 0, 1) := by decide +kernel
theorem dL_law_367 : decode cL_law 367 = .ok (.iload_n 3, 1) := by decide +kernel
theorem dL_law_368 : decode cL_law 368 = .ok (.iconst 1, 1) := by decide +kernel
theorem dL_law_369 : decode cL_law 369 = .ok (.iadd, 1) := by decide +kernel
theorem dL_law_370 : decode cL_law 370 = .ok (.iaload, 1) := by decide +kernel
theorem dL_law_371 : decode cL_law 371 = .ok (.aload_n 0, 1) := by decide +kernel
theorem dL_law_372 : decode cL_law 372 = .ok (.iload_n 3, 1) := by decide +kernel
theorem dL_law_373 : decode cL_law 373 = .ok (.iconst 2, 1) := by decide +kernel
theorem dL_law_374 : decode cL_law 374 = .ok (.iadd, 1) := by decide +kernel
theorem dL_law_375 : decode cL_law 375 = .ok (.iaload, 1) := by decide +kernel
theorem dL_law_376 : decode cL_law 376 = .ok (.aload_n 0, 1) := by decide +kernel
theorem dL_law_377 : decode cL_law 377 = .ok (.iload_n 3, 1) := by decide +kernel
theorem dL_law_378 : decode cL_law 378 = .ok (.iconst 3, 1) := by decide +kernel
theorem dL_law_379 : decode cL_law 379 = .ok (.iadd, 1) := by decide +kernel
theorem dL_law_380 : decode cL_law 380 = .ok (.iaload, 1) := by decide +kernel
theorem dL_law_381 : decode cL_law 381 = .ok (.aload_n 0, 1) := by decide +kernel
theorem dL_law_382 : decode cL_law 382 = .ok (.iload_n 3, 1) := by decide +kernel
theorem dL_law_383 : decode cL_law 383 = .ok (.iconst 4, 1) := by decide +kernel
theorem dL_law_384 : decode cL_law 384 = .ok (.iadd, 1) := by decide +kernel
theorem dL_law_385 : decode cL_law 385 = .ok (.iaload, 1) := by decide +kernel
theorem dL_law_386 : decode cL_law 386 = .ok (.aload_n 0, 1) := by decide +kernel
theorem dL_law_387 : decode cL_law 387 = .ok (.iload_n 3, 1) := by decide +kernel
theorem dL_law_388 : decode cL_law 388 = .ok (.iconst 5, 1) := by decide +kernel
theorem dL_law_389 : decode cL_law 389 = .ok (.iadd, 1) := by decide +kernel
theorem dL_law_390 : decode cL_law 390 = .ok (.iaload, 1) := by decide +kernel
theorem dL_law_391 : decode cL_law 391 = .ok (.invokevirtual 47, 3) := by decide +kernel
theorem dL_law_394 : decode cL_law 394 = .ok (.if_icmp .eq 199, 3) := by decide +kernel
theorem dL_law_397 : decode cL_law 397 = .ok (.iconst 0, 1) := by decide +kernel
theorem dL_law_398 : decode cL_law 398 = .ok (.ireturn, 1) := by decide +kernel
theorem dL_law_399 : decode cL_law 399 = .ok (.aload_n 1, 1) := by decide +kernel
theorem dL_law_400 : decode cL_law 400 = .ok (.aload_n 0, 1) := by decide +kernel
theorem dL_law_401 : decode cL_law 401 = .ok (.iload_n 3, 1) := by decide +kernel
theorem dL_law_402 : decode cL_law 402 = .ok (.iconst 1, 1) := by decide +kernel
theorem dL_law_403 : decode cL_law 403 = .ok (.iadd, 1) := by decide +kernel
theorem dL_law_404 : decode cL_law 404 = .ok (.iaload, 1) := by decide +kernel
theorem dL_law_405 : decode cL_law 405 = .ok (.invokevirtual 48, 3) := by decide +kernel
theorem dL_law_408 : decode cL_law 408 = .ok (.aload_n 2, 1) := by decide +kernel
theorem dL_law_409 : decode cL_law 409 = .ok (.aload_n 0, 1) := by decide +kernel
theorem dL_law_410 : decode cL_law 410 = .ok (.iload_n 3, 1) := by decide +kernel
theorem dL_law_411 : decode cL_law 411 = .ok (.iconst 1, 1) := by decide +kernel
theorem dL_law_412 : decode cL_law 412 = .ok (.iadd, 1) := by decide +kernel
theorem dL_law_413 : decode cL_law 413 = .ok (.iaload, 1) := by decide +kernel
theorem dL_law_414 : decode cL_law 414 = .ok (.invokevirtual 51, 3) := by decide +kernel
theorem dL_law_417 : decode cL_law 417 = .ok (.if_icmp .eq 176, 3) := by decide +kernel
theorem dL_law_420 : decode cL_law 420 = .ok (.iconst 0, 1) := by decide +kernel
theorem dL_law_421 : decode cL_law 421 = .ok (.ireturn, 1) := by decide +kernel
theorem dL_law_422 : decode cL_law 422 = .ok (.aload_n 1, 1) := by decide +kernel
theorem dL_law_423 : decode cL_law 423 = .ok (.invokevirtual 52, 3) := by decide +kernel
theorem dL_law_426 : decode cL_law 426 = .ok (.aload_n 2, 1) := by decide +kernel
theorem dL_law_427 : decode cL_law 427 = .ok (.invokevirtual 56, 3) := by decide +kernel
theorem dL_law_430 : decode cL_law 430 = .ok (.if_icmp .eq 163, 3) := by decide +kernel
theorem dL_law_433 : decode cL_law 433 = .ok (.iconst 0, 1) := by decide +kernel
theorem dL_law_434 : decode cL_law 434 = .ok (.ireturn, 1) := by decide +kernel
theorem dL_law_435 : decode cL_law 435 = .ok (.aload_n 1, 1) := by decide +kernel
theorem dL_law_436 : decode cL_law 436 = .ok (.aload_n 0, 1) := by decide +kernel
theorem dL_law_437 : decode cL_law 437 = .ok (.iload_n 3, 1) := by decide +kernel
theorem dL_law_438 : decode cL_law 438 = .ok (.iconst 1, 1) := by decide +kernel
theorem dL_law_439 : decode cL_law 439 = .ok (.iadd, 1) := by decide +kernel
theorem dL_law_440 : decode cL_law 440 = .ok (.iaload, 1) := by decide +kernel
theorem dL_law_441 : decode cL_law 441 = .ok (.invokevirtual 57, 3) := by decide +kernel
theorem dL_law_444 : decode cL_law 444 = .ok (.aload_n 2, 1) := by decide +kernel
theorem dL_law_445 : decode cL_law 445 = .ok (.aload_n 0, 1) := by decide +kernel
theorem dL_law_446 : decode cL_law 446 = .ok (.iload_n 3, 1) := by decide +kernel
theorem dL_law_447 : decode cL_law 447 = .ok (.iconst 1, 1) := by decide +kernel
theorem dL_law_448 : decode cL_law 448 = .ok (.iadd, 1) := by decide +kernel
theorem dL_law_449 : decode cL_law 449 = .ok (.iaload, 1) := by decide +kernel
theorem dL_law_450 : decode cL_law 450 = .ok (.invokevirtual 60, 3) := by decide +kernel
theorem dL_law_453 : decode cL_law 453 = .ok (.if_icmp .eq 140, 3) := by decide +kernel
theorem dL_law_456 : decode cL_law 456 = .ok (.iconst 0, 1) := by decide +kernel
theorem dL_law_457 : decode cL_law 457 = .ok (.ireturn, 1) := by decide +kernel
theorem dL_law_458 : decode cL_law 458 = .ok (.aload_n 1, 1) := by decide +kernel
theorem dL_law_459 : decode cL_law 459 = .ok (.aload_n 0, 1) := by decide +kernel
theorem dL_law_460 : decode cL_law 460 = .ok (.iload_n 3, 1) := by decide +kernel
theorem dL_law_461 : decode cL_law 461 = .ok (.iconst 1, 1) := by decide +kernel
theorem dL_law_462 : decode cL_law 462 = .ok (.iadd, 1) := by decide +kernel
theorem dL_law_463 : decode cL_law 463 = .ok (.iaload, 1) := by decide +kernel
theorem dL_law_464 : decode cL_law 464 = .ok (.aload_n 0, 1) := by decide +kernel
theorem dL_law_465 : decode cL_law 465 = .ok (.iload_n 3, 1) := by decide +kernel
theorem dL_law_466 : decode cL_law 466 = .ok (.iconst 2, 1) := by decide +kernel
theorem dL_law_467 : decode cL_law 467 = .ok (.iadd, 1) := by decide +kernel
theorem dL_law_468 : decode cL_law 468 = .ok (.iaload, 1) := by decide +kernel
theorem dL_law_469 : decode cL_law 469 = .ok (.aload_n 0, 1) := by decide +kernel
theorem dL_law_470 : decode cL_law 470 = .ok (.iload_n 3, 1) := by decide +kernel
theorem dL_law_471 : decode cL_law 471 = .ok (.iconst 3, 1) := by decide +kernel
theorem dL_law_472 : decode cL_law 472 = .ok (.iadd, 1) := by decide +kernel
theorem dL_law_473 : decode cL_law 473 = .ok (.iaload, 1) := by decide +kernel
theorem dL_law_474 : decode cL_law 474 = .ok (.invokevirtual 61, 3) := by decide +kernel
theorem dL_law_477 : decode cL_law 477 = .ok (.aload_n 2, 1) := by decide +kernel
theorem dL_law_478 : decode cL_law 478 = .ok (.aload_n 0, 1) := by decide +kernel
theorem dL_law_479 : decode cL_law 479 = .ok (.iload_n 3, 1) := by decide +kernel
theorem dL_law_480 : decode cL_law 480 = .ok (.iconst 1, 1) := by decide +kernel
theorem dL_law_481 : decode cL_law 481 = .ok (.iadd, 1) := by decide +kernel
theorem dL_law_482 : decode cL_law 482 = .ok (.iaload, 1) := by decide +kernel
theorem dL_law_483 : decode cL_law 483 = .ok (.aload_n 0, 1) := by decide +kernel
theorem dL_law_484 : decode cL_law 484 = .ok (.iload_n 3, 1) := by decide +kernel
theorem dL_law_485 : decode cL_law 485 = .ok (.iconst 2, 1) := by decide +kernel
theorem dL_law_486 : decode cL_law 486 = .ok (.iadd, 1) := by decide +kernel
theorem dL_law_487 : decode cL_law 487 = .ok (.iaload, 1) := by decide +kernel
theorem dL_law_488 : decode cL_law 488 = .ok (.aload_n 0, 1) := by decide +kernel
theorem dL_law_489 : decode cL_law 489 = .ok (.iload_n 3, 1) := by decide +kernel
theorem dL_law_490 : decode cL_law 490 = .ok (.iconst 3, 1) := by decide +kernel
theorem dL_law_491 : decode cL_law 491 = .ok (.iadd, 1) := by decide +kernel
theorem dL_law_492 : decode cL_law 492 = .ok (.iaload, 1) := by decide +kernel
theorem dL_law_493 : decode cL_law 493 = .ok (.invokevirtual 65, 3) := by decide +kernel
theorem dL_law_496 : decode cL_law 496 = .ok (.if_icmp .eq 97, 3) := by decide +kernel
theorem dL_law_499 : decode cL_law 499 = .ok (.iconst 0, 1) := by decide +kernel
theorem dL_law_500 : decode cL_law 500 = .ok (.ireturn, 1) := by decide +kernel
theorem dL_law_501 : decode cL_law 501 = .ok (.aload_n 1, 1) := by decide +kernel
theorem dL_law_502 : decode cL_law 502 = .ok (.aload_n 0, 1) := by decide +kernel
theorem dL_law_503 : decode cL_law 503 = .ok (.iload_n 3, 1) := by decide +kernel
theorem dL_law_504 : decode cL_law 504 = .ok (.iconst 1, 1) := by decide +kernel
theorem dL_law_505 : decode cL_law 505 = .ok (.iadd, 1) := by decide +kernel
theorem dL_law_506 : decode cL_law 506 = .ok (.iaload, 1) := by decide +kernel
theorem dL_law_507 : decode cL_law 507 = .ok (.invokevirtual 66, 3) := by decide +kernel
theorem dL_law_510 : decode cL_law 510 = .ok (.aload_n 2, 1) := by decide +kernel
theorem dL_law_511 : decode cL_law 511 = .ok (.aload_n 0, 1) := by decide +kernel
theorem dL_law_512 : decode cL_law 512 = .ok (.iload_n 3, 1) := by decide +kernel
theorem dL_law_513 : decode cL_law 513 = .ok (.iconst 1, 1) := by decide +kernel
theorem dL_law_514 : decode cL_law 514 = .ok (.iadd, 1) := by decide +kernel
theorem dL_law_515 : decode cL_law 515 = .ok (.iaload, 1) := by decide +kernel
theorem dL_law_516 : decode cL_law 516 = .ok (.invokevirtual 69, 3) := by decide +kernel
theorem dL_law_519 : decode cL_law 519 = .ok (.if_icmp .eq 74, 3) := by decide +kernel
theorem dL_law_522 : decode cL_law 522 = .ok (.iconst 0, 1) := by decide +kernel
theorem dL_law_523 : decode cL_law 523 = .ok (.ireturn, 1) := by decide +kernel
theorem dL_law_524 : decode cL_law 524 = .ok (.aload_n 1, 1) := by decide +kernel
theorem dL_law_525 : decode cL_law 525 = .ok (.aload_n 0, 1) := by decide +kernel
theorem dL_law_526 : decode cL_law 526 = .ok (.iload_n 3, 1) := by decide +kernel
theorem dL_law_527 : decode cL_law 527 = .ok (.iconst 1, 1) := by decide +kernel
theorem dL_law_528 : decode cL_law 528 = .ok (.iadd, 1) := by decide +kernel
theorem dL_law_529 : decode cL_law 529 = .ok (.iaload, 1) := by decide +kernel
theorem dL_law_530 : decode cL_law 530 = .ok (.aload_n 0, 1) := by decide +kernel
theorem dL_law_531 : decode cL_law 531 = .ok (.iload_n 3, 1) := by decide +kernel
theorem dL_law_532 : decode cL_law 532 = .ok (.iconst 2, 1) := by decide +kernel
theorem dL_law_533 : decode cL_law 533 = .ok (.iadd, 1) := by decide +kernel
theorem dL_law_534 : decode cL_law 534 = .ok (.iaload, 1) := by decide +kernel
theorem dL_law_535 : decode cL_law 535 = .ok (.invokevirtual 70, 3) := by decide +kernel
theorem dL_law_538 : decode cL_law 538 = .ok (.aload_n 2, 1) := by decide +kernel
theorem dL_law_539 : decode cL_law 539 = .ok (.aload_n 0, 1) := by decide +kernel
theorem dL_law_540 : decode cL_law 540 = .ok (.iload_n 3, 1) := by decide +kernel
theorem dL_law_541 : decode cL_law 541 = .ok (.iconst 1, 1) := by decide +kernel
theorem dL_law_542 : decode cL_law 542 = .ok (.iadd, 1) := by decide +kernel
theorem dL_law_543 : decode cL_law 543 = .ok (.iaload, 1) := by decide +kernel
theorem dL_law_544 : decode cL_law 544 = .ok (.aload_n 0, 1) := by decide +kernel
theorem dL_law_545 : decode cL_law 545 = .ok (.iload_n 3, 1) := by decide +kernel
theorem dL_law_546 : decode cL_law 546 = .ok (.iconst 2, 1) := by decide +kernel
theorem dL_law_547 : decode cL_law 547 = .ok (.iadd, 1) := by decide +kernel
theorem dL_law_548 : decode cL_law 548 = .ok (.iaload, 1) := by decide +kernel
theorem dL_law_549 : decode cL_law 549 = .ok (.invokevirtual 74, 3) := by decide +kernel
theorem dL_law_552 : decode cL_law 552 = .ok (.if_icmp .eq 41, 3) := by decide +kernel
theorem dL_law_555 : decode cL_law 555 = .ok (.iconst 0, 1) := by decide +kernel
theorem dL_law_556 : decode cL_law 556 = .ok (.ireturn, 1) := by decide +kernel
theorem dL_law_557 : decode cL_law 557 = .ok (.aload_n 1, 1) := by decide +kernel
theorem dL_law_558 : decode cL_law 558 = .ok (.aload_n 0, 1) := by decide +kernel
theorem dL_law_559 : decode cL_law 559 = .ok (.iload_n 3, 1) := by decide +kernel
theorem dL_law_560 : decode cL_law 560 = .ok (.iconst 1, 1) := by decide +kernel
theorem dL_law_561 : decode cL_law 561 = .ok (.iadd, 1) := by decide +kernel
theorem dL_law_562 : decode cL_law 562 = .ok (.iaload, 1) := by decide +kernel
theorem dL_law_563 : decode cL_law 563 = .ok (.invokevirtual 75, 3) := by decide +kernel
theorem dL_law_566 : decode cL_law 566 = .ok (.aload_n 2, 1) := by decide +kernel
theorem dL_law_567 : decode cL_law 567 = .ok (.aload_n 0, 1) := by decide +kernel
theorem dL_law_568 : decode cL_law 568 = .ok (.iload_n 3, 1) := by decide +kernel
theorem dL_law_569 : decode cL_law 569 = .ok (.iconst 1, 1) := by decide +kernel
theorem dL_law_570 : decode cL_law 570 = .ok (.iadd, 1) := by decide +kernel
theorem dL_law_571 : decode cL_law 571 = .ok (.iaload, 1) := by decide +kernel
theorem dL_law_572 : decode cL_law 572 = .ok (.invokevirtual 78, 3) := by decide +kernel
theorem dL_law_575 : decode cL_law 575 = .ok (.if_icmp .eq 18, 3) := by decide +kernel
theorem dL_law_578 : decode cL_law 578 = .ok (.iconst 0, 1) := by decide +kernel
theorem dL_law_579 : decode cL_law 579 = .ok (.ireturn, 1) := by decide +kernel
theorem dL_law_580 : decode cL_law 580 = .ok (.aload_n 1, 1) := by decide +kernel
theorem dL_law_581 : decode cL_law 581 = .ok (.invokevirtual 79, 3) := by decide +kernel
theorem dL_law_584 : decode cL_law 584 = .ok (.aload_n 2, 1) := by decide +kernel
theorem dL_law_585 : decode cL_law 585 = .ok (.invokevirtual 82, 3) := by decide +kernel
theorem dL_law_588 : decode cL_law 588 = .ok (.if_icmp .eq 5, 3) := by decide +kernel
theorem dL_law_591 : decode cL_law 591 = .ok (.iconst 0, 1) := by decide +kernel
theorem dL_law_592 : decode cL_law 592 = .ok (.ireturn, 1) := by decide +kernel
theorem dL_law_593 : decode cL_law 593 = .ok (.iinc 3 6, 3) := by decide +kernel
theorem dL_law_596 : decode cL_law 596 = .ok (.goto (-578), 3) := by decide +kernel
theorem dL_law_599 : decode cL_law 599 = .ok (.iconst 1, 1) := by decide +kernel
theorem dL_law_600 : decode cL_law 600 = .ok (.ireturn, 1) := by decide +kernel
