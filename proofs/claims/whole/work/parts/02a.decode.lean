theorem dX0_init_0 : decode cX0_init 0 = .ok (.aload_n 0, 1) := by decide +kernel
theorem dX0_init_1 : decode cX0_init 1 = .ok (.invokespecial 1, 3) := by decide +kernel
theorem dX0_init_4 : decode cX0_init 4 = .ok (.return_, 1) := by decide +kernel
theorem dX0_lay_0 : decode cX0_lay 0 = .ok (.aload_n 1, 1) := by decide +kernel
theorem dX0_lay_1 : decode cX0_lay 1 = .ok (.aload_n 2, 1) := by decide +kernel
theorem dX0_lay_2 : decode cX0_lay 2 = .ok (.getfield 7, 3) := by decide +kernel
theorem dX0_lay_5 : decode cX0_lay 5 = .ok (.invokevirtual 13, 3) := by decide +kernel
theorem dX0_lay_8 : decode cX0_lay 8 = .ok (.istore 4, 2) := by decide +kernel
theorem dX0_lay_10 : decode cX0_lay 10 = .ok (.iconst 0, 1) := by decide +kernel
theorem dX0_lay_11 : decode cX0_lay 11 = .ok (.istore 5, 2) := by decide +kernel
theorem dX0_lay_13 : decode cX0_lay 13 = .ok (.aload_n 0, 1) := by decide +kernel
theorem dX0_lay_14 : decode cX0_lay 14 = .ok (.getfield 19, 3) := by decide +kernel
theorem dX0_lay_17 : decode cX0_lay 17 = .ok (.istore 6, 2) := by decide +kernel
theorem dX0_lay_19 : decode cX0_lay 19 = .ok (.iload 6, 2) := by decide +kernel
theorem dX0_lay_21 : decode cX0_lay 21 = .ok (.aload_n 1, 1) := by decide +kernel
theorem dX0_lay_22 : decode cX0_lay 22 = .ok (.getfield 24, 3) := by decide +kernel
theorem dX0_lay_25 : decode cX0_lay 25 = .ok (.if_icmp .gt 106, 3) := by decide +kernel
theorem dX0_lay_28 : decode cX0_lay 28 = .ok (.iload 6, 2) := by decide +kernel
theorem dX0_lay_30 : decode cX0_lay 30 = .ok (.aload_n 0, 1) := by decide +kernel
theorem dX0_lay_31 : decode cX0_lay 31 = .ok (.getfield 19, 3) := by decide +kernel
theorem dX0_lay_34 : decode cX0_lay 34 = .ok (.if_icmp .ne 10, 3) := by decide +kernel
theorem dX0_lay_37 : decode cX0_lay 37 = .ok (.aload_n 0, 1) := by decide +kernel
theorem dX0_lay_38 : decode cX0_lay 38 = .ok (.getfield 27, 3) := by decide +kernel
theorem dX0_lay_41 : decode cX0_lay 41 = .ok (.goto 10, 3) := by decide +kernel
theorem dX0_lay_44 : decode cX0_lay 44 = .ok (.aload_n 2, 1) := by decide +kernel
theorem dX0_lay_45 : decode cX0_lay 45 = .ok (.getfield 30, 3) := by decide +kernel
theorem dX0_lay_48 : decode cX0_lay 48 = .ok (.iload 6, 2) := by decide +kernel
theorem dX0_lay_50 : decode cX0_lay 50 = .ok (.iaload, 1) := by decide +kernel
theorem dX0_lay_51 : decode cX0_lay 51 = .ok (.istore 7, 2) := by decide +kernel
theorem dX0_lay_53 : decode cX0_lay 53 = .ok (.iload 5, 2) := by decide +kernel
theorem dX0_lay_55 : decode cX0_lay 55 = .ok (.ifCond .ne 8, 3) := by decide +kernel
theorem dX0_lay_58 : decode cX0_lay 58 = .ok (.iload 7, 2) := by decide +kernel
theorem dX0_lay_60 : decode cX0_lay 60 = .ok (.ifCond .le 7, 3) := by decide +kernel
theorem dX0_lay_63 : decode cX0_lay 63 = .ok (.iconst 1, 1) := by decide +kernel
theorem dX0_lay_64 : decode cX0_lay 64 = .ok (.goto 4, 3) := by decide +kernel
theorem dX0_lay_67 : decode cX0_lay 67 = .ok (.iconst 0, 1) := by decide +kernel
theorem dX0_lay_68 : decode cX0_lay 68 = .ok (.istore 5, 2) := by decide +kernel
theorem dX0_lay_70 : decode cX0_lay 70 = .ok (.iload 5, 2) := by decide +kernel
theorem dX0_lay_72 : decode cX0_lay 72 = .ok (.ifCond .eq 22, 3) := by decide +kernel
theorem dX0_lay_75 : decode cX0_lay 75 = .ok (.aload_n 3, 1) := by decide +kernel
theorem dX0_lay_76 : decode cX0_lay 76 = .ok (.aload_n 2, 1) := by decide +kernel
theorem dX0_lay_77 : decode cX0_lay 77 = .ok (.getfield 7, 3) := by decide +kernel
theorem dX0_lay_80 : decode cX0_lay 80 = .ok (.aload_n 1, 1) := by decide +kernel
theorem dX0_lay_81 : decode cX0_lay 81 = .ok (.getfield 34, 3) := by decide +kernel
theorem dX0_lay_84 : decode cX0_lay 84 = .ok (.iload 6, 2) := by decide +kernel
theorem dX0_lay_86 : decode cX0_lay 86 = .ok (.invokevirtual 37, 3) := by decide +kernel
theorem dX0_lay_89 : decode cX0_lay 89 = .ok (.ifCond .ne 5, 3) := by decide +kernel
theorem dX0_lay_92 : decode cX0_lay 92 = .ok (.iconst 0, 1) := by decide +kernel
theorem dX0_lay_93 : decode cX0_lay 93 = .ok (.ireturn, 1) := by decide +kernel
theorem dX0_lay_94 : decode cX0_lay 94 = .ok (.iload 4, 2) := by decide +kernel
theorem dX0_lay_96 : decode cX0_lay 96 = .ok (.iload 7, 2) := by decide +kernel
theorem dX0_lay_98 : decode cX0_lay 98 = .ok (.if_icmp .gt 20, 3) := by decide +kernel
theorem dX0_lay_101 : decode cX0_lay 101 = .ok (.aload_n 0, 1) := by decide +kernel
theorem dX0_lay_102 : decode cX0_lay 102 = .ok (.iload 6, 2) := by decide +kernel
theorem dX0_lay_104 : decode cX0_lay 104 = .ok (.putfield 19, 3) := by decide +kernel
theorem dX0_lay_107 : decode cX0_lay 107 = .ok (.aload_n 0, 1) := by decide +kernel
theorem dX0_lay_108 : decode cX0_lay 108 = .ok (.iload 7, 2) := by decide +kernel
theorem dX0_lay_110 : decode cX0_lay 110 = .ok (.iload 4, 2) := by decide +kernel
theorem dX0_lay_112 : decode cX0_lay 112 = .ok (.isub, 1) := by decide +kernel
theorem dX0_lay_113 : decode cX0_lay 113 = .ok (.putfield 27, 3) := by decide +kernel
theorem dX0_lay_116 : decode cX0_lay 116 = .ok (.iconst 1, 1) := by decide +kernel
theorem dX0_lay_117 : decode cX0_lay 117 = .ok (.ireturn, 1) := by decide +kernel
theorem dX0_lay_118 : decode cX0_lay 118 = .ok (.iload 4, 2) := by decide +kernel
theorem dX0_lay_120 : decode cX0_lay 120 = .ok (.iload 7, 2) := by decide +kernel
theorem dX0_lay_122 : decode cX0_lay 122 = .ok (.isub, 1) := by decide +kernel
theorem dX0_lay_123 : decode cX0_lay 123 = .ok (.istore 4, 2) := by decide +kernel
theorem dX0_lay_125 : decode cX0_lay 125 = .ok (.iinc 6 1, 3) := by decide +kernel
theorem dX0_lay_128 : decode cX0_lay 128 = .ok (.goto (-109), 3) := by decide +kernel
theorem dX0_lay_131 : decode cX0_lay 131 = .ok (.iconst 0, 1) := by decide +kernel
theorem dX0_lay_132 : decode cX0_lay 132 = .ok (.ireturn, 1) := by decide +kernel
theorem dX1_init_0 : decode cX1_init 0 = .ok (.aload_n 0, 1) := by decide +kernel
theorem dX1_init_1 : decode cX1_init 1 = .ok (.invokespecial 3, 3) := by decide +kernel
theorem dX1_init_4 : decode cX1_init 4 = .ok (.aload_n 0, 1) := by decide +kernel
theorem dX1_init_5 : decode cX1_init 5 = .ok (.new 9, 3) := by decide +kernel
theorem dX1_init_8 : decode cX1_init 8 = .ok (.dup, 1) := by decide +kernel
theorem dX1_init_9 : decode cX1_init 9 = .ok (.invokespecial 11, 3) := by decide +kernel
theorem dX1_init_12 : decode cX1_init 12 = .ok (.putfield 12, 3) := by decide +kernel
theorem dX1_init_15 : decode cX1_init 15 = .ok (.aload_n 0, 1) := by decide +kernel
theorem dX1_init_16 : decode cX1_init 16 = .ok (.iconst (-1), 1) := by decide +kernel
theorem dX1_init_17 : decode cX1_init 17 = .ok (.putfield 18, 3) := by decide +kernel
theorem dX1_init_20 : decode cX1_init 20 = .ok (.aload_n 0, 1) := by decide +kernel
theorem dX1_init_21 : decode cX1_init 21 = .ok (.iconst 3, 1) := by decide +kernel
theorem dX1_init_22 : decode cX1_init 22 = .ok (.newarray .int, 2) := by decide +kernel
theorem dX1_init_24 : decode cX1_init 24 = .ok (.putfield 22, 3) := by decide +kernel
theorem dX1_init_27 : decode cX1_init 27 = .ok (.return_, 1) := by decide +kernel
theorem dX1_readInto_0 : decode cX1_readInto 0 = .ok (.aload_n 0, 1) := by decide +kernel
theorem dX1_readInto_1 : decode cX1_readInto 1 = .ok (.iconst 0, 1) := by decide +kernel
theorem dX1_readInto_2 : decode cX1_readInto 2 = .ok (.putfield 26, 3) := by decide +kernel
theorem dX1_readInto_5 : decode cX1_readInto 5 = .ok (.aload_n 0, 1) := by decide +kernel
theorem dX1_readInto_6 : decode cX1_readInto 6 = .ok (.iconst 0, 1) := by decide +kernel
theorem dX1_readInto_7 : decode cX1_readInto 7 = .ok (.putfield 29, 3) := by decide +kernel
theorem dX1_readInto_10 : decode cX1_readInto 10 = .ok (.aload_n 0, 1) := by decide +kernel
theorem dX1_readInto_11 : decode cX1_readInto 11 = .ok (.iconst (-1), 1) := by decide +kernel
theorem dX1_readInto_12 : decode cX1_readInto 12 = .ok (.putfield 18, 3) := by decide +kernel
theorem dX1_readInto_15 : decode cX1_readInto 15 = .ok (.aload_n 1, 1) := by decide +kernel
theorem dX1_readInto_16 : decode cX1_readInto 16 = .ok (.invokevirtual 32, 3) := by decide +kernel
theorem dX1_readInto_19 : decode cX1_readInto 19 = .ok (.aload_n 0, 1) := by decide +kernel
theorem dX1_readInto_20 : decode cX1_readInto 20 = .ok (.getfield 12, 3) := by decide +kernel
theorem dX1_readInto_23 : decode cX1_readInto 23 = .ok (.invokevirtual 37, 3) := by decide +kernel
theorem dX1_readInto_26 : decode cX1_readInto 26 = .ok (.iconst 0, 1) := by decide +kernel
theorem dX1_readInto_27 : decode cX1_readInto 27 = .ok (.istore_n 2, 1) := by decide +kernel
theorem dX1_readInto_28 : decode cX1_readInto 28 = .ok (.iload_n 2, 1) := by decide +kernel
theorem dX1_readInto_29 : decode cX1_readInto 29 = .ok (.bipush 24, 2) := by decide +kernel
theorem dX1_readInto_31 : decode cX1_readInto 31 = .ok (.if_icmp .gt 30, 3) := by decide +kernel
theorem dX1_readInto_34 : decode cX1_readInto 34 = .ok (.aload_n 0, 1) := by decide +kernel
theorem dX1_readInto_35 : decode cX1_readInto 35 = .ok (.getfield 12, 3) := by decide +kernel
theorem dX1_readInto_38 : decode cX1_readInto 38 = .ok (.getfield 40, 3) := by decide +kernel
theorem dX1_readInto_41 : decode cX1_readInto 41 = .ok (.iconst 1, 1) := by decide +kernel
theorem dX1_readInto_42 : decode cX1_readInto 42 = .ok (.if_icmp .eq 19, 3) := by decide +kernel
theorem dX1_readInto_45 : decode cX1_readInto 45 = .ok (.aload_n 0, 1) := by decide +kernel
theorem dX1_readInto_46 : decode cX1_readInto 46 = .ok (.aload_n 1, 1) := by decide +kernel
theorem dX1_readInto_47 : decode cX1_readInto 47 = .ok (.invokevirtual 43, 3) := by decide +kernel
theorem dX1_readInto_50 : decode cX1_readInto 50 = .ok (.ifCond .ne 5, 3) := by decide +kernel
theorem dX1_readInto_53 : decode cX1_readInto 53 = .ok (.iconst 0, 1) := by decide +kernel
theorem dX1_readInto_54 : decode cX1_readInto 54 = .ok (.ireturn, 1) := by decide +kernel
theorem dX1_readInto_55 : decode cX1_readInto 55 = .ok (.iinc 2 1, 3) := by decide +kernel
theorem dX1_readInto_58 : decode cX1_readInto 58 = .ok (.goto (-30), 3) := by decide +kernel
theorem dX1_readInto_61 : decode cX1_readInto 61 = .ok (.iconst 1, 1) := by decide +kernel
theorem dX1_readInto_62 : decode cX1_readInto 62 = .ok (.ireturn, 1) := by decide +kernel
theorem dX1_readLine_0 : decode cX1_readLine 0 = .ok (.aload_n 0, 1) := by decide +kernel
theorem dX1_readLine_1 : decode cX1_readLine 1 = .ok (.getfield 12, 3) := by decide +kernel
theorem dX1_readLine_4 : decode cX1_readLine 4 = .ok (.getfield 40, 3) := by decide +kernel
theorem dX1_readLine_7 : decode cX1_readLine 7 = .ok (.istore_n 2, 1) := by decide +kernel
theorem dX1_readLine_8 : decode cX1_readLine 8 = .ok (.iload_n 2, 1) := by decide +kernel
theorem dX1_readLine_9 : decode cX1_readLine 9 = .ok (.iconst 4, 1) := by decide +kernel
theorem dX1_readLine_10 : decode cX1_readLine 10 = .ok (.if_icmp .eq 27, 3) := by decide +kernel
theorem dX1_readLine_13 : decode cX1_readLine 13 = .ok (.iload_n 2, 1) := by decide +kernel
theorem dX1_readLine_14 : decode cX1_readLine 14 = .ok (.bipush 6, 2) := by decide +kernel
theorem dX1_readLine_16 : decode cX1_readLine 16 = .ok (.if_icmp .eq 21, 3) := by decide +kernel
theorem dX1_readLine_19 : decode cX1_readLine 19 = .ok (.iload_n 2, 1) := by decide +kernel
theorem dX1_readLine_20 : decode cX1_readLine 20 = .ok (.bipush 9, 2) := by decide +kernel
theorem dX1_readLine_22 : decode cX1_readLine 22 = .ok (.if_icmp .eq 15, 3) := by decide +kernel
theorem dX1_readLine_25 : decode cX1_readLine 25 = .ok (.iload_n 2, 1) := by decide +kernel
theorem dX1_readLine_26 : decode cX1_readLine 26 = .ok (.bipush 11, 2) := by decide +kernel
theorem dX1_readLine_28 : decode cX1_readLine 28 = .ok (.if_icmp .eq 9, 3) := by decide +kernel
theorem dX1_readLine_31 : decode cX1_readLine 31 = .ok (.aload_n 0, 1) := by decide +kernel
theorem dX1_readLine_32 : decode cX1_readLine 32 = .ok (.iconst 1, 1) := by decide +kernel
theorem dX1_readLine_33 : decode cX1_readLine 33 = .ok (.invokevirtual 47, 3) := by decide +kernel
theorem dX1_readLine_36 : decode cX1_readLine 36 = .ok (.ireturn, 1) := by decide +kernel
theorem dX1_readLine_37 : decode cX1_readLine 37 = .ok (.aload_n 0, 1) := by decide +kernel
theorem dX1_readLine_38 : decode cX1_readLine 38 = .ok (.getfield 26, 3) := by decide +kernel
theorem dX1_readLine_41 : decode cX1_readLine 41 = .ok (.bipush 24, 2) := by decide +kernel
theorem dX1_readLine_43 : decode cX1_readLine 43 = .ok (.if_icmp .lt 9, 3) := by decide +kernel
theorem dX1_readLine_46 : decode cX1_readLine 46 = .ok (.aload_n 0, 1) := by decide +kernel
theorem dX1_readLine_47 : decode cX1_readLine 47 = .ok (.iconst 3, 1) := by decide +kernel
theorem dX1_readLine_48 : decode cX1_readLine 48 = .ok (.invokevirtual 47, 3) := by decide +kernel
theorem dX1_readLine_51 : decode cX1_readLine 51 = .ok (.ireturn, 1) := by decide +kernel
theorem dX1_readLine_52 : decode cX1_readLine 52 = .ok (.aload_n 0, 1) := by decide +kernel
theorem dX1_readLine_53 : decode cX1_readLine 53 = .ok (.getfield 12, 3) := by decide +kernel
theorem dX1_readLine_56 : decode cX1_readLine 56 = .ok (.invokevirtual 51, 3) := by decide +kernel
theorem dX1_readLine_59 : decode cX1_readLine 59 = .ok (.aload_n 0, 1) := by decide +kernel
theorem dX1_readLine_60 : decode cX1_readLine 60 = .ok (.iload_n 2, 1) := by decide +kernel
theorem dX1_readLine_61 : decode cX1_readLine 61 = .ok (.invokestatic 54, 3) := by decide +kernel
theorem dX1_readLine_64 : decode cX1_readLine 64 = .ok (.invokevirtual 58, 3) := by decide +kernel
theorem dX1_readLine_67 : decode cX1_readLine 67 = .ok (.ifCond .ne 5, 3) := by decide +kernel
theorem dX1_readLine_70 : decode cX1_readLine 70 = .ok (.iconst 0, 1) := by decide +kernel
theorem dX1_readLine_71 : decode cX1_readLine 71 = .ok (.ireturn, 1) := by decide +kernel
theorem dX1_readLine_72 : decode cX1_readLine 72 = .ok (.aload_n 0, 1) := by decide +kernel
theorem dX1_readLine_73 : decode cX1_readLine 73 = .ok (.iload_n 2, 1) := by decide +kernel
theorem dX1_readLine_74 : decode cX1_readLine 74 = .ok (.aload_n 1, 1) := by decide +kernel
theorem dX1_readLine_75 : decode cX1_readLine 75 = .ok (.invokevirtual 62, 3) := by decide +kernel
theorem dX1_readLine_78 : decode cX1_readLine 78 = .ok (.aload_n 0, 1) := by decide +kernel
theorem dX1_readLine_79 : decode cX1_readLine 79 = .ok (.dup, 1) := by decide +kernel
theorem dX1_readLine_80 : decode cX1_readLine 80 = .ok (.getfield 26, 3) := by decide +kernel
theorem dX1_readLine_83 : decode cX1_readLine 83 = .ok (.iconst 1, 1) := by decide +kernel
theorem dX1_readLine_84 : decode cX1_readLine 84 = .ok (.iadd, 1) := by decide +kernel
theorem dX1_readLine_85 : decode cX1_readLine 85 = .ok (.putfield 26, 3) := by decide +kernel
theorem dX1_readLine_88 : decode cX1_readLine 88 = .ok (.iconst 1, 1) := by decide +kernel
theorem dX1_readLine_89 : decode cX1_readLine 89 = .ok (.ireturn, 1) := by decide +kernel
theorem dX1_formOf_0 : decode cX1_formOf 0 = .ok (.iload_n 0, 1) := by decide +kernel
theorem dX1_formOf_1 : decode cX1_formOf 1 = .ok (.lookupswitch 47 #[(4, 35), (6, 39), (9, 43)], 35) := by decide +kernel
theorem dX1_formOf_36 : decode cX1_formOf 36 = .ok (.getstatic 66, 3) := by decide +kernel
theorem dX1_formOf_39 : decode cX1_formOf 39 = .ok (.areturn, 1) := by decide +kernel
theorem dX1_formOf_40 : decode cX1_formOf 40 = .ok (.getstatic 69, 3) := by decide +kernel
theorem dX1_formOf_43 : decode cX1_formOf 43 = .ok (.areturn, 1) := by decide +kernel
theorem dX1_formOf_44 : decode cX1_formOf 44 = .ok (.getstatic 72, 3) := by decide +kernel
theorem dX1_formOf_47 : decode cX1_formOf 47 = .ok (.areturn, 1) := by decide +kernel
theorem dX1_formOf_48 : decode cX1_formOf 48 = .ok (.getstatic 75, 3) := by decide +kernel
theorem dX1_formOf_51 : decode cX1_formOf 51 = .ok (.areturn, 1) := by decide +kernel
theorem dX1_readParts_0 : decode cX1_readParts 0 = .ok (.iconst 0, 1) := by decide +kernel
theorem dX1_readParts_1 : decode cX1_readParts 1 = .ok (.istore_n 2, 1) := by decide +kernel
theorem dX1_readParts_2 : decode cX1_readParts 2 = .ok (.iconst 0, 1) := by decide +kernel
theorem dX1_readParts_3 : decode cX1_readParts 3 = .ok (.istore_n 3, 1) := by decide +kernel
theorem dX1_readParts_4 : decode cX1_readParts 4 = .ok (.iload_n 3, 1) := by decide +kernel
theorem dX1_readParts_5 : decode cX1_readParts 5 = .ok (.aload_n 1, 1) := by decide +kernel
theorem dX1_readParts_6 : decode cX1_readParts 6 = .ok (.arraylength, 1) := by decide +kernel
theorem dX1_readParts_7 : decode cX1_readParts 7 = .ok (.if_icmp .ge 117, 3) := by decide +kernel
theorem dX1_readParts_10 : decode cX1_readParts 10 = .ok (.aload_n 1, 1) := by decide +kernel
theorem dX1_readParts_11 : decode cX1_readParts 11 = .ok (.iload_n 3, 1) := by decide +kernel
theorem dX1_readParts_12 : decode cX1_readParts 12 = .ok (.iaload, 1) := by decide +kernel
theorem dX1_readParts_13 : decode cX1_readParts 13 = .ok (.bipush 12, 2) := by decide +kernel
theorem dX1_readParts_15 : decode cX1_readParts 15 = .ok (.if_icmp .lt 7, 3) := by decide +kernel
theorem dX1_readParts_18 : decode cX1_readParts 18 = .ok (.iconst 1, 1) := by decide +kernel
theorem dX1_readParts_19 : decode cX1_readParts 19 = .ok (.goto 4, 3) := by decide +kernel
theorem dX1_readParts_22 : decode cX1_readParts 22 = .ok (.iconst 0, 1) := by decide +kernel
theorem dX1_readParts_23 : decode cX1_readParts 23 = .ok (.istore 4, 2) := by decide +kernel
theorem dX1_readParts_25 : decode cX1_readParts 25 = .ok (.aload_n 0, 1) := by decide +kernel
theorem dX1_readParts_26 : decode cX1_readParts 26 = .ok (.getfield 12, 3) := by decide +kernel
theorem dX1_readParts_29 : decode cX1_readParts 29 = .ok (.getfield 40, 3) := by decide +kernel
theorem dX1_readParts_32 : decode cX1_readParts 32 = .ok (.iload 4, 2) := by decide +kernel
theorem dX1_readParts_34 : decode cX1_readParts 34 = .ok (.ifCond .eq 7, 3) := by decide +kernel
theorem dX1_readParts_37 : decode cX1_readParts 37 = .ok (.iconst 3, 1) := by decide +kernel
theorem dX1_readParts_38 : decode cX1_readParts 38 = .ok (.goto 6, 3) := by decide +kernel
theorem dX1_readParts_41 : decode cX1_readParts 41 = .ok (.aload_n 1, 1) := by decide +kernel
theorem dX1_readParts_42 : decode cX1_readParts 42 = .ok (.iload_n 3, 1) := by decide +kernel
theorem dX1_readParts_43 : decode cX1_readParts 43 = .ok (.iaload, 1) := by decide +kernel
theorem dX1_readParts_44 : decode cX1_readParts 44 = .ok (.if_icmp .eq 9, 3) := by decide +kernel
theorem dX1_readParts_47 : decode cX1_readParts 47 = .ok (.aload_n 0, 1) := by decide +kernel
theorem dX1_readParts_48 : decode cX1_readParts 48 = .ok (.iconst 1, 1) := by decide +kernel
theorem dX1_readParts_49 : decode cX1_readParts 49 = .ok (.invokevirtual 47, 3) := by decide +kernel
theorem dX1_readParts_52 : decode cX1_readParts 52 = .ok (.ireturn, 1) := by decide +kernel
theorem dX1_readParts_53 : decode cX1_readParts 53 = .ok (.iload 4, 2) := by decide +kernel
theorem dX1_readParts_55 : decode cX1_readParts 55 = .ok (.ifCond .eq 56, 3) := by decide +kernel
theorem dX1_readParts_58 : decode cX1_readParts 58 = .ok (.iload_n 2, 1) := by decide +kernel
theorem dX1_readParts_59 : decode cX1_readParts 59 = .ok (.iconst 3, 1) := by decide +kernel
theorem dX1_readParts_60 : decode cX1_readParts 60 = .ok (.if_icmp .ge 51, 3) := by decide +kernel
theorem dX1_readParts_63 : decode cX1_readParts 63 = .ok (.aload_n 0, 1) := by decide +kernel
theorem dX1_readParts_64 : decode cX1_readParts 64 = .ok (.getfield 12, 3) := by decide +kernel
theorem dX1_readParts_67 : decode cX1_readParts 67 = .ok (.getfield 78, 3) := by decide +kernel
theorem dX1_readParts_70 : decode cX1_readParts 70 = .ok (.aload_n 0, 1) := by decide +kernel
theorem dX1_readParts_71 : decode cX1_readParts 71 = .ok (.aload_n 1, 1) := by decide +kernel
theorem dX1_readParts_72 : decode cX1_readParts 72 = .ok (.iload_n 3, 1) := by decide +kernel
theorem dX1_readParts_73 : decode cX1_readParts 73 = .ok (.iaload, 1) := by decide +kernel
theorem dX1_readParts_74 : decode cX1_readParts 74 = .ok (.invokevirtual 81, 3) := by decide +kernel
theorem dX1_readParts_77 : decode cX1_readParts 77 = .ok (.aload_n 1, 1) := by decide +kernel
theorem dX1_readParts_78 : decode cX1_readParts 78 = .ok (.iload_n 3, 1) := by decide +kernel
theorem dX1_readParts_79 : decode cX1_readParts 79 = .ok (.iaload, 1) := by decide +kernel
theorem dX1_readParts_80 : decode cX1_readParts 80 = .ok (.invokestatic 85, 3) := by decide +kernel
theorem dX1_readParts_83 : decode cX1_readParts 83 = .ok (.invokestatic 88, 3) := by decide +kernel
theorem dX1_readParts_86 : decode cX1_readParts 86 = .ok (.ifCond .ne 9, 3) := by decide +kernel
theorem dX1_readParts_89 : decode cX1_readParts 89 = .ok (.aload_n 0, 1) := by decide +kernel
theorem dX1_readParts_90 : decode cX1_readParts 90 = .ok (.iconst 2, 1) := by decide +kernel
theorem dX1_readParts_91 : decode cX1_readParts 91 = .ok (.invokevirtual 47, 3) := by decide +kernel
theorem dX1_readParts_94 : decode cX1_readParts 94 = .ok (.ireturn, 1) := by decide +kernel
theorem dX1_readParts_95 : decode cX1_readParts 95 = .ok (.aload_n 0, 1) := by decide +kernel
theorem dX1_readParts_96 : decode cX1_readParts 96 = .ok (.getfield 22, 3) := by decide +kernel
theorem dX1_readParts_99 : decode cX1_readParts 99 = .ok (.iload_n 2, 1) := by decide +kernel
theorem dX1_readParts_100 : decode cX1_readParts 100 = .ok (.aload_n 0, 1) := by decide +kernel
theorem dX1_readParts_101 : decode cX1_readParts 101 = .ok (.getfield 12, 3) := by decide +kernel
theorem dX1_readParts_104 : decode cX1_readParts 104 = .ok (.getfield 78, 3) := by decide +kernel
theorem dX1_readParts_107 : decode cX1_readParts 107 = .ok (.iastore, 1) := by decide +kernel
theorem dX1_readParts_108 : decode cX1_readParts 108 = .ok (.iinc 2 1, 3) := by decide +kernel
theorem dX1_readParts_111 : decode cX1_readParts 111 = .ok (.aload_n 0, 1) := by decide +kernel
theorem dX1_readParts_112 : decode cX1_readParts 112 = .ok (.getfield 12, 3) := by decide +kernel
theorem dX1_readParts_115 : decode cX1_readParts 115 = .ok (.invokevirtual 51, 3) := by decide +kernel
theorem dX1_readParts_118 : decode cX1_readParts 118 = .ok (.iinc 3 1, 3) := by decide +kernel
theorem dX1_readParts_121 : decode cX1_readParts 121 = .ok (.goto (-117), 3) := by decide +kernel
theorem dX1_readParts_124 : decode cX1_readParts 124 = .ok (.iconst 1, 1) := by decide +kernel
theorem dX1_readParts_125 : decode cX1_readParts 125 = .ok (.ireturn, 1) := by decide +kernel
theorem dX1_leastOf_0 : decode cX1_leastOf 0 = .ok (.iload_n 1, 1) := by decide +kernel
theorem dX1_leastOf_1 : decode cX1_leastOf 1 = .ok (.bipush 15, 2) := by decide +kernel
theorem dX1_leastOf_3 : decode cX1_leastOf 3 = .ok (.if_icmp .ne 12, 3) := by decide +kernel
theorem dX1_leastOf_6 : decode cX1_leastOf 6 = .ok (.aload_n 0, 1) := by decide +kernel
theorem dX1_leastOf_7 : decode cX1_leastOf 7 = .ok (.getfield 22, 3) := by decide +kernel
theorem dX1_leastOf_10 : decode cX1_leastOf 10 = .ok (.iconst 1, 1) := by decide +kernel
theorem dX1_leastOf_11 : decode cX1_leastOf 11 = .ok (.iaload, 1) := by decide +kernel
theorem dX1_leastOf_12 : decode cX1_leastOf 12 = .ok (.goto 4, 3) := by decide +kernel
theorem dX1_leastOf_15 : decode cX1_leastOf 15 = .ok (.iconst 0, 1) := by decide +kernel
theorem dX1_leastOf_16 : decode cX1_leastOf 16 = .ok (.ireturn, 1) := by decide +kernel
theorem dX1_mostOf_0 : decode cX1_mostOf 0 = .ok (.iload_n 0, 1) := by decide +kernel
theorem dX1_mostOf_1 : decode cX1_mostOf 1 = .ok (.lookupswitch 31 #[(12, 27), (13, 29)], 27) := by decide +kernel
theorem dX1_mostOf_28 : decode cX1_mostOf 28 = .ok (.iconst 5, 1) := by decide +kernel
theorem dX1_mostOf_29 : decode cX1_mostOf 29 = .ok (.ireturn, 1) := by decide +kernel
theorem dX1_mostOf_30 : decode cX1_mostOf 30 = .ok (.iconst 3, 1) := by decide +kernel
theorem dX1_mostOf_31 : decode cX1_mostOf 31 = .ok (.ireturn, 1) := by decide +kernel
theorem dX1_mostOf_32 : decode cX1_mostOf 32 = .ok (.bipush 51, 2) := by decide +kernel
theorem dX1_mostOf_34 : decode cX1_mostOf 34 = .ok (.ireturn, 1) := by decide +kernel
theorem dX1_tell_0 : decode cX1_tell 0 = .ok (.iload_n 1, 1) := by decide +kernel
theorem dX1_tell_1 : decode cX1_tell 1 = .ok (.lookupswitch 104 #[(4, 35), (6, 54), (9, 79)], 35) := by decide +kernel
theorem dX1_tell_36 : decode cX1_tell 36 = .ok (.aload_n 2, 1) := by decide +kernel
theorem dX1_tell_37 : decode cX1_tell 37 = .ok (.aload_n 0, 1) := by decide +kernel
theorem dX1_tell_38 : decode cX1_tell 38 = .ok (.getfield 22, 3) := by decide +kernel
theorem dX1_tell_41 : decode cX1_tell 41 = .ok (.iconst 0, 1) := by decide +kernel
theorem dX1_tell_42 : decode cX1_tell 42 = .ok (.iaload, 1) := by decide +kernel
theorem dX1_tell_43 : decode cX1_tell 43 = .ok (.aload_n 0, 1) := by decide +kernel
theorem dX1_tell_44 : decode cX1_tell 44 = .ok (.getfield 22, 3) := by decide +kernel
theorem dX1_tell_47 : decode cX1_tell 47 = .ok (.iconst 1, 1) := by decide +kernel
theorem dX1_tell_48 : decode cX1_tell 48 = .ok (.iaload, 1) := by decide +kernel
theorem dX1_tell_49 : decode cX1_tell 49 = .ok (.invokevirtual 92, 3) := by decide +kernel
theorem dX1_tell_52 : decode cX1_tell 52 = .ok (.goto 64, 3) := by decide +kernel
theorem dX1_tell_55 : decode cX1_tell 55 = .ok (.aload_n 2, 1) := by decide +kernel
theorem dX1_tell_56 : decode cX1_tell 56 = .ok (.aload_n 0, 1) := by decide +kernel
theorem dX1_tell_57 : decode cX1_tell 57 = .ok (.getfield 22, 3) := by decide +kernel
theorem dX1_tell_60 : decode cX1_tell 60 = .ok (.iconst 0, 1) := by decide +kernel
theorem dX1_tell_61 : decode cX1_tell 61 = .ok (.iaload, 1) := by decide +kernel
theorem dX1_tell_62 : decode cX1_tell 62 = .ok (.aload_n 0, 1) := by decide +kernel
theorem dX1_tell_63 : decode cX1_tell 63 = .ok (.getfield 22, 3) := by decide +kernel
theorem dX1_tell_66 : decode cX1_tell 66 = .ok (.iconst 1, 1) := by decide +kernel
theorem dX1_tell_67 : decode cX1_tell 67 = .ok (.iaload, 1) := by decide +kernel
theorem dX1_tell_68 : decode cX1_tell 68 = .ok (.aload_n 0, 1) := by decide +kernel
theorem dX1_tell_69 : decode cX1_tell 69 = .ok (.getfield 22, 3) := by decide +kernel
theorem dX1_tell_72 : decode cX1_tell 72 = .ok (.iconst 2, 1) := by decide +kernel
theorem dX1_tell_73 : decode cX1_tell 73 = .ok (.iaload, 1) := by decide +kernel
theorem dX1_tell_74 : decode cX1_tell 74 = .ok (.invokevirtual 96, 3) := by decide +kernel
theorem dX1_tell_77 : decode cX1_tell 77 = .ok (.goto 39, 3) := by decide +kernel
theorem dX1_tell_80 : decode cX1_tell 80 = .ok (.aload_n 2, 1) := by decide +kernel
theorem dX1_tell_81 : decode cX1_tell 81 = .ok (.aload_n 0, 1) := by decide +kernel
theorem dX1_tell_82 : decode cX1_tell 82 = .ok (.getfield 22, 3) := by decide +kernel
theorem dX1_tell_85 : decode cX1_tell 85 = .ok (.iconst 0, 1) := by decide +kernel
theorem dX1_tell_86 : decode cX1_tell 86 = .ok (.iaload, 1) := by decide +kernel
theorem dX1_tell_87 : decode cX1_tell 87 = .ok (.aload_n 0, 1) := by decide +kernel
theorem dX1_tell_88 : decode cX1_tell 88 = .ok (.getfield 22, 3) := by decide +kernel
theorem dX1_tell_91 : decode cX1_tell 91 = .ok (.iconst 1, 1) := by decide +kernel
theorem dX1_tell_92 : decode cX1_tell 92 = .ok (.iaload, 1) := by decide +kernel
theorem dX1_tell_93 : decode cX1_tell 93 = .ok (.aload_n 0, 1) := by decide +kernel
theorem dX1_tell_94 : decode cX1_tell 94 = .ok (.getfield 22, 3) := by decide +kernel
theorem dX1_tell_97 : decode cX1_tell 97 = .ok (.iconst 2, 1) := by decide +kernel
theorem dX1_tell_98 : decode cX1_tell 98 = .ok (.iaload, 1) := by decide +kernel
theorem dX1_tell_99 : decode cX1_tell 99 = .ok (.invokevirtual 100, 3) := by decide +kernel
theorem dX1_tell_102 : decode cX1_tell 102 = .ok (.goto 14, 3) := by decide +kernel
theorem dX1_tell_105 : decode cX1_tell 105 = .ok (.aload_n 2, 1) := by decide +kernel
theorem dX1_tell_106 : decode cX1_tell 106 = .ok (.aload_n 0, 1) := by decide +kernel
theorem dX1_tell_107 : decode cX1_tell 107 = .ok (.getfield 22, 3) := by decide +kernel
theorem dX1_tell_110 : decode cX1_tell 110 = .ok (.iconst 0, 1) := by decide +kernel
theorem dX1_tell_111 : decode cX1_tell 111 = .ok (.iaload, 1) := by decide +kernel
theorem dX1_tell_112 : decode cX1_tell 112 = .ok (.iconst (-1), 1) := by decide +kernel
theorem dX1_tell_113 : decode cX1_tell 113 = .ok (.invokevirtual 92, 3) := by decide +kernel
theorem dX1_tell_116 : decode cX1_tell 116 = .ok (.return_, 1) := by decide +kernel
theorem dX1_stopAt_0 : decode cX1_stopAt 0 = .ok (.aload_n 0, 1) := by decide +kernel
theorem dX1_stopAt_1 : decode cX1_stopAt 1 = .ok (.iload_n 1, 1) := by decide +kernel
theorem dX1_stopAt_2 : decode cX1_stopAt 2 = .ok (.putfield 29, 3) := by decide +kernel
theorem dX1_stopAt_5 : decode cX1_stopAt 5 = .ok (.aload_n 0, 1) := by decide +kernel
theorem dX1_stopAt_6 : decode cX1_stopAt 6 = .ok (.aload_n 0, 1) := by decide +kernel
theorem dX1_stopAt_7 : decode cX1_stopAt 7 = .ok (.getfield 12, 3) := by decide +kernel
theorem dX1_stopAt_10 : decode cX1_stopAt 10 = .ok (.getfield 103, 3) := by decide +kernel
theorem dX1_stopAt_13 : decode cX1_stopAt 13 = .ok (.putfield 18, 3) := by decide +kernel
theorem dX1_stopAt_16 : decode cX1_stopAt 16 = .ok (.iconst 0, 1) := by decide +kernel
theorem dX1_stopAt_17 : decode cX1_stopAt 17 = .ok (.ireturn, 1) := by decide +kernel
theorem dX2_init_0 : decode cX2_init 0 = .ok (.aload_n 0, 1) := by decide +kernel
theorem dX2_init_1 : decode cX2_init 1 = .ok (.invokespecial 3, 3) := by decide +kernel
theorem dX2_init_4 : decode cX2_init 4 = .ok (.aload_n 0, 1) := by decide +kernel
theorem dX2_init_5 : decode cX2_init 5 = .ok (.bipush 52, 2) := by decide +kernel
theorem dX2_init_7 : decode cX2_init 7 = .ok (.newarray .int, 2) := by decide +kernel
theorem dX2_init_9 : decode cX2_init 9 = .ok (.putfield 9, 3) := by decide +kernel
theorem dX2_init_12 : decode cX2_init 12 = .ok (.aload_n 0, 1) := by decide +kernel
theorem dX2_init_13 : decode cX2_init 13 = .ok (.iload_n 1, 1) := by decide +kernel
theorem dX2_init_14 : decode cX2_init 14 = .ok (.putfield 15, 3) := by decide +kernel
theorem dX2_init_17 : decode cX2_init 17 = .ok (.iconst 0, 1) := by decide +kernel
theorem dX2_init_18 : decode cX2_init 18 = .ok (.istore_n 2, 1) := by decide +kernel
theorem dX2_init_19 : decode cX2_init 19 = .ok (.iload_n 2, 1) := by decide +kernel
theorem dX2_init_20 : decode cX2_init 20 = .ok (.bipush 52, 2) := by decide +kernel
theorem dX2_init_22 : decode cX2_init 22 = .ok (.if_icmp .ge 17, 3) := by decide +kernel
theorem dX2_init_25 : decode cX2_init 25 = .ok (.aload_n 0, 1) := by decide +kernel
theorem dX2_init_26 : decode cX2_init 26 = .ok (.getfield 9, 3) := by decide +kernel
theorem dX2_init_29 : decode cX2_init 29 = .ok (.iload_n 2, 1) := by decide +kernel
theorem dX2_init_30 : decode cX2_init 30 = .ok (.bipush 40, 2) := by decide +kernel
theorem dX2_init_32 : decode cX2_init 32 = .ok (.iastore, 1) := by decide +kernel
theorem dX2_init_33 : decode cX2_init 33 = .ok (.iinc 2 1, 3) := by decide +kernel
theorem dX2_init_36 : decode cX2_init 36 = .ok (.goto (-17), 3) := by decide +kernel
theorem dX2_init_39 : decode cX2_init 39 = .ok (.return_, 1) := by decide +kernel
theorem dX3_init_0 : decode cX3_init 0 = .ok (.aload_n 0, 1) := by decide +kernel
theorem dX3_init_1 : decode cX3_init 1 = .ok (.invokespecial 3, 3) := by decide +kernel
theorem dX3_init_4 : decode cX3_init 4 = .ok (.aload_n 0, 1) := by decide +kernel
theorem dX3_init_5 : decode cX3_init 5 = .ok (.iconst 5, 1) := by decide +kernel
theorem dX3_init_6 : decode cX3_init 6 = .ok (.putfield 9, 3) := by decide +kernel
theorem dX3_init_9 : decode cX3_init 9 = .ok (.aload_n 0, 1) := by decide +kernel
theorem dX3_init_10 : decode cX3_init 10 = .ok (.iconst 2, 1) := by decide +kernel
theorem dX3_init_11 : decode cX3_init 11 = .ok (.putfield 15, 3) := by decide +kernel
theorem dX3_init_14 : decode cX3_init 14 = .ok (.aload_n 0, 1) := by decide +kernel
theorem dX3_init_15 : decode cX3_init 15 = .ok (.iconst 0, 1) := by decide +kernel
theorem dX3_init_16 : decode cX3_init 16 = .ok (.putfield 18, 3) := by decide +kernel
theorem dX3_init_19 : decode cX3_init 19 = .ok (.return_, 1) := by decide +kernel
theorem dX3_grossToMake_0 : decode cX3_grossToMake 0 = .ok (.iload_n 1, 1) := by decide +kernel
theorem dX3_grossToMake_1 : decode cX3_grossToMake 1 = .ok (.istore_n 2, 1) := by decide +kernel
theorem dX3_grossToMake_2 : decode cX3_grossToMake 2 = .ok (.iload_n 2, 1) := by decide +kernel
theorem dX3_grossToMake_3 : decode cX3_grossToMake 3 = .ok (.sipush 200, 3) := by decide +kernel
theorem dX3_grossToMake_6 : decode cX3_grossToMake 6 = .ok (.if_icmp .ge 31, 3) := by decide +kernel
theorem dX3_grossToMake_9 : decode cX3_grossToMake 9 = .ok (.iload_n 2, 1) := by decide +kernel
theorem dX3_grossToMake_10 : decode cX3_grossToMake 10 = .ok (.aload_n 0, 1) := by decide +kernel
theorem dX3_grossToMake_11 : decode cX3_grossToMake 11 = .ok (.getfield 18, 3) := by decide +kernel
theorem dX3_grossToMake_14 : decode cX3_grossToMake 14 = .ok (.imul, 1) := by decide +kernel
theorem dX3_grossToMake_15 : decode cX3_grossToMake 15 = .ok (.bipush 99, 2) := by decide +kernel
theorem dX3_grossToMake_17 : decode cX3_grossToMake 17 = .ok (.iadd, 1) := by decide +kernel
theorem dX3_grossToMake_18 : decode cX3_grossToMake 18 = .ok (.bipush 100, 2) := by decide +kernel
theorem dX3_grossToMake_20 : decode cX3_grossToMake 20 = .ok (.idiv, 1) := by decide +kernel
theorem dX3_grossToMake_21 : decode cX3_grossToMake 21 = .ok (.istore_n 3, 1) := by decide +kernel
theorem dX3_grossToMake_22 : decode cX3_grossToMake 22 = .ok (.iload_n 2, 1) := by decide +kernel
theorem dX3_grossToMake_23 : decode cX3_grossToMake 23 = .ok (.iload_n 3, 1) := by decide +kernel
theorem dX3_grossToMake_24 : decode cX3_grossToMake 24 = .ok (.isub, 1) := by decide +kernel
theorem dX3_grossToMake_25 : decode cX3_grossToMake 25 = .ok (.iload_n 1, 1) := by decide +kernel
theorem dX3_grossToMake_26 : decode cX3_grossToMake 26 = .ok (.if_icmp .lt 5, 3) := by decide +kernel
theorem dX3_grossToMake_29 : decode cX3_grossToMake 29 = .ok (.iload_n 2, 1) := by decide +kernel
theorem dX3_grossToMake_30 : decode cX3_grossToMake 30 = .ok (.ireturn, 1) := by decide +kernel
theorem dX3_grossToMake_31 : decode cX3_grossToMake 31 = .ok (.iinc 2 1, 3) := by decide +kernel
theorem dX3_grossToMake_34 : decode cX3_grossToMake 34 = .ok (.goto (-32), 3) := by decide +kernel
theorem dX3_grossToMake_37 : decode cX3_grossToMake 37 = .ok (.sipush 200, 3) := by decide +kernel
theorem dX3_grossToMake_40 : decode cX3_grossToMake 40 = .ok (.ireturn, 1) := by decide +kernel
theorem dX5_init_0 : decode cX5_init 0 = .ok (.aload_n 0, 1) := by decide +kernel
theorem dX5_init_1 : decode cX5_init 1 = .ok (.invokespecial 3, 3) := by decide +kernel
theorem dX5_init_4 : decode cX5_init 4 = .ok (.aload_n 0, 1) := by decide +kernel
theorem dX5_init_5 : decode cX5_init 5 = .ok (.bipush 6, 2) := by decide +kernel
theorem dX5_init_7 : decode cX5_init 7 = .ok (.newarray .int, 2) := by decide +kernel
theorem dX5_init_9 : decode cX5_init 9 = .ok (.putfield 9, 3) := by decide +kernel
theorem dX5_init_12 : decode cX5_init 12 = .ok (.aload_n 0, 1) := by decide +kernel
theorem dX5_init_13 : decode cX5_init 13 = .ok (.bipush 6, 2) := by decide +kernel
theorem dX5_init_15 : decode cX5_init 15 = .ok (.iconst 4, 1) := by decide +kernel
theorem dX5_init_16 : decode cX5_init 16 = .ok (.multianewarray 15 2, 4) := by decide +kernel
theorem dX5_init_20 : decode cX5_init 20 = .ok (.putfield 17, 3) := by decide +kernel
theorem dX5_init_23 : decode cX5_init 23 = .ok (.aload_n 0, 1) := by decide +kernel
theorem dX5_init_24 : decode cX5_init 24 = .ok (.bipush 6, 2) := by decide +kernel
theorem dX5_init_26 : decode cX5_init 26 = .ok (.newarray .long, 2) := by decide +kernel
theorem dX5_init_28 : decode cX5_init 28 = .ok (.putfield 20, 3) := by decide +kernel
theorem dX5_init_31 : decode cX5_init 31 = .ok (.aload_n 0, 1) := by decide +kernel
theorem dX5_init_32 : decode cX5_init 32 = .ok (.invokevirtual 24, 3) := by decide +kernel
theorem dX5_init_35 : decode cX5_init 35 = .ok (.return_, 1) := by decide +kernel
theorem dX5_forget_0 : decode cX5_forget 0 = .ok (.iconst 0, 1) := by decide +kernel
theorem dX5_forget_1 : decode cX5_forget 1 = .ok (.istore_n 1, 1) := by decide +kernel
theorem dX5_forget_2 : decode cX5_forget 2 = .ok (.iload_n 1, 1) := by decide +kernel
theorem dX5_forget_3 : decode cX5_forget 3 = .ok (.bipush 6, 2) := by decide +kernel
theorem dX5_forget_5 : decode cX5_forget 5 = .ok (.if_icmp .ge 22, 3) := by decide +kernel
theorem dX5_forget_8 : decode cX5_forget 8 = .ok (.aload_n 0, 1) := by decide +kernel
theorem dX5_forget_9 : decode cX5_forget 9 = .ok (.iload_n 1, 1) := by decide +kernel
theorem dX5_forget_10 : decode cX5_forget 10 = .ok (.iconst (-1), 1) := by decide +kernel
theorem dX5_forget_11 : decode cX5_forget 11 = .ok (.invokevirtual 27, 3) := by decide +kernel
theorem dX5_forget_14 : decode cX5_forget 14 = .ok (.aload_n 0, 1) := by decide +kernel
theorem dX5_forget_15 : decode cX5_forget 15 = .ok (.getfield 20, 3) := by decide +kernel
theorem dX5_forget_18 : decode cX5_forget 18 = .ok (.iload_n 1, 1) := by decide +kernel
theorem dX5_forget_19 : decode cX5_forget 19 = .ok (.lconst 0, 1) := by decide +kernel
theorem dX5_forget_20 : decode cX5_forget 20 = .ok (.lastore, 1) := by decide +kernel
theorem dX5_forget_21 : decode cX5_forget 21 = .ok (.iinc 1 1, 3) := by decide +kernel
theorem dX5_forget_24 : decode cX5_forget 24 = .ok (.goto (-22), 3) := by decide +kernel
theorem dX5_forget_27 : decode cX5_forget 27 = .ok (.return_, 1) := by decide +kernel
theorem dX5_give_0 : decode cX5_give 0 = .ok (.aload_n 0, 1) := by decide +kernel
theorem dX5_give_1 : decode cX5_give 1 = .ok (.getfield 9, 3) := by decide +kernel
theorem dX5_give_4 : decode cX5_give 4 = .ok (.iload_n 1, 1) := by decide +kernel
theorem dX5_give_5 : decode cX5_give 5 = .ok (.iload_n 2, 1) := by decide +kernel
theorem dX5_give_6 : decode cX5_give 6 = .ok (.iastore, 1) := by decide +kernel
theorem dX5_give_7 : decode cX5_give 7 = .ok (.iconst 0, 1) := by decide +kernel
theorem dX5_give_8 : decode cX5_give 8 = .ok (.istore_n 3, 1) := by decide +kernel
theorem dX5_give_9 : decode cX5_give 9 = .ok (.iload_n 3, 1) := by decide +kernel
theorem dX5_give_10 : decode cX5_give 10 = .ok (.iconst 4, 1) := by decide +kernel
theorem dX5_give_11 : decode cX5_give 11 = .ok (.if_icmp .ge 18, 3) := by decide +kernel
theorem dX5_give_14 : decode cX5_give 14 = .ok (.aload_n 0, 1) := by decide +kernel
theorem dX5_give_15 : decode cX5_give 15 = .ok (.getfield 17, 3) := by decide +kernel
theorem dX5_give_18 : decode cX5_give 18 = .ok (.iload_n 1, 1) := by decide +kernel
theorem dX5_give_19 : decode cX5_give 19 = .ok (.aaload, 1) := by decide +kernel
theorem dX5_give_20 : decode cX5_give 20 = .ok (.iload_n 3, 1) := by decide +kernel
theorem dX5_give_21 : decode cX5_give 21 = .ok (.iconst (-1), 1) := by decide +kernel
theorem dX5_give_22 : decode cX5_give 22 = .ok (.iastore, 1) := by decide +kernel
theorem dX5_give_23 : decode cX5_give 23 = .ok (.iinc 3 1, 3) := by decide +kernel
theorem dX5_give_26 : decode cX5_give 26 = .ok (.goto (-17), 3) := by decide +kernel
theorem dX5_give_29 : decode cX5_give 29 = .ok (.return_, 1) := by decide +kernel
theorem dX5_share_0 : decode cX5_share 0 = .ok (.aload_n 0, 1) := by decide +kernel
theorem dX5_share_1 : decode cX5_share 1 = .ok (.getfield 17, 3) := by decide +kernel
theorem dX5_share_4 : decode cX5_share 4 = .ok (.iload_n 1, 1) := by decide +kernel
theorem dX5_share_5 : decode cX5_share 5 = .ok (.aaload, 1) := by decide +kernel
theorem dX5_share_6 : decode cX5_share 6 = .ok (.iload_n 2, 1) := by decide +kernel
theorem dX5_share_7 : decode cX5_share 7 = .ok (.aload_n 0, 1) := by decide +kernel
theorem dX5_share_8 : decode cX5_share 8 = .ok (.getfield 17, 3) := by decide +kernel
theorem dX5_share_11 : decode cX5_share 11 = .ok (.iload_n 1, 1) := by decide +kernel
theorem dX5_share_12 : decode cX5_share 12 = .ok (.aaload, 1) := by decide +kernel
theorem dX5_share_13 : decode cX5_share 13 = .ok (.iload_n 2, 1) := by decide +kernel
theorem dX5_share_14 : decode cX5_share 14 = .ok (.iaload, 1) := by decide +kernel
theorem dX5_share_15 : decode cX5_share 15 = .ok (.iload_n 3, 1) := by decide +kernel
theorem dX5_share_16 : decode cX5_share 16 = .ok (.invokestatic 31, 3) := by decide +kernel
theorem dX5_share_19 : decode cX5_share 19 = .ok (.iastore, 1) := by decide +kernel
theorem dX5_share_20 : decode cX5_share 20 = .ok (.return_, 1) := by decide +kernel
theorem dX5_shut_0 : decode cX5_shut 0 = .ok (.iload_n 2, 1) := by decide +kernel
theorem dX5_shut_1 : decode cX5_shut 1 = .ok (.istore 4, 2) := by decide +kernel
theorem dX5_shut_3 : decode cX5_shut 3 = .ok (.iload 4, 2) := by decide +kernel
theorem dX5_shut_5 : decode cX5_shut 5 = .ok (.iload_n 3, 1) := by decide +kernel
theorem dX5_shut_6 : decode cX5_shut 6 = .ok (.if_icmp .gt 22, 3) := by decide +kernel
theorem dX5_shut_9 : decode cX5_shut 9 = .ok (.aload_n 0, 1) := by decide +kernel
theorem dX5_shut_10 : decode cX5_shut 10 = .ok (.getfield 20, 3) := by decide +kernel
theorem dX5_shut_13 : decode cX5_shut 13 = .ok (.iload_n 1, 1) := by decide +kernel
theorem dX5_shut_14 : decode cX5_shut 14 = .ok (.dup2, 1) := by decide +kernel
theorem dX5_shut_15 : decode cX5_shut 15 = .ok (.laload, 1) := by decide +kernel
theorem dX5_shut_16 : decode cX5_shut 16 = .ok (.lconst 1, 1) := by decide +kernel
theorem dX5_shut_17 : decode cX5_shut 17 = .ok (.iload 4, 2) := by decide +kernel
theorem dX5_shut_19 : decode cX5_shut 19 = .ok (.lshl, 1) := by decide +kernel
theorem dX5_shut_20 : decode cX5_shut 20 = .ok (.lor, 1) := by decide +kernel
theorem dX5_shut_21 : decode cX5_shut 21 = .ok (.lastore, 1) := by decide +kernel
theorem dX5_shut_22 : decode cX5_shut 22 = .ok (.iinc 4 1, 3) := by decide +kernel
theorem dX5_shut_25 : decode cX5_shut 25 = .ok (.goto (-22), 3) := by decide +kernel
theorem dX5_shut_28 : decode cX5_shut 28 = .ok (.return_, 1) := by decide +kernel
theorem dX5_allow_0 : decode cX5_allow 0 = .ok (.aload_n 0, 1) := by decide +kernel
theorem dX5_allow_1 : decode cX5_allow 1 = .ok (.getfield 20, 3) := by decide +kernel
theorem dX5_allow_4 : decode cX5_allow 4 = .ok (.iload_n 2, 1) := by decide +kernel
theorem dX5_allow_5 : decode cX5_allow 5 = .ok (.laload, 1) := by decide +kernel
theorem dX5_allow_6 : decode cX5_allow 6 = .ok (.iload_n 3, 1) := by decide +kernel
theorem dX5_allow_7 : decode cX5_allow 7 = .ok (.lshr, 1) := by decide +kernel
theorem dX5_allow_8 : decode cX5_allow 8 = .ok (.lconst 1, 1) := by decide +kernel
theorem dX5_allow_9 : decode cX5_allow 9 = .ok (.land, 1) := by decide +kernel
theorem dX5_allow_10 : decode cX5_allow 10 = .ok (.lconst 0, 1) := by decide +kernel
theorem dX5_allow_11 : decode cX5_allow 11 = .ok (.lcmp, 1) := by decide +kernel
theorem dX5_allow_12 : decode cX5_allow 12 = .ok (.ifCond .eq 5, 3) := by decide +kernel
theorem dX5_allow_15 : decode cX5_allow 15 = .ok (.iconst 0, 1) := by decide +kernel
theorem dX5_allow_16 : decode cX5_allow 16 = .ok (.ireturn, 1) := by decide +kernel
theorem dX5_allow_17 : decode cX5_allow 17 = .ok (.aload_n 0, 1) := by decide +kernel
theorem dX5_allow_18 : decode cX5_allow 18 = .ok (.getfield 9, 3) := by decide +kernel
theorem dX5_allow_21 : decode cX5_allow 21 = .ok (.iload_n 2, 1) := by decide +kernel
theorem dX5_allow_22 : decode cX5_allow 22 = .ok (.iaload, 1) := by decide +kernel
theorem dX5_allow_23 : decode cX5_allow 23 = .ok (.iconst (-1), 1) := by decide +kernel
theorem dX5_allow_24 : decode cX5_allow 24 = .ok (.if_icmp .eq 25, 3) := by decide +kernel
theorem dX5_allow_27 : decode cX5_allow 27 = .ok (.aload_n 0, 1) := by decide +kernel
theorem dX5_allow_28 : decode cX5_allow 28 = .ok (.getfield 9, 3) := by decide +kernel
theorem dX5_allow_31 : decode cX5_allow 31 = .ok (.iload_n 2, 1) := by decide +kernel
theorem dX5_allow_32 : decode cX5_allow 32 = .ok (.iaload, 1) := by decide +kernel
theorem dX5_allow_33 : decode cX5_allow 33 = .ok (.iload_n 1, 1) := by decide +kernel
theorem dX5_allow_34 : decode cX5_allow 34 = .ok (.if_icmp .eq 15, 3) := by decide +kernel
theorem dX5_allow_37 : decode cX5_allow 37 = .ok (.aload_n 0, 1) := by decide +kernel
theorem dX5_allow_38 : decode cX5_allow 38 = .ok (.getfield 17, 3) := by decide +kernel
theorem dX5_allow_41 : decode cX5_allow 41 = .ok (.iload_n 2, 1) := by decide +kernel
theorem dX5_allow_42 : decode cX5_allow 42 = .ok (.aaload, 1) := by decide +kernel
theorem dX5_allow_43 : decode cX5_allow 43 = .ok (.iload_n 1, 1) := by decide +kernel
theorem dX5_allow_44 : decode cX5_allow 44 = .ok (.iaload, 1) := by decide +kernel
theorem dX5_allow_45 : decode cX5_allow 45 = .ok (.iload_n 3, 1) := by decide +kernel
theorem dX5_allow_46 : decode cX5_allow 46 = .ok (.if_icmp .lt 7, 3) := by decide +kernel
theorem dX5_allow_49 : decode cX5_allow 49 = .ok (.iconst 1, 1) := by decide +kernel
theorem dX5_allow_50 : decode cX5_allow 50 = .ok (.goto 4, 3) := by decide +kernel
theorem dX5_allow_53 : decode cX5_allow 53 = .ok (.iconst 0, 1) := by decide +kernel
theorem dX5_allow_54 : decode cX5_allow 54 = .ok (.ireturn, 1) := by decide +kernel
theorem dX6_init_0 : decode cX6_init 0 = .ok (.aload_n 0, 1) := by decide +kernel
theorem dX6_init_1 : decode cX6_init 1 = .ok (.invokespecial 3, 3) := by decide +kernel
theorem dX6_init_4 : decode cX6_init 4 = .ok (.aload_n 0, 1) := by decide +kernel
theorem dX6_init_5 : decode cX6_init 5 = .ok (.iconst 0, 1) := by decide +kernel
theorem dX6_init_6 : decode cX6_init 6 = .ok (.putfield 9, 3) := by decide +kernel
theorem dX6_init_9 : decode cX6_init 9 = .ok (.aload_n 0, 1) := by decide +kernel
theorem dX6_init_10 : decode cX6_init 10 = .ok (.iconst (-1), 1) := by decide +kernel
theorem dX6_init_11 : decode cX6_init 11 = .ok (.putfield 15, 3) := by decide +kernel
theorem dX6_init_14 : decode cX6_init 14 = .ok (.aload_n 0, 1) := by decide +kernel
theorem dX6_init_15 : decode cX6_init 15 = .ok (.iload_n 1, 1) := by decide +kernel
theorem dX6_init_16 : decode cX6_init 16 = .ok (.putfield 18, 3) := by decide +kernel
theorem dX6_init_19 : decode cX6_init 19 = .ok (.return_, 1) := by decide +kernel
theorem dX6_reckonAnew_0 : decode cX6_reckonAnew 0 = .ok (.aload_n 0, 1) := by decide +kernel
theorem dX6_reckonAnew_1 : decode cX6_reckonAnew 1 = .ok (.aload_n 1, 1) := by decide +kernel
theorem dX6_reckonAnew_2 : decode cX6_reckonAnew 2 = .ok (.aload_n 0, 1) := by decide +kernel
theorem dX6_reckonAnew_3 : decode cX6_reckonAnew 3 = .ok (.getfield 21, 3) := by decide +kernel
theorem dX6_reckonAnew_6 : decode cX6_reckonAnew 6 = .ok (.invokevirtual 24, 3) := by decide +kernel
theorem dX6_reckonAnew_9 : decode cX6_reckonAnew 9 = .ok (.putfield 30, 3) := by decide +kernel
theorem dX6_reckonAnew_12 : decode cX6_reckonAnew 12 = .ok (.aload_n 0, 1) := by decide +kernel
theorem dX6_reckonAnew_13 : decode cX6_reckonAnew 13 = .ok (.aload_n 0, 1) := by decide +kernel
theorem dX6_reckonAnew_14 : decode cX6_reckonAnew 14 = .ok (.getfield 30, 3) := by decide +kernel
theorem dX6_reckonAnew_17 : decode cX6_reckonAnew 17 = .ok (.aload_n 1, 1) := by decide +kernel
theorem dX6_reckonAnew_18 : decode cX6_reckonAnew 18 = .ok (.getfield 33, 3) := by decide +kernel
theorem dX6_reckonAnew_21 : decode cX6_reckonAnew 21 = .ok (.imul, 1) := by decide +kernel
theorem dX6_reckonAnew_22 : decode cX6_reckonAnew 22 = .ok (.putfield 36, 3) := by decide +kernel
theorem dX6_reckonAnew_25 : decode cX6_reckonAnew 25 = .ok (.aload_n 0, 1) := by decide +kernel
theorem dX6_reckonAnew_26 : decode cX6_reckonAnew 26 = .ok (.aload_n 0, 1) := by decide +kernel
theorem dX6_reckonAnew_27 : decode cX6_reckonAnew 27 = .ok (.getfield 30, 3) := by decide +kernel
theorem dX6_reckonAnew_30 : decode cX6_reckonAnew 30 = .ok (.aload_n 1, 1) := by decide +kernel
theorem dX6_reckonAnew_31 : decode cX6_reckonAnew 31 = .ok (.getfield 37, 3) := by decide +kernel
theorem dX6_reckonAnew_34 : decode cX6_reckonAnew 34 = .ok (.imul, 1) := by decide +kernel
theorem dX6_reckonAnew_35 : decode cX6_reckonAnew 35 = .ok (.putfield 40, 3) := by decide +kernel
theorem dX6_reckonAnew_38 : decode cX6_reckonAnew 38 = .ok (.aload_n 0, 1) := by decide +kernel
theorem dX6_reckonAnew_39 : decode cX6_reckonAnew 39 = .ok (.iconst 0, 1) := by decide +kernel
theorem dX6_reckonAnew_40 : decode cX6_reckonAnew 40 = .ok (.putfield 41, 3) := by decide +kernel
theorem dX6_reckonAnew_43 : decode cX6_reckonAnew 43 = .ok (.aload_n 0, 1) := by decide +kernel
theorem dX6_reckonAnew_44 : decode cX6_reckonAnew 44 = .ok (.iconst (-1), 1) := by decide +kernel
theorem dX6_reckonAnew_45 : decode cX6_reckonAnew 45 = .ok (.putfield 15, 3) := by decide +kernel
theorem dX6_reckonAnew_48 : decode cX6_reckonAnew 48 = .ok (.return_, 1) := by decide +kernel
theorem dX6_hoursLeftFor_0 : decode cX6_hoursLeftFor 0 = .ok (.aload_n 0, 1) := by decide +kernel
theorem dX6_hoursLeftFor_1 : decode cX6_hoursLeftFor 1 = .ok (.getfield 15, 3) := by decide +kernel
theorem dX6_hoursLeftFor_4 : decode cX6_hoursLeftFor 4 = .ok (.iload_n 1, 1) := by decide +kernel
theorem dX6_hoursLeftFor_5 : decode cX6_hoursLeftFor 5 = .ok (.if_icmp .ne 15, 3) := by decide +kernel
theorem dX6_hoursLeftFor_8 : decode cX6_hoursLeftFor 8 = .ok (.aload_n 0, 1) := by decide +kernel
theorem dX6_hoursLeftFor_9 : decode cX6_hoursLeftFor 9 = .ok (.getfield 36, 3) := by decide +kernel
theorem dX6_hoursLeftFor_12 : decode cX6_hoursLeftFor 12 = .ok (.aload_n 0, 1) := by decide +kernel
theorem dX6_hoursLeftFor_13 : decode cX6_hoursLeftFor 13 = .ok (.getfield 41, 3) := by decide +kernel
theorem dX6_hoursLeftFor_16 : decode cX6_hoursLeftFor 16 = .ok (.isub, 1) := by decide +kernel
theorem dX6_hoursLeftFor_17 : decode cX6_hoursLeftFor 17 = .ok (.goto 7, 3) := by decide +kernel
theorem dX6_hoursLeftFor_20 : decode cX6_hoursLeftFor 20 = .ok (.aload_n 0, 1) := by decide +kernel
theorem dX6_hoursLeftFor_21 : decode cX6_hoursLeftFor 21 = .ok (.getfield 36, 3) := by decide +kernel
theorem dX6_hoursLeftFor_24 : decode cX6_hoursLeftFor 24 = .ok (.ireturn, 1) := by decide +kernel
theorem dX6_workBy_0 : decode cX6_workBy 0 = .ok (.aload_n 0, 1) := by decide +kernel
theorem dX6_workBy_1 : decode cX6_workBy 1 = .ok (.getfield 15, 3) := by decide +kernel
theorem dX6_workBy_4 : decode cX6_workBy 4 = .ok (.iload_n 1, 1) := by decide +kernel
theorem dX6_workBy_5 : decode cX6_workBy 5 = .ok (.if_icmp .eq 13, 3) := by decide +kernel
theorem dX6_workBy_8 : decode cX6_workBy 8 = .ok (.aload_n 0, 1) := by decide +kernel
theorem dX6_workBy_9 : decode cX6_workBy 9 = .ok (.iload_n 1, 1) := by decide +kernel
theorem dX6_workBy_10 : decode cX6_workBy 10 = .ok (.putfield 15, 3) := by decide +kernel
theorem dX6_workBy_13 : decode cX6_workBy 13 = .ok (.aload_n 0, 1) := by decide +kernel
theorem dX6_workBy_14 : decode cX6_workBy 14 = .ok (.iconst 0, 1) := by decide +kernel
theorem dX6_workBy_15 : decode cX6_workBy 15 = .ok (.putfield 41, 3) := by decide +kernel
theorem dX6_workBy_18 : decode cX6_workBy 18 = .ok (.aload_n 0, 1) := by decide +kernel
theorem dX6_workBy_19 : decode cX6_workBy 19 = .ok (.dup, 1) := by decide +kernel
theorem dX6_workBy_20 : decode cX6_workBy 20 = .ok (.getfield 41, 3) := by decide +kernel
theorem dX6_workBy_23 : decode cX6_workBy 23 = .ok (.iload_n 2, 1) := by decide +kernel
theorem dX6_workBy_24 : decode cX6_workBy 24 = .ok (.iadd, 1) := by decide +kernel
theorem dX6_workBy_25 : decode cX6_workBy 25 = .ok (.putfield 41, 3) := by decide +kernel
theorem dX6_workBy_28 : decode cX6_workBy 28 = .ok (.return_, 1) := by decide +kernel
theorem dX7_init_0 : decode cX7_init 0 = .ok (.aload_n 0, 1) := by decide +kernel
theorem dX7_init_1 : decode cX7_init 1 = .ok (.invokespecial 3, 3) := by decide +kernel
theorem dX7_init_4 : decode cX7_init 4 = .ok (.aload_n 0, 1) := by decide +kernel
theorem dX7_init_5 : decode cX7_init 5 = .ok (.sipush 500, 3) := by decide +kernel
theorem dX7_init_8 : decode cX7_init 8 = .ok (.newarray .byte, 2) := by decide +kernel
theorem dX7_init_10 : decode cX7_init 10 = .ok (.putfield 9, 3) := by decide +kernel
theorem dX7_init_13 : decode cX7_init 13 = .ok (.return_, 1) := by decide +kernel
theorem dX7_put_0 : decode cX7_put 0 = .ok (.bipush 24, 2) := by decide +kernel
theorem dX7_put_2 : decode cX7_put 2 = .ok (.istore_n 2, 1) := by decide +kernel
theorem dX7_put_3 : decode cX7_put 3 = .ok (.iload_n 2, 1) := by decide +kernel
theorem dX7_put_4 : decode cX7_put 4 = .ok (.ifCond .lt 42, 3) := by decide +kernel
theorem dX7_put_7 : decode cX7_put 7 = .ok (.aload_n 0, 1) := by decide +kernel
theorem dX7_put_8 : decode cX7_put 8 = .ok (.getfield 15, 3) := by decide +kernel
theorem dX7_put_11 : decode cX7_put 11 = .ok (.sipush 500, 3) := by decide +kernel
theorem dX7_put_14 : decode cX7_put 14 = .ok (.if_icmp .ge 32, 3) := by decide +kernel
theorem dX7_put_17 : decode cX7_put 17 = .ok (.aload_n 0, 1) := by decide +kernel
theorem dX7_put_18 : decode cX7_put 18 = .ok (.getfield 9, 3) := by decide +kernel
theorem dX7_put_21 : decode cX7_put 21 = .ok (.aload_n 0, 1) := by decide +kernel
theorem dX7_put_22 : decode cX7_put 22 = .ok (.getfield 15, 3) := by decide +kernel
theorem dX7_put_25 : decode cX7_put 25 = .ok (.iload_n 1, 1) := by decide +kernel
theorem dX7_put_26 : decode cX7_put 26 = .ok (.iload_n 2, 1) := by decide +kernel
theorem dX7_put_27 : decode cX7_put 27 = .ok (.ishr, 1) := by decide +kernel
theorem dX7_put_28 : decode cX7_put 28 = .ok (.i2b, 1) := by decide +kernel
theorem dX7_put_29 : decode cX7_put 29 = .ok (.bastore, 1) := by decide +kernel
theorem dX7_put_30 : decode cX7_put 30 = .ok (.aload_n 0, 1) := by decide +kernel
theorem dX7_put_31 : decode cX7_put 31 = .ok (.dup, 1) := by decide +kernel
theorem dX7_put_32 : decode cX7_put 32 = .ok (.getfield 15, 3) := by decide +kernel
theorem dX7_put_35 : decode cX7_put 35 = .ok (.iconst 1, 1) := by decide +kernel
theorem dX7_put_36 : decode cX7_put 36 = .ok (.iadd, 1) := by decide +kernel
theorem dX7_put_37 : decode cX7_put 37 = .ok (.putfield 15, 3) := by decide +kernel
theorem dX7_put_40 : decode cX7_put 40 = .ok (.iinc 2 (-8), 3) := by decide +kernel
theorem dX7_put_43 : decode cX7_put 43 = .ok (.goto (-40), 3) := by decide +kernel
theorem dX7_put_46 : decode cX7_put 46 = .ok (.return_, 1) := by decide +kernel
theorem dX7_rewind_0 : decode cX7_rewind 0 = .ok (.aload_n 0, 1) := by decide +kernel
theorem dX7_rewind_1 : decode cX7_rewind 1 = .ok (.iconst 0, 1) := by decide +kernel
theorem dX7_rewind_2 : decode cX7_rewind 2 = .ok (.putfield 19, 3) := by decide +kernel
theorem dX7_rewind_5 : decode cX7_rewind 5 = .ok (.aload_n 0, 1) := by decide +kernel
theorem dX7_rewind_6 : decode cX7_rewind 6 = .ok (.invokevirtual 22, 3) := by decide +kernel
theorem dX7_rewind_9 : decode cX7_rewind 9 = .ok (.return_, 1) := by decide +kernel
theorem dX7_readToken_0 : decode cX7_readToken 0 = .ok (.aload_n 0, 1) := by decide +kernel
theorem dX7_readToken_1 : decode cX7_readToken 1 = .ok (.invokevirtual 25, 3) := by decide +kernel
theorem dX7_readToken_4 : decode cX7_readToken 4 = .ok (.aload_n 0, 1) := by decide +kernel
theorem dX7_readToken_5 : decode cX7_readToken 5 = .ok (.aload_n 0, 1) := by decide +kernel
theorem dX7_readToken_6 : decode cX7_readToken 6 = .ok (.getfield 19, 3) := by decide +kernel
theorem dX7_readToken_9 : decode cX7_readToken 9 = .ok (.putfield 28, 3) := by decide +kernel
theorem dX7_readToken_12 : decode cX7_readToken 12 = .ok (.aload_n 0, 1) := by decide +kernel
theorem dX7_readToken_13 : decode cX7_readToken 13 = .ok (.getfield 19, 3) := by decide +kernel
theorem dX7_readToken_16 : decode cX7_readToken 16 = .ok (.aload_n 0, 1) := by decide +kernel
theorem dX7_readToken_17 : decode cX7_readToken 17 = .ok (.getfield 15, 3) := by decide +kernel
theorem dX7_readToken_20 : decode cX7_readToken 20 = .ok (.if_icmp .lt 11, 3) := by decide +kernel
theorem dX7_readToken_23 : decode cX7_readToken 23 = .ok (.aload_n 0, 1) := by decide +kernel
theorem dX7_readToken_24 : decode cX7_readToken 24 = .ok (.iconst 1, 1) := by decide +kernel
theorem dX7_readToken_25 : decode cX7_readToken 25 = .ok (.putfield 31, 3) := by decide +kernel
theorem dX7_readToken_28 : decode cX7_readToken 28 = .ok (.goto 88, 3) := by decide +kernel
theorem dX7_readToken_31 : decode cX7_readToken 31 = .ok (.aload_n 0, 1) := by decide +kernel
theorem dX7_readToken_32 : decode cX7_readToken 32 = .ok (.getfield 9, 3) := by decide +kernel
theorem dX7_readToken_35 : decode cX7_readToken 35 = .ok (.aload_n 0, 1) := by decide +kernel
theorem dX7_readToken_36 : decode cX7_readToken 36 = .ok (.getfield 19, 3) := by decide +kernel
theorem dX7_readToken_39 : decode cX7_readToken 39 = .ok (.baload, 1) := by decide +kernel
theorem dX7_readToken_40 : decode cX7_readToken 40 = .ok (.invokestatic 34, 3) := by decide +kernel
theorem dX7_readToken_43 : decode cX7_readToken 43 = .ok (.ifCond .eq 18, 3) := by decide +kernel
theorem dX7_readToken_46 : decode cX7_readToken 46 = .ok (.aload_n 0, 1) := by decide +kernel
theorem dX7_readToken_47 : decode cX7_readToken 47 = .ok (.invokevirtual 38, 3) := by decide +kernel
theorem dX7_readToken_50 : decode cX7_readToken 50 = .ok (.aload_n 0, 1) := by decide +kernel
theorem dX7_readToken_51 : decode cX7_readToken 51 = .ok (.aload_n 0, 1) := by decide +kernel
theorem dX7_readToken_52 : decode cX7_readToken 52 = .ok (.invokevirtual 41, 3) := by decide +kernel
theorem dX7_readToken_55 : decode cX7_readToken 55 = .ok (.putfield 31, 3) := by decide +kernel
theorem dX7_readToken_58 : decode cX7_readToken 58 = .ok (.goto 58, 3) := by decide +kernel
theorem dX7_readToken_61 : decode cX7_readToken 61 = .ok (.aload_n 0, 1) := by decide +kernel
theorem dX7_readToken_62 : decode cX7_readToken 62 = .ok (.getfield 9, 3) := by decide +kernel
theorem dX7_readToken_65 : decode cX7_readToken 65 = .ok (.aload_n 0, 1) := by decide +kernel
theorem dX7_readToken_66 : decode cX7_readToken 66 = .ok (.getfield 19, 3) := by decide +kernel
theorem dX7_readToken_69 : decode cX7_readToken 69 = .ok (.baload, 1) := by decide +kernel
theorem dX7_readToken_70 : decode cX7_readToken 70 = .ok (.invokestatic 45, 3) := by decide +kernel
theorem dX7_readToken_73 : decode cX7_readToken 73 = .ok (.ifCond .eq 10, 3) := by decide +kernel
theorem dX7_readToken_76 : decode cX7_readToken 76 = .ok (.aload_n 0, 1) := by decide +kernel
theorem dX7_readToken_77 : decode cX7_readToken 77 = .ok (.invokevirtual 48, 3) := by decide +kernel
theorem dX7_readToken_80 : decode cX7_readToken 80 = .ok (.goto 36, 3) := by decide +kernel
theorem dX7_readToken_83 : decode cX7_readToken 83 = .ok (.aload_n 0, 1) := by decide +kernel
theorem dX7_readToken_84 : decode cX7_readToken 84 = .ok (.aload_n 0, 1) := by decide +kernel
theorem dX7_readToken_85 : decode cX7_readToken 85 = .ok (.getfield 9, 3) := by decide +kernel
theorem dX7_readToken_88 : decode cX7_readToken 88 = .ok (.aload_n 0, 1) := by decide +kernel
theorem dX7_readToken_89 : decode cX7_readToken 89 = .ok (.getfield 19, 3) := by decide +kernel
theorem dX7_readToken_92 : decode cX7_readToken 92 = .ok (.baload, 1) := by decide +kernel
theorem dX7_readToken_93 : decode cX7_readToken 93 = .ok (.bipush 59, 2) := by decide +kernel
theorem dX7_readToken_95 : decode cX7_readToken 95 = .ok (.if_icmp .ne 7, 3) := by decide +kernel
theorem dX7_readToken_98 : decode cX7_readToken 98 = .ok (.iconst 2, 1) := by decide +kernel
theorem dX7_readToken_99 : decode cX7_readToken 99 = .ok (.goto 4, 3) := by decide +kernel
theorem dX7_readToken_102 : decode cX7_readToken 102 = .ok (.iconst 0, 1) := by decide +kernel
theorem dX7_readToken_103 : decode cX7_readToken 103 = .ok (.putfield 31, 3) := by decide +kernel
theorem dX7_readToken_106 : decode cX7_readToken 106 = .ok (.aload_n 0, 1) := by decide +kernel
theorem dX7_readToken_107 : decode cX7_readToken 107 = .ok (.dup, 1) := by decide +kernel
theorem dX7_readToken_108 : decode cX7_readToken 108 = .ok (.getfield 19, 3) := by decide +kernel
theorem dX7_readToken_111 : decode cX7_readToken 111 = .ok (.iconst 1, 1) := by decide +kernel
theorem dX7_readToken_112 : decode cX7_readToken 112 = .ok (.iadd, 1) := by decide +kernel
theorem dX7_readToken_113 : decode cX7_readToken 113 = .ok (.putfield 19, 3) := by decide +kernel
theorem dX7_readToken_116 : decode cX7_readToken 116 = .ok (.return_, 1) := by decide +kernel
theorem dX7_skipBlanks_0 : decode cX7_skipBlanks 0 = .ok (.aload_n 0, 1) := by decide +kernel
theorem dX7_skipBlanks_1 : decode cX7_skipBlanks 1 = .ok (.getfield 19, 3) := by decide +kernel
theorem dX7_skipBlanks_4 : decode cX7_skipBlanks 4 = .ok (.aload_n 0, 1) := by decide +kernel
theorem dX7_skipBlanks_5 : decode cX7_skipBlanks 5 = .ok (.getfield 15, 3) := by decide +kernel
theorem dX7_skipBlanks_8 : decode cX7_skipBlanks 8 = .ok (.if_icmp .ge 44, 3) := by decide +kernel
theorem dX7_skipBlanks_11 : decode cX7_skipBlanks 11 = .ok (.aload_n 0, 1) := by decide +kernel
theorem dX7_skipBlanks_12 : decode cX7_skipBlanks 12 = .ok (.getfield 9, 3) := by decide +kernel
theorem dX7_skipBlanks_15 : decode cX7_skipBlanks 15 = .ok (.aload_n 0, 1) := by decide +kernel
theorem dX7_skipBlanks_16 : decode cX7_skipBlanks 16 = .ok (.getfield 19, 3) := by decide +kernel
theorem dX7_skipBlanks_19 : decode cX7_skipBlanks 19 = .ok (.baload, 1) := by decide +kernel
theorem dX7_skipBlanks_20 : decode cX7_skipBlanks 20 = .ok (.bipush 32, 2) := by decide +kernel
theorem dX7_skipBlanks_22 : decode cX7_skipBlanks 22 = .ok (.if_icmp .eq 17, 3) := by decide +kernel
theorem dX7_skipBlanks_25 : decode cX7_skipBlanks 25 = .ok (.aload_n 0, 1) := by decide +kernel
theorem dX7_skipBlanks_26 : decode cX7_skipBlanks 26 = .ok (.getfield 9, 3) := by decide +kernel
theorem dX7_skipBlanks_29 : decode cX7_skipBlanks 29 = .ok (.aload_n 0, 1) := by decide +kernel
theorem dX7_skipBlanks_30 : decode cX7_skipBlanks 30 = .ok (.getfield 19, 3) := by decide +kernel
theorem dX7_skipBlanks_33 : decode cX7_skipBlanks 33 = .ok (.baload, 1) := by decide +kernel
theorem dX7_skipBlanks_34 : decode cX7_skipBlanks 34 = .ok (.bipush 10, 2) := by decide +kernel
theorem dX7_skipBlanks_36 : decode cX7_skipBlanks 36 = .ok (.if_icmp .ne 16, 3) := by decide +kernel
theorem dX7_skipBlanks_39 : decode cX7_skipBlanks 39 = .ok (.aload_n 0, 1) := by decide +kernel
theorem dX7_skipBlanks_40 : decode cX7_skipBlanks 40 = .ok (.dup, 1) := by decide +kernel
theorem dX7_skipBlanks_41 : decode cX7_skipBlanks 41 = .ok (.getfield 19, 3) := by decide +kernel
theorem dX7_skipBlanks_44 : decode cX7_skipBlanks 44 = .ok (.iconst 1, 1) := by decide +kernel
theorem dX7_skipBlanks_45 : decode cX7_skipBlanks 45 = .ok (.iadd, 1) := by decide +kernel
theorem dX7_skipBlanks_46 : decode cX7_skipBlanks 46 = .ok (.putfield 19, 3) := by decide +kernel
theorem dX7_skipBlanks_49 : decode cX7_skipBlanks 49 = .ok (.goto (-49), 3) := by decide +kernel
theorem dX7_skipBlanks_52 : decode cX7_skipBlanks 52 = .ok (.return_, 1) := by decide +kernel
theorem dX7_skipLetters_0 : decode cX7_skipLetters 0 = .ok (.aload_n 0, 1) := by decide +kernel
theorem dX7_skipLetters_1 : decode cX7_skipLetters 1 = .ok (.getfield 19, 3) := by decide +kernel
theorem dX7_skipLetters_4 : decode cX7_skipLetters 4 = .ok (.aload_n 0, 1) := by decide +kernel
theorem dX7_skipLetters_5 : decode cX7_skipLetters 5 = .ok (.getfield 15, 3) := by decide +kernel
theorem dX7_skipLetters_8 : decode cX7_skipLetters 8 = .ok (.if_icmp .ge 31, 3) := by decide +kernel
theorem dX7_skipLetters_11 : decode cX7_skipLetters 11 = .ok (.aload_n 0, 1) := by decide +kernel
theorem dX7_skipLetters_12 : decode cX7_skipLetters 12 = .ok (.getfield 9, 3) := by decide +kernel
theorem dX7_skipLetters_15 : decode cX7_skipLetters 15 = .ok (.aload_n 0, 1) := by decide +kernel
theorem dX7_skipLetters_16 : decode cX7_skipLetters 16 = .ok (.getfield 19, 3) := by decide +kernel
theorem dX7_skipLetters_19 : decode cX7_skipLetters 19 = .ok (.baload, 1) := by decide +kernel
theorem dX7_skipLetters_20 : decode cX7_skipLetters 20 = .ok (.invokestatic 34, 3) := by decide +kernel
theorem dX7_skipLetters_23 : decode cX7_skipLetters 23 = .ok (.ifCond .eq 16, 3) := by decide +kernel
theorem dX7_skipLetters_26 : decode cX7_skipLetters 26 = .ok (.aload_n 0, 1) := by decide +kernel
theorem dX7_skipLetters_27 : decode cX7_skipLetters 27 = .ok (.dup, 1) := by decide +kernel
theorem dX7_skipLetters_28 : decode cX7_skipLetters 28 = .ok (.getfield 19, 3) := by decide +kernel
theorem dX7_skipLetters_31 : decode cX7_skipLetters 31 = .ok (.iconst 1, 1) := by decide +kernel
theorem dX7_skipLetters_32 : decode cX7_skipLetters 32 = .ok (.iadd, 1) := by decide +kernel
theorem dX7_skipLetters_33 : decode cX7_skipLetters 33 = .ok (.putfield 19, 3) := by decide +kernel
theorem dX7_skipLetters_36 : decode cX7_skipLetters 36 = .ok (.goto (-36), 3) := by decide +kernel
theorem dX7_skipLetters_39 : decode cX7_skipLetters 39 = .ok (.return_, 1) := by decide +kernel
theorem dX7_readNumber_0 : decode cX7_readNumber 0 = .ok (.aload_n 0, 1) := by decide +kernel
theorem dX7_readNumber_1 : decode cX7_readNumber 1 = .ok (.iconst 0, 1) := by decide +kernel
theorem dX7_readNumber_2 : decode cX7_readNumber 2 = .ok (.putfield 51, 3) := by decide +kernel
theorem dX7_readNumber_5 : decode cX7_readNumber 5 = .ok (.aload_n 0, 1) := by decide +kernel
theorem dX7_readNumber_6 : decode cX7_readNumber 6 = .ok (.getfield 19, 3) := by decide +kernel
theorem dX7_readNumber_9 : decode cX7_readNumber 9 = .ok (.aload_n 0, 1) := by decide +kernel
theorem dX7_readNumber_10 : decode cX7_readNumber 10 = .ok (.getfield 15, 3) := by decide +kernel
theorem dX7_readNumber_13 : decode cX7_readNumber 13 = .ok (.if_icmp .ge 55, 3) := by decide +kernel
theorem dX7_readNumber_16 : decode cX7_readNumber 16 = .ok (.aload_n 0, 1) := by decide +kernel
theorem dX7_readNumber_17 : decode cX7_readNumber 17 = .ok (.getfield 9, 3) := by decide +kernel
theorem dX7_readNumber_20 : decode cX7_readNumber 20 = .ok (.aload_n 0, 1) := by decide +kernel
theorem dX7_readNumber_21 : decode cX7_readNumber 21 = .ok (.getfield 19, 3) := by decide +kernel
theorem dX7_readNumber_24 : decode cX7_readNumber 24 = .ok (.baload, 1) := by decide +kernel
theorem dX7_readNumber_25 : decode cX7_readNumber 25 = .ok (.invokestatic 45, 3) := by decide +kernel
theorem dX7_readNumber_28 : decode cX7_readNumber 28 = .ok (.ifCond .eq 40, 3) := by decide +kernel
theorem dX7_readNumber_31 : decode cX7_readNumber 31 = .ok (.aload_n 0, 1) := by decide +kernel
theorem dX7_readNumber_32 : decode cX7_readNumber 32 = .ok (.aload_n 0, 1) := by decide +kernel
theorem dX7_readNumber_33 : decode cX7_readNumber 33 = .ok (.getfield 51, 3) := by decide +kernel
theorem dX7_readNumber_36 : decode cX7_readNumber 36 = .ok (.bipush 10, 2) := by decide +kernel
theorem dX7_readNumber_38 : decode cX7_readNumber 38 = .ok (.imul, 1) := by decide +kernel
theorem dX7_readNumber_39 : decode cX7_readNumber 39 = .ok (.aload_n 0, 1) := by decide +kernel
theorem dX7_readNumber_40 : decode cX7_readNumber 40 = .ok (.getfield 9, 3) := by decide +kernel
theorem dX7_readNumber_43 : decode cX7_readNumber 43 = .ok (.aload_n 0, 1) := by decide +kernel
theorem dX7_readNumber_44 : decode cX7_readNumber 44 = .ok (.getfield 19, 3) := by decide +kernel
theorem dX7_readNumber_47 : decode cX7_readNumber 47 = .ok (.baload, 1) := by decide +kernel
theorem dX7_readNumber_48 : decode cX7_readNumber 48 = .ok (.bipush 48, 2) := by decide +kernel
theorem dX7_readNumber_50 : decode cX7_readNumber 50 = .ok (.isub, 1) := by decide +kernel
theorem dX7_readNumber_51 : decode cX7_readNumber 51 = .ok (.iadd, 1) := by decide +kernel
theorem dX7_readNumber_52 : decode cX7_readNumber 52 = .ok (.putfield 51, 3) := by decide +kernel
theorem dX7_readNumber_55 : decode cX7_readNumber 55 = .ok (.aload_n 0, 1) := by decide +kernel
theorem dX7_readNumber_56 : decode cX7_readNumber 56 = .ok (.dup, 1) := by decide +kernel
theorem dX7_readNumber_57 : decode cX7_readNumber 57 = .ok (.getfield 19, 3) := by decide +kernel
theorem dX7_readNumber_60 : decode cX7_readNumber 60 = .ok (.iconst 1, 1) := by decide +kernel
theorem dX7_readNumber_61 : decode cX7_readNumber 61 = .ok (.iadd, 1) := by decide +kernel
theorem dX7_readNumber_62 : decode cX7_readNumber 62 = .ok (.putfield 19, 3) := by decide +kernel
theorem dX7_readNumber_65 : decode cX7_readNumber 65 = .ok (.goto (-60), 3) := by decide +kernel
theorem dX7_readNumber_68 : decode cX7_readNumber 68 = .ok (.aload_n 0, 1) := by decide +kernel
theorem dX7_readNumber_69 : decode cX7_readNumber 69 = .ok (.aload_n 0, 1) := by decide +kernel
theorem dX7_readNumber_70 : decode cX7_readNumber 70 = .ok (.getfield 19, 3) := by decide +kernel
theorem dX7_readNumber_73 : decode cX7_readNumber 73 = .ok (.aload_n 0, 1) := by decide +kernel
theorem dX7_readNumber_74 : decode cX7_readNumber 74 = .ok (.getfield 28, 3) := by decide +kernel
theorem dX7_readNumber_77 : decode cX7_readNumber 77 = .ok (.isub, 1) := by decide +kernel
theorem dX7_readNumber_78 : decode cX7_readNumber 78 = .ok (.iconst 2, 1) := by decide +kernel
theorem dX7_readNumber_79 : decode cX7_readNumber 79 = .ok (.if_icmp .gt 7, 3) := by decide +kernel
theorem dX7_readNumber_82 : decode cX7_readNumber 82 = .ok (.iconst 3, 1) := by decide +kernel
theorem dX7_readNumber_83 : decode cX7_readNumber 83 = .ok (.goto 4, 3) := by decide +kernel
theorem dX7_readNumber_86 : decode cX7_readNumber 86 = .ok (.iconst 0, 1) := by decide +kernel
theorem dX7_readNumber_87 : decode cX7_readNumber 87 = .ok (.putfield 31, 3) := by decide +kernel
theorem dX7_readNumber_90 : decode cX7_readNumber 90 = .ok (.return_, 1) := by decide +kernel
theorem dX7_keyword_0 : decode cX7_keyword 0 = .ok (.aload_n 0, 1) := by decide +kernel
theorem dX7_keyword_1 : decode cX7_keyword 1 = .ok (.ldc 54, 2) := by decide +kernel
theorem dX7_keyword_3 : decode cX7_keyword 3 = .ok (.invokevirtual 56, 3) := by decide +kernel
theorem dX7_keyword_6 : decode cX7_keyword 6 = .ok (.ifCond .eq 5, 3) := by decide +kernel
theorem dX7_keyword_9 : decode cX7_keyword 9 = .ok (.iconst 4, 1) := by decide +kernel
theorem dX7_keyword_10 : decode cX7_keyword 10 = .ok (.ireturn, 1) := by decide +kernel
theorem dX7_keyword_11 : decode cX7_keyword 11 = .ok (.aload_n 0, 1) := by decide +kernel
theorem dX7_keyword_12 : decode cX7_keyword 12 = .ok (.ldc 60, 2) := by decide +kernel
theorem dX7_keyword_14 : decode cX7_keyword 14 = .ok (.invokevirtual 56, 3) := by decide +kernel
theorem dX7_keyword_17 : decode cX7_keyword 17 = .ok (.ifCond .eq 5, 3) := by decide +kernel
theorem dX7_keyword_20 : decode cX7_keyword 20 = .ok (.iconst 5, 1) := by decide +kernel
theorem dX7_keyword_21 : decode cX7_keyword 21 = .ok (.ireturn, 1) := by decide +kernel
theorem dX7_keyword_22 : decode cX7_keyword 22 = .ok (.aload_n 0, 1) := by decide +kernel
theorem dX7_keyword_23 : decode cX7_keyword 23 = .ok (.ldc 62, 2) := by decide +kernel
theorem dX7_keyword_25 : decode cX7_keyword 25 = .ok (.invokevirtual 56, 3) := by decide +kernel
theorem dX7_keyword_28 : decode cX7_keyword 28 = .ok (.ifCond .eq 6, 3) := by decide +kernel
theorem dX7_keyword_31 : decode cX7_keyword 31 = .ok (.bipush 6, 2) := by decide +kernel
theorem dX7_keyword_33 : decode cX7_keyword 33 = .ok (.ireturn, 1) := by decide +kernel
theorem dX7_keyword_34 : decode cX7_keyword 34 = .ok (.aload_n 0, 1) := by decide +kernel
theorem dX7_keyword_35 : decode cX7_keyword 35 = .ok (.ldc 64, 2) := by decide +kernel
theorem dX7_keyword_37 : decode cX7_keyword 37 = .ok (.invokevirtual 56, 3) := by decide +kernel
theorem dX7_keyword_40 : decode cX7_keyword 40 = .ok (.ifCond .eq 6, 3) := by decide +kernel
theorem dX7_keyword_43 : decode cX7_keyword 43 = .ok (.bipush 7, 2) := by decide +kernel
theorem dX7_keyword_45 : decode cX7_keyword 45 = .ok (.ireturn, 1) := by decide +kernel
theorem dX7_keyword_46 : decode cX7_keyword 46 = .ok (.aload_n 0, 1) := by decide +kernel
theorem dX7_keyword_47 : decode cX7_keyword 47 = .ok (.ldc 66, 2) := by decide +kernel
theorem dX7_keyword_49 : decode cX7_keyword 49 = .ok (.invokevirtual 56, 3) := by decide +kernel
theorem dX7_keyword_52 : decode cX7_keyword 52 = .ok (.ifCond .eq 6, 3) := by decide +kernel
theorem dX7_keyword_55 : decode cX7_keyword 55 = .ok (.bipush 8, 2) := by decide +kernel
theorem dX7_keyword_57 : decode cX7_keyword 57 = .ok (.ireturn, 1) := by decide +kernel
theorem dX7_keyword_58 : decode cX7_keyword 58 = .ok (.aload_n 0, 1) := by decide +kernel
theorem dX7_keyword_59 : decode cX7_keyword 59 = .ok (.ldc 68, 2) := by decide +kernel
theorem dX7_keyword_61 : decode cX7_keyword 61 = .ok (.invokevirtual 56, 3) := by decide +kernel
theorem dX7_keyword_64 : decode cX7_keyword 64 = .ok (.ifCond .eq 6, 3) := by decide +kernel
theorem dX7_keyword_67 : decode cX7_keyword 67 = .ok (.bipush 9, 2) := by decide +kernel
theorem dX7_keyword_69 : decode cX7_keyword 69 = .ok (.ireturn, 1) := by decide +kernel
theorem dX7_keyword_70 : decode cX7_keyword 70 = .ok (.aload_n 0, 1) := by decide +kernel
theorem dX7_keyword_71 : decode cX7_keyword 71 = .ok (.ldc 70, 2) := by decide +kernel
theorem dX7_keyword_73 : decode cX7_keyword 73 = .ok (.invokevirtual 56, 3) := by decide +kernel
theorem dX7_keyword_76 : decode cX7_keyword 76 = .ok (.ifCond .eq 6, 3) := by decide +kernel
theorem dX7_keyword_79 : decode cX7_keyword 79 = .ok (.bipush 10, 2) := by decide +kernel
theorem dX7_keyword_81 : decode cX7_keyword 81 = .ok (.ireturn, 1) := by decide +kernel
theorem dX7_keyword_82 : decode cX7_keyword 82 = .ok (.aload_n 0, 1) := by decide +kernel
theorem dX7_keyword_83 : decode cX7_keyword 83 = .ok (.ldc 72, 2) := by decide +kernel
theorem dX7_keyword_85 : decode cX7_keyword 85 = .ok (.invokevirtual 56, 3) := by decide +kernel
theorem dX7_keyword_88 : decode cX7_keyword 88 = .ok (.ifCond .eq 8, 3) := by decide +kernel
theorem dX7_keyword_91 : decode cX7_keyword 91 = .ok (.bipush 11, 2) := by decide +kernel
theorem dX7_keyword_93 : decode cX7_keyword 93 = .ok (.goto 4, 3) := by decide +kernel
theorem dX7_keyword_96 : decode cX7_keyword 96 = .ok (.iconst 0, 1) := by decide +kernel
theorem dX7_keyword_97 : decode cX7_keyword 97 = .ok (.ireturn, 1) := by decide +kernel
theorem dX7_isWord_0 : decode cX7_isWord 0 = .ok (.aload_n 0, 1) := by decide +kernel
theorem dX7_isWord_1 : decode cX7_isWord 1 = .ok (.getfield 19, 3) := by decide +kernel
theorem dX7_isWord_4 : decode cX7_isWord 4 = .ok (.aload_n 0, 1) := by decide +kernel
theorem dX7_isWord_5 : decode cX7_isWord 5 = .ok (.getfield 28, 3) := by decide +kernel
theorem dX7_isWord_8 : decode cX7_isWord 8 = .ok (.isub, 1) := by decide +kernel
theorem dX7_isWord_9 : decode cX7_isWord 9 = .ok (.aload_n 1, 1) := by decide +kernel
theorem dX7_isWord_10 : decode cX7_isWord 10 = .ok (.invokevirtual 74, 3) := by decide +kernel
theorem dX7_isWord_13 : decode cX7_isWord 13 = .ok (.if_icmp .eq 5, 3) := by decide +kernel
theorem dX7_isWord_16 : decode cX7_isWord 16 = .ok (.iconst 0, 1) := by decide +kernel
theorem dX7_isWord_17 : decode cX7_isWord 17 = .ok (.ireturn, 1) := by decide +kernel
theorem dX7_isWord_18 : decode cX7_isWord 18 = .ok (.iconst 0, 1) := by decide +kernel
theorem dX7_isWord_19 : decode cX7_isWord 19 = .ok (.istore_n 2, 1) := by decide +kernel
theorem dX7_isWord_20 : decode cX7_isWord 20 = .ok (.iload_n 2, 1) := by decide +kernel
theorem dX7_isWord_21 : decode cX7_isWord 21 = .ok (.aload_n 1, 1) := by decide +kernel
theorem dX7_isWord_22 : decode cX7_isWord 22 = .ok (.invokevirtual 74, 3) := by decide +kernel
theorem dX7_isWord_25 : decode cX7_isWord 25 = .ok (.if_icmp .ge 30, 3) := by decide +kernel
theorem dX7_isWord_28 : decode cX7_isWord 28 = .ok (.aload_n 0, 1) := by decide +kernel
theorem dX7_isWord_29 : decode cX7_isWord 29 = .ok (.getfield 9, 3) := by decide +kernel
theorem dX7_isWord_32 : decode cX7_isWord 32 = .ok (.aload_n 0, 1) := by decide +kernel
theorem dX7_isWord_33 : decode cX7_isWord 33 = .ok (.getfield 28, 3) := by decide +kernel
theorem dX7_isWord_36 : decode cX7_isWord 36 = .ok (.iload_n 2, 1) := by decide +kernel
theorem dX7_isWord_37 : decode cX7_isWord 37 = .ok (.iadd, 1) := by decide +kernel
theorem dX7_isWord_38 : decode cX7_isWord 38 = .ok (.baload, 1) := by decide +kernel
theorem dX7_isWord_39 : decode cX7_isWord 39 = .ok (.aload_n 1, 1) := by decide +kernel
theorem dX7_isWord_40 : decode cX7_isWord 40 = .ok (.iload_n 2, 1) := by decide +kernel
theorem dX7_isWord_41 : decode cX7_isWord 41 = .ok (.invokevirtual 78, 3) := by decide +kernel
theorem dX7_isWord_44 : decode cX7_isWord 44 = .ok (.if_icmp .eq 5, 3) := by decide +kernel
theorem dX7_isWord_47 : decode cX7_isWord 47 = .ok (.iconst 0, 1) := by decide +kernel
theorem dX7_isWord_48 : decode cX7_isWord 48 = .ok (.ireturn, 1) := by decide +kernel
theorem dX7_isWord_49 : decode cX7_isWord 49 = .ok (.iinc 2 1, 3) := by decide +kernel
theorem dX7_isWord_52 : decode cX7_isWord 52 = .ok (.goto (-32), 3) := by decide +kernel
theorem dX7_isWord_55 : decode cX7_isWord 55 = .ok (.iconst 1, 1) := by decide +kernel
theorem dX7_isWord_56 : decode cX7_isWord 56 = .ok (.ireturn, 1) := by decide +kernel
theorem dX7_isLetter_0 : decode cX7_isLetter 0 = .ok (.iload_n 0, 1) := by decide +kernel
theorem dX7_isLetter_1 : decode cX7_isLetter 1 = .ok (.bipush 97, 2) := by decide +kernel
theorem dX7_isLetter_3 : decode cX7_isLetter 3 = .ok (.if_icmp .lt 9, 3) := by decide +kernel
theorem dX7_isLetter_6 : decode cX7_isLetter 6 = .ok (.iload_n 0, 1) := by decide +kernel
theorem dX7_isLetter_7 : decode cX7_isLetter 7 = .ok (.bipush 122, 2) := by decide +kernel
theorem dX7_isLetter_9 : decode cX7_isLetter 9 = .ok (.if_icmp .le 15, 3) := by decide +kernel
theorem dX7_isLetter_12 : decode cX7_isLetter 12 = .ok (.iload_n 0, 1) := by decide +kernel
theorem dX7_isLetter_13 : decode cX7_isLetter 13 = .ok (.bipush 65, 2) := by decide +kernel
theorem dX7_isLetter_15 : decode cX7_isLetter 15 = .ok (.if_icmp .lt 13, 3) := by decide +kernel
theorem dX7_isLetter_18 : decode cX7_isLetter 18 = .ok (.iload_n 0, 1) := by decide +kernel
theorem dX7_isLetter_19 : decode cX7_isLetter 19 = .ok (.bipush 90, 2) := by decide +kernel
theorem dX7_isLetter_21 : decode cX7_isLetter 21 = .ok (.if_icmp .gt 7, 3) := by decide +kernel
theorem dX7_isLetter_24 : decode cX7_isLetter 24 = .ok (.iconst 1, 1) := by decide +kernel
theorem dX7_isLetter_25 : decode cX7_isLetter 25 = .ok (.goto 4, 3) := by decide +kernel
theorem dX7_isLetter_28 : decode cX7_isLetter 28 = .ok (.iconst 0, 1) := by decide +kernel
theorem dX7_isLetter_29 : decode cX7_isLetter 29 = .ok (.ireturn, 1) := by decide +kernel
theorem dX7_isDigit_0 : decode cX7_isDigit 0 = .ok (.iload_n 0, 1) := by decide +kernel
theorem dX7_isDigit_1 : decode cX7_isDigit 1 = .ok (.bipush 48, 2) := by decide +kernel
theorem dX7_isDigit_3 : decode cX7_isDigit 3 = .ok (.if_icmp .lt 13, 3) := by decide +kernel
theorem dX7_isDigit_6 : decode cX7_isDigit 6 = .ok (.iload_n 0, 1) := by decide +kernel
theorem dX7_isDigit_7 : decode cX7_isDigit 7 = .ok (.bipush 57, 2) := by decide +kernel
theorem dX7_isDigit_9 : decode cX7_isDigit 9 = .ok (.if_icmp .gt 7, 3) := by decide +kernel
theorem dX7_isDigit_12 : decode cX7_isDigit 12 = .ok (.iconst 1, 1) := by decide +kernel
theorem dX7_isDigit_13 : decode cX7_isDigit 13 = .ok (.goto 4, 3) := by decide +kernel
theorem dX7_isDigit_16 : decode cX7_isDigit 16 = .ok (.iconst 0, 1) := by decide +kernel
theorem dX7_isDigit_17 : decode cX7_isDigit 17 = .ok (.ireturn, 1) := by decide +kernel
theorem dJ0_length_8abf5_0 : decode cJ0_length_8abf5 0 = .ok (.aload_n 0, 1) := by decide +kernel
theorem dJ0_length_8abf5_1 : decode cJ0_length_8abf5 1 = .ok (.getfield 9, 3) := by decide +kernel
theorem dJ0_length_8abf5_4 : decode cJ0_length_8abf5 4 = .ok (.arraylength, 1) := by decide +kernel
theorem dJ0_length_8abf5_5 : decode cJ0_length_8abf5 5 = .ok (.aload_n 0, 1) := by decide +kernel
theorem dJ0_length_8abf5_6 : decode cJ0_length_8abf5 6 = .ok (.invokevirtual 335, 3) := by decide +kernel
theorem dJ0_length_8abf5_9 : decode cJ0_length_8abf5 9 = .ok (.ishr, 1) := by decide +kernel
theorem dJ0_length_8abf5_10 : decode cJ0_length_8abf5 10 = .ok (.ireturn, 1) := by decide +kernel
theorem dJ0_charAt_5068e_0 : decode cJ0_charAt_5068e 0 = .ok (.aload_n 0, 1) := by decide +kernel
theorem dJ0_charAt_5068e_1 : decode cJ0_charAt_5068e 1 = .ok (.invokevirtual 492, 3) := by decide +kernel
theorem dJ0_charAt_5068e_4 : decode cJ0_charAt_5068e 4 = .ok (.ifCond .eq 12, 3) := by decide +kernel
theorem dJ0_charAt_5068e_7 : decode cJ0_charAt_5068e 7 = .ok (.aload_n 0, 1) := by decide +kernel
theorem dJ0_charAt_5068e_8 : decode cJ0_charAt_5068e 8 = .ok (.getfield 9, 3) := by decide +kernel
theorem dJ0_charAt_5068e_11 : decode cJ0_charAt_5068e 11 = .ok (.iload_n 1, 1) := by decide +kernel
theorem dJ0_charAt_5068e_12 : decode cJ0_charAt_5068e 12 = .ok (.invokestatic 495, 3) := by decide +kernel
theorem dJ0_charAt_5068e_15 : decode cJ0_charAt_5068e 15 = .ok (.ireturn, 1) := by decide +kernel
theorem dJ0_charAt_5068e_16 : decode cJ0_charAt_5068e 16 = .ok (.aload_n 0, 1) := by decide +kernel
theorem dJ0_charAt_5068e_17 : decode cJ0_charAt_5068e 17 = .ok (.getfield 9, 3) := by decide +kernel
theorem dJ0_charAt_5068e_20 : decode cJ0_charAt_5068e 20 = .ok (.iload_n 1, 1) := by decide +kernel
theorem dJ0_charAt_5068e_21 : decode cJ0_charAt_5068e 21 = .ok (.invokestatic 498, 3) := by decide +kernel
theorem dJ0_charAt_5068e_24 : decode cJ0_charAt_5068e 24 = .ok (.ireturn, 1) := by decide +kernel
theorem dJ0_coder_7d493_0 : decode cJ0_coder_7d493 0 = .ok (.getstatic 38, 3) := by decide +kernel
theorem dJ0_coder_7d493_3 : decode cJ0_coder_7d493 3 = .ok (.ifCond .eq 10, 3) := by decide +kernel
theorem dJ0_coder_7d493_6 : decode cJ0_coder_7d493 6 = .ok (.aload_n 0, 1) := by decide +kernel
theorem dJ0_coder_7d493_7 : decode cJ0_coder_7d493 7 = .ok (.getfield 15, 3) := by decide +kernel
theorem dJ0_coder_7d493_10 : decode cJ0_coder_7d493 10 = .ok (.goto 4, 3) := by decide +kernel
theorem dJ0_coder_7d493_13 : decode cJ0_coder_7d493 13 = .ok (.iconst 1, 1) := by decide +kernel
theorem dJ0_coder_7d493_14 : decode cJ0_coder_7d493 14 = .ok (.ireturn, 1) := by decide +kernel
theorem dJ0_isLatin1_aae02_0 : decode cJ0_isLatin1_aae02 0 = .ok (.getstatic 38, 3) := by decide +kernel
theorem dJ0_isLatin1_aae02_3 : decode cJ0_isLatin1_aae02 3 = .ok (.ifCond .eq 14, 3) := by decide +kernel
theorem dJ0_isLatin1_aae02_6 : decode cJ0_isLatin1_aae02 6 = .ok (.aload_n 0, 1) := by decide +kernel
theorem dJ0_isLatin1_aae02_7 : decode cJ0_isLatin1_aae02 7 = .ok (.getfield 15, 3) := by decide +kernel
theorem dJ0_isLatin1_aae02_10 : decode cJ0_isLatin1_aae02 10 = .ok (.ifCond .ne 7, 3) := by decide +kernel
theorem dJ0_isLatin1_aae02_13 : decode cJ0_isLatin1_aae02 13 = .ok (.iconst 1, 1) := by decide +kernel
theorem dJ0_isLatin1_aae02_14 : decode cJ0_isLatin1_aae02 14 = .ok (.goto 4, 3) := by decide +kernel
theorem dJ0_isLatin1_aae02_17 : decode cJ0_isLatin1_aae02 17 = .ok (.iconst 0, 1) := by decide +kernel
theorem dJ0_isLatin1_aae02_18 : decode cJ0_isLatin1_aae02 18 = .ok (.ireturn, 1) := by decide +kernel
theorem dJ0_checkIndex_df160_0 : decode cJ0_checkIndex_df160 0 = .ok (.iload_n 0, 1) := by decide +kernel
theorem dJ0_checkIndex_df160_1 : decode cJ0_checkIndex_df160 1 = .ok (.iload_n 1, 1) := by decide +kernel
theorem dJ0_checkIndex_df160_2 : decode cJ0_checkIndex_df160 2 = .ok (.getstatic 1053, 3) := by decide +kernel
theorem dJ0_checkIndex_df160_5 : decode cJ0_checkIndex_df160 5 = .ok (.invokestatic 1059, 3) := by decide +kernel
theorem dJ0_checkIndex_df160_8 : decode cJ0_checkIndex_df160 8 = .ok (.pop, 1) := by decide +kernel
theorem dJ0_checkIndex_df160_9 : decode cJ0_checkIndex_df160 9 = .ok (.return_, 1) := by decide +kernel
theorem dJ1_charAt_3b067_0 : decode cJ1_charAt_3b067 0 = .ok (.iload_n 1, 1) := by decide +kernel
theorem dJ1_charAt_3b067_1 : decode cJ1_charAt_3b067 1 = .ok (.aload_n 0, 1) := by decide +kernel
theorem dJ1_charAt_3b067_2 : decode cJ1_charAt_3b067 2 = .ok (.arraylength, 1) := by decide +kernel
theorem dJ1_charAt_3b067_3 : decode cJ1_charAt_3b067 3 = .ok (.invokestatic 9, 3) := by decide +kernel
theorem dJ1_charAt_3b067_6 : decode cJ1_charAt_3b067 6 = .ok (.aload_n 0, 1) := by decide +kernel
theorem dJ1_charAt_3b067_7 : decode cJ1_charAt_3b067 7 = .ok (.iload_n 1, 1) := by decide +kernel
theorem dJ1_charAt_3b067_8 : decode cJ1_charAt_3b067 8 = .ok (.baload, 1) := by decide +kernel
theorem dJ1_charAt_3b067_9 : decode cJ1_charAt_3b067 9 = .ok (.sipush 255, 3) := by decide +kernel
theorem dJ1_charAt_3b067_12 : decode cJ1_charAt_3b067 12 = .ok (.iand, 1) := by decide +kernel
theorem dJ1_charAt_3b067_13 : decode cJ1_charAt_3b067 13 = .ok (.i2c, 1) := by decide +kernel
theorem dJ1_charAt_3b067_14 : decode cJ1_charAt_3b067 14 = .ok (.ireturn, 1) := by decide +kernel
theorem dJ2_getChar_3b067_0 : decode cJ2_getChar_3b067 0 = .ok (.getstatic 44, 3) := by decide +kernel
theorem dJ2_getChar_3b067_3 : decode cJ2_getChar_3b067 3 = .ok (.ifCond .ne 25, 3) := by decide +kernel
theorem dJ2_getChar_3b067_6 : decode cJ2_getChar_3b067 6 = .ok (.iload_n 1, 1) := by decide +kernel
theorem dJ2_getChar_3b067_7 : decode cJ2_getChar_3b067 7 = .ok (.ifCond .lt 11, 3) := by decide +kernel
theorem dJ2_getChar_3b067_10 : decode cJ2_getChar_3b067 10 = .ok (.iload_n 1, 1) := by decide +kernel
theorem dJ2_getChar_3b067_11 : decode cJ2_getChar_3b067 11 = .ok (.aload_n 0, 1) := by decide +kernel
theorem dJ2_getChar_3b067_12 : decode cJ2_getChar_3b067 12 = .ok (.invokestatic 48, 3) := by decide +kernel
theorem dJ2_getChar_3b067_15 : decode cJ2_getChar_3b067 15 = .ok (.if_icmp .lt 13, 3) := by decide +kernel
theorem dJ2_getChar_3b067_18 : decode cJ2_getChar_3b067 18 = .ok (.new 52, 3) := by decide +kernel
theorem dJ2_getChar_3b067_21 : decode cJ2_getChar_3b067 21 = .ok (.dup, 1) := by decide +kernel
theorem dJ2_getChar_3b067_22 : decode cJ2_getChar_3b067 22 = .ok (.ldc 54, 2) := by decide +kernel
theorem dJ2_getChar_3b067_24 : decode cJ2_getChar_3b067 24 = .ok (.invokespecial 56, 3) := by decide +kernel
theorem dJ2_getChar_3b067_27 : decode cJ2_getChar_3b067 27 = .ok (.athrow, 1) := by decide +kernel
theorem dJ2_getChar_3b067_28 : decode cJ2_getChar_3b067 28 = .ok (.iload_n 1, 1) := by decide +kernel
theorem dJ2_getChar_3b067_29 : decode cJ2_getChar_3b067 29 = .ok (.iconst 1, 1) := by decide +kernel
theorem dJ2_getChar_3b067_30 : decode cJ2_getChar_3b067 30 = .ok (.ishl, 1) := by decide +kernel
theorem dJ2_getChar_3b067_31 : decode cJ2_getChar_3b067 31 = .ok (.istore_n 1, 1) := by decide +kernel
theorem dJ2_getChar_3b067_32 : decode cJ2_getChar_3b067 32 = .ok (.aload_n 0, 1) := by decide +kernel
theorem dJ2_getChar_3b067_33 : decode cJ2_getChar_3b067 33 = .ok (.iload_n 1, 1) := by decide +kernel
theorem dJ2_getChar_3b067_34 : decode cJ2_getChar_3b067 34 = .ok (.iinc 1 1, 3) := by decide +kernel
theorem dJ2_getChar_3b067_37 : decode cJ2_getChar_3b067 37 = .ok (.baload, 1) := by decide +kernel
theorem dJ2_getChar_3b067_38 : decode cJ2_getChar_3b067 38 = .ok (.sipush 255, 3) := by decide +kernel
theorem dJ2_getChar_3b067_41 : decode cJ2_getChar_3b067 41 = .ok (.iand, 1) := by decide +kernel
theorem dJ2_getChar_3b067_42 : decode cJ2_getChar_3b067 42 = .ok (.getstatic 59, 3) := by decide +kernel
theorem dJ2_getChar_3b067_45 : decode cJ2_getChar_3b067 45 = .ok (.ishl, 1) := by decide +kernel
theorem dJ2_getChar_3b067_46 : decode cJ2_getChar_3b067 46 = .ok (.aload_n 0, 1) := by decide +kernel
theorem dJ2_getChar_3b067_47 : decode cJ2_getChar_3b067 47 = .ok (.iload_n 1, 1) := by decide +kernel
theorem dJ2_getChar_3b067_48 : decode cJ2_getChar_3b067 48 = .ok (.baload, 1) := by decide +kernel
theorem dJ2_getChar_3b067_49 : decode cJ2_getChar_3b067 49 = .ok (.sipush 255, 3) := by decide +kernel
theorem dJ2_getChar_3b067_52 : decode cJ2_getChar_3b067 52 = .ok (.iand, 1) := by decide +kernel
theorem dJ2_getChar_3b067_53 : decode cJ2_getChar_3b067 53 = .ok (.getstatic 63, 3) := by decide +kernel
theorem dJ2_getChar_3b067_56 : decode cJ2_getChar_3b067 56 = .ok (.ishl, 1) := by decide +kernel
theorem dJ2_getChar_3b067_57 : decode cJ2_getChar_3b067 57 = .ok (.ior, 1) := by decide +kernel
theorem dJ2_getChar_3b067_58 : decode cJ2_getChar_3b067 58 = .ok (.i2c, 1) := by decide +kernel
theorem dJ2_getChar_3b067_59 : decode cJ2_getChar_3b067 59 = .ok (.ireturn, 1) := by decide +kernel
theorem dJ2_length_9d52b_0 : decode cJ2_length_9d52b 0 = .ok (.aload_n 0, 1) := by decide +kernel
theorem dJ2_length_9d52b_1 : decode cJ2_length_9d52b 1 = .ok (.arraylength, 1) := by decide +kernel
theorem dJ2_length_9d52b_2 : decode cJ2_length_9d52b 2 = .ok (.iconst 1, 1) := by decide +kernel
theorem dJ2_length_9d52b_3 : decode cJ2_length_9d52b 3 = .ok (.ishr, 1) := by decide +kernel
theorem dJ2_length_9d52b_4 : decode cJ2_length_9d52b 4 = .ok (.ireturn, 1) := by decide +kernel
theorem dJ2_charAt_3b067_0 : decode cJ2_charAt_3b067 0 = .ok (.iload_n 1, 1) := by decide +kernel
theorem dJ2_charAt_3b067_1 : decode cJ2_charAt_3b067 1 = .ok (.aload_n 0, 1) := by decide +kernel
theorem dJ2_charAt_3b067_2 : decode cJ2_charAt_3b067 2 = .ok (.invokestatic 67, 3) := by decide +kernel
theorem dJ2_charAt_3b067_5 : decode cJ2_charAt_3b067 5 = .ok (.aload_n 0, 1) := by decide +kernel
theorem dJ2_charAt_3b067_6 : decode cJ2_charAt_3b067 6 = .ok (.iload_n 1, 1) := by decide +kernel
theorem dJ2_charAt_3b067_7 : decode cJ2_charAt_3b067 7 = .ok (.invokestatic 71, 3) := by decide +kernel
theorem dJ2_charAt_3b067_10 : decode cJ2_charAt_3b067 10 = .ok (.ireturn, 1) := by decide +kernel
theorem dJ2_checkIndex_2214a_0 : decode cJ2_checkIndex_2214a 0 = .ok (.iload_n 0, 1) := by decide +kernel
theorem dJ2_checkIndex_2214a_1 : decode cJ2_checkIndex_2214a 1 = .ok (.aload_n 1, 1) := by decide +kernel
theorem dJ2_checkIndex_2214a_2 : decode cJ2_checkIndex_2214a 2 = .ok (.invokestatic 48, 3) := by decide +kernel
theorem dJ2_checkIndex_2214a_5 : decode cJ2_checkIndex_2214a 5 = .ok (.invokestatic 414, 3) := by decide +kernel
theorem dJ2_checkIndex_2214a_8 : decode cJ2_checkIndex_2214a 8 = .ok (.return_, 1) := by decide +kernel
theorem dJ3_checkIndex_8e157_0 : decode cJ3_checkIndex_8e157 0 = .ok (.iload_n 0, 1) := by decide +kernel
theorem dJ3_checkIndex_8e157_1 : decode cJ3_checkIndex_8e157 1 = .ok (.ifCond .lt 8, 3) := by decide +kernel
theorem dJ3_checkIndex_8e157_4 : decode cJ3_checkIndex_8e157 4 = .ok (.iload_n 0, 1) := by decide +kernel
theorem dJ3_checkIndex_8e157_5 : decode cJ3_checkIndex_8e157 5 = .ok (.iload_n 1, 1) := by decide +kernel
theorem dJ3_checkIndex_8e157_6 : decode cJ3_checkIndex_8e157 6 = .ok (.if_icmp .lt 10, 3) := by decide +kernel
theorem dJ3_checkIndex_8e157_9 : decode cJ3_checkIndex_8e157 9 = .ok (.aload_n 2, 1) := by decide +kernel
theorem dJ3_checkIndex_8e157_10 : decode cJ3_checkIndex_8e157 10 = .ok (.iload_n 0, 1) := by decide +kernel
theorem dJ3_checkIndex_8e157_11 : decode cJ3_checkIndex_8e157 11 = .ok (.iload_n 1, 1) := by decide +kernel
theorem dJ3_checkIndex_8e157_12 : decode cJ3_checkIndex_8e157 12 = .ok (.invokestatic 95, 3) := by decide +kernel
theorem dJ3_checkIndex_8e157_15 : decode cJ3_checkIndex_8e157 15 = .ok (.athrow, 1) := by decide +kernel
theorem dJ3_checkIndex_8e157_16 : decode cJ3_checkIndex_8e157 16 = .ok (.iload_n 0, 1) := by decide +kernel
theorem dJ3_checkIndex_8e157_17 : decode cJ3_checkIndex_8e157 17 = .ok (.ireturn, 1) := by decide +kernel
theorem dJ9_max_7cf53_0 : decode cJ9_max_7cf53 0 = .ok (.iload_n 0, 1) := by decide +kernel
theorem dJ9_max_7cf53_1 : decode cJ9_max_7cf53 1 = .ok (.iload_n 1, 1) := by decide +kernel
theorem dJ9_max_7cf53_2 : decode cJ9_max_7cf53 2 = .ok (.if_icmp .lt 7, 3) := by decide +kernel
theorem dJ9_max_7cf53_5 : decode cJ9_max_7cf53 5 = .ok (.iload_n 0, 1) := by decide +kernel
theorem dJ9_max_7cf53_6 : decode cJ9_max_7cf53 6 = .ok (.goto 4, 3) := by decide +kernel
theorem dJ9_max_7cf53_9 : decode cJ9_max_7cf53 9 = .ok (.iload_n 1, 1) := by decide +kernel
theorem dJ9_max_7cf53_10 : decode cJ9_max_7cf53 10 = .ok (.ireturn, 1) := by decide +kernel
theorem dJ9_min_7cf53_0 : decode cJ9_min_7cf53 0 = .ok (.iload_n 0, 1) := by decide +kernel
theorem dJ9_min_7cf53_1 : decode cJ9_min_7cf53 1 = .ok (.iload_n 1, 1) := by decide +kernel
theorem dJ9_min_7cf53_2 : decode cJ9_min_7cf53 2 = .ok (.if_icmp .gt 7, 3) := by decide +kernel
theorem dJ9_min_7cf53_5 : decode cJ9_min_7cf53 5 = .ok (.iload_n 0, 1) := by decide +kernel
theorem dJ9_min_7cf53_6 : decode cJ9_min_7cf53 6 = .ok (.goto 4, 3) := by decide +kernel
theorem dJ9_min_7cf53_9 : decode cJ9_min_7cf53 9 = .ok (.iload_n 1, 1) := by decide +kernel
theorem dJ9_min_7cf53_10 : decode cJ9_min_7cf53 10 = .ok (.ireturn, 1) := by decide +kernel
