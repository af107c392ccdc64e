theorem dX0_init_0 : decode cX0_init 0 = .ok (.aload_n 0, 1) := by decide +kernel
theorem dX0_init_1 : decode cX0_init 1 = .ok (.invokespecial 3, 3) := by decide +kernel
theorem dX0_init_4 : decode cX0_init 4 = .ok (.aload_n 0, 1) := by decide +kernel
theorem dX0_init_5 : decode cX0_init 5 = .ok (.sipush 150, 3) := by decide +kernel
theorem dX0_init_8 : decode cX0_init 8 = .ok (.newarray .int, 2) := by decide +kernel
theorem dX0_init_10 : decode cX0_init 10 = .ok (.putfield 9, 3) := by decide +kernel
theorem dX0_init_13 : decode cX0_init 13 = .ok (.return_, 1) := by decide +kernel
theorem dX0_isFull_0 : decode cX0_isFull 0 = .ok (.aload_n 0, 1) := by decide +kernel
theorem dX0_isFull_1 : decode cX0_isFull 1 = .ok (.getfield 15, 3) := by decide +kernel
theorem dX0_isFull_4 : decode cX0_isFull 4 = .ok (.sipush 150, 3) := by decide +kernel
theorem dX0_isFull_7 : decode cX0_isFull 7 = .ok (.if_icmp .lt 7, 3) := by decide +kernel
theorem dX0_isFull_10 : decode cX0_isFull 10 = .ok (.iconst 1, 1) := by decide +kernel
theorem dX0_isFull_11 : decode cX0_isFull 11 = .ok (.goto 4, 3) := by decide +kernel
theorem dX0_isFull_14 : decode cX0_isFull 14 = .ok (.iconst 0, 1) := by decide +kernel
theorem dX0_isFull_15 : decode cX0_isFull 15 = .ok (.ireturn, 1) := by decide +kernel
theorem dX0_add_0 : decode cX0_add 0 = .ok (.aload_n 0, 1) := by decide +kernel
theorem dX0_add_1 : decode cX0_add 1 = .ok (.getfield 15, 3) := by decide +kernel
theorem dX0_add_4 : decode cX0_add 4 = .ok (.ifCond .lt 35, 3) := by decide +kernel
theorem dX0_add_7 : decode cX0_add 7 = .ok (.aload_n 0, 1) := by decide +kernel
theorem dX0_add_8 : decode cX0_add 8 = .ok (.getfield 15, 3) := by decide +kernel
theorem dX0_add_11 : decode cX0_add 11 = .ok (.aload_n 0, 1) := by decide +kernel
theorem dX0_add_12 : decode cX0_add 12 = .ok (.getfield 9, 3) := by decide +kernel
theorem dX0_add_15 : decode cX0_add 15 = .ok (.arraylength, 1) := by decide +kernel
theorem dX0_add_16 : decode cX0_add 16 = .ok (.if_icmp .ge 23, 3) := by decide +kernel
theorem dX0_add_19 : decode cX0_add 19 = .ok (.aload_n 0, 1) := by decide +kernel
theorem dX0_add_20 : decode cX0_add 20 = .ok (.getfield 9, 3) := by decide +kernel
theorem dX0_add_23 : decode cX0_add 23 = .ok (.aload_n 0, 1) := by decide +kernel
theorem dX0_add_24 : decode cX0_add 24 = .ok (.getfield 15, 3) := by decide +kernel
theorem dX0_add_27 : decode cX0_add 27 = .ok (.iload_n 1, 1) := by decide +kernel
theorem dX0_add_28 : decode cX0_add 28 = .ok (.iastore, 1) := by decide +kernel
theorem dX0_add_29 : decode cX0_add 29 = .ok (.aload_n 0, 1) := by decide +kernel
theorem dX0_add_30 : decode cX0_add 30 = .ok (.dup, 1) := by decide +kernel
theorem dX0_add_31 : decode cX0_add 31 = .ok (.getfield 15, 3) := by decide +kernel
theorem dX0_add_34 : decode cX0_add 34 = .ok (.iconst 1, 1) := by decide +kernel
theorem dX0_add_35 : decode cX0_add 35 = .ok (.iadd, 1) := by decide +kernel
theorem dX0_add_36 : decode cX0_add 36 = .ok (.putfield 15, 3) := by decide +kernel
theorem dX0_add_39 : decode cX0_add 39 = .ok (.return_, 1) := by decide +kernel
theorem dX0_readInto_0 : decode cX0_readInto 0 = .ok (.aload_n 1, 1) := by decide +kernel
theorem dX0_readInto_1 : decode cX0_readInto 1 = .ok (.iconst 0, 1) := by decide +kernel
theorem dX0_readInto_2 : decode cX0_readInto 2 = .ok (.invokevirtual 19, 3) := by decide +kernel
theorem dX0_readInto_5 : decode cX0_readInto 5 = .ok (.aload_n 0, 1) := by decide +kernel
theorem dX0_readInto_6 : decode cX0_readInto 6 = .ok (.iconst 0, 1) := by decide +kernel
theorem dX0_readInto_7 : decode cX0_readInto 7 = .ok (.putfield 25, 3) := by decide +kernel
theorem dX0_readInto_10 : decode cX0_readInto 10 = .ok (.aload_n 0, 1) := by decide +kernel
theorem dX0_readInto_11 : decode cX0_readInto 11 = .ok (.iconst (-1), 1) := by decide +kernel
theorem dX0_readInto_12 : decode cX0_readInto 12 = .ok (.putfield 28, 3) := by decide +kernel
theorem dX0_readInto_15 : decode cX0_readInto 15 = .ok (.iconst 0, 1) := by decide +kernel
theorem dX0_readInto_16 : decode cX0_readInto 16 = .ok (.istore_n 2, 1) := by decide +kernel
theorem dX0_readInto_17 : decode cX0_readInto 17 = .ok (.iconst 0, 1) := by decide +kernel
theorem dX0_readInto_18 : decode cX0_readInto 18 = .ok (.istore_n 3, 1) := by decide +kernel
theorem dX0_readInto_19 : decode cX0_readInto 19 = .ok (.iload_n 3, 1) := by decide +kernel
theorem dX0_readInto_20 : decode cX0_readInto 20 = .ok (.sipush 150, 3) := by decide +kernel
theorem dX0_readInto_23 : decode cX0_readInto 23 = .ok (.if_icmp .gt 51, 3) := by decide +kernel
theorem dX0_readInto_26 : decode cX0_readInto 26 = .ok (.aload_n 0, 1) := by decide +kernel
theorem dX0_readInto_27 : decode cX0_readInto 27 = .ok (.invokevirtual 31, 3) := by decide +kernel
theorem dX0_readInto_30 : decode cX0_readInto 30 = .ok (.aload_n 0, 1) := by decide +kernel
theorem dX0_readInto_31 : decode cX0_readInto 31 = .ok (.getfield 34, 3) := by decide +kernel
theorem dX0_readInto_34 : decode cX0_readInto 34 = .ok (.ifCond .eq 40, 3) := by decide +kernel
theorem dX0_readInto_37 : decode cX0_readInto 37 = .ok (.aload_n 0, 1) := by decide +kernel
theorem dX0_readInto_38 : decode cX0_readInto 38 = .ok (.aload_n 1, 1) := by decide +kernel
theorem dX0_readInto_39 : decode cX0_readInto 39 = .ok (.iload_n 2, 1) := by decide +kernel
theorem dX0_readInto_40 : decode cX0_readInto 40 = .ok (.ifCond .ne 7, 3) := by decide +kernel
theorem dX0_readInto_43 : decode cX0_readInto 43 = .ok (.iconst 1, 1) := by decide +kernel
theorem dX0_readInto_44 : decode cX0_readInto 44 = .ok (.goto 4, 3) := by decide +kernel
theorem dX0_readInto_47 : decode cX0_readInto 47 = .ok (.iconst 0, 1) := by decide +kernel
theorem dX0_readInto_48 : decode cX0_readInto 48 = .ok (.invokevirtual 37, 3) := by decide +kernel
theorem dX0_readInto_51 : decode cX0_readInto 51 = .ok (.ifCond .ne 6, 3) := by decide +kernel
theorem dX0_readInto_54 : decode cX0_readInto 54 = .ok (.goto 20, 3) := by decide +kernel
theorem dX0_readInto_57 : decode cX0_readInto 57 = .ok (.aload_n 0, 1) := by decide +kernel
theorem dX0_readInto_58 : decode cX0_readInto 58 = .ok (.getfield 34, 3) := by decide +kernel
theorem dX0_readInto_61 : decode cX0_readInto 61 = .ok (.iconst 2, 1) := by decide +kernel
theorem dX0_readInto_62 : decode cX0_readInto 62 = .ok (.if_icmp .ne 6, 3) := by decide +kernel
theorem dX0_readInto_65 : decode cX0_readInto 65 = .ok (.iinc 2 1, 3) := by decide +kernel
theorem dX0_readInto_68 : decode cX0_readInto 68 = .ok (.iinc 3 1, 3) := by decide +kernel
theorem dX0_readInto_71 : decode cX0_readInto 71 = .ok (.goto (-52), 3) := by decide +kernel
theorem dX0_readInto_74 : decode cX0_readInto 74 = .ok (.aload_n 0, 1) := by decide +kernel
theorem dX0_readInto_75 : decode cX0_readInto 75 = .ok (.getfield 34, 3) := by decide +kernel
theorem dX0_readInto_78 : decode cX0_readInto 78 = .ok (.ifCond .ne 19, 3) := by decide +kernel
theorem dX0_readInto_81 : decode cX0_readInto 81 = .ok (.aload_n 0, 1) := by decide +kernel
theorem dX0_readInto_82 : decode cX0_readInto 82 = .ok (.getfield 28, 3) := by decide +kernel
theorem dX0_readInto_85 : decode cX0_readInto 85 = .ok (.iconst (-1), 1) := by decide +kernel
theorem dX0_readInto_86 : decode cX0_readInto 86 = .ok (.if_icmp .ne 11, 3) := by decide +kernel
theorem dX0_readInto_89 : decode cX0_readInto 89 = .ok (.iload_n 2, 1) := by decide +kernel
theorem dX0_readInto_90 : decode cX0_readInto 90 = .ok (.ifCond .le 7, 3) := by decide +kernel
theorem dX0_readInto_93 : decode cX0_readInto 93 = .ok (.iconst 1, 1) := by decide +kernel
theorem dX0_readInto_94 : decode cX0_readInto 94 = .ok (.goto 4, 3) := by decide +kernel
theorem dX0_readInto_97 : decode cX0_readInto 97 = .ok (.iconst 0, 1) := by decide +kernel
theorem dX0_readInto_98 : decode cX0_readInto 98 = .ok (.istore_n 3, 1) := by decide +kernel
theorem dX0_readInto_99 : decode cX0_readInto 99 = .ok (.iload_n 3, 1) := by decide +kernel
theorem dX0_readInto_100 : decode cX0_readInto 100 = .ok (.ifCond .eq 7, 3) := by decide +kernel
theorem dX0_readInto_103 : decode cX0_readInto 103 = .ok (.iload_n 2, 1) := by decide +kernel
theorem dX0_readInto_104 : decode cX0_readInto 104 = .ok (.goto 10, 3) := by decide +kernel
theorem dX0_readInto_107 : decode cX0_readInto 107 = .ok (.bipush (-10), 2) := by decide +kernel
theorem dX0_readInto_109 : decode cX0_readInto 109 = .ok (.aload_n 0, 1) := by decide +kernel
theorem dX0_readInto_110 : decode cX0_readInto 110 = .ok (.getfield 41, 3) := by decide +kernel
theorem dX0_readInto_113 : decode cX0_readInto 113 = .ok (.isub, 1) := by decide +kernel
theorem dX0_readInto_114 : decode cX0_readInto 114 = .ok (.ireturn, 1) := by decide +kernel
theorem dX0_takeToken_0 : decode cX0_takeToken 0 = .ok (.aload_n 0, 1) := by decide +kernel
theorem dX0_takeToken_1 : decode cX0_takeToken 1 = .ok (.getfield 28, 3) := by decide +kernel
theorem dX0_takeToken_4 : decode cX0_takeToken 4 = .ok (.iconst (-1), 1) := by decide +kernel
theorem dX0_takeToken_5 : decode cX0_takeToken 5 = .ok (.if_icmp .ne 10, 3) := by decide +kernel
theorem dX0_takeToken_8 : decode cX0_takeToken 8 = .ok (.aload_n 0, 1) := by decide +kernel
theorem dX0_takeToken_9 : decode cX0_takeToken 9 = .ok (.aload_n 1, 1) := by decide +kernel
theorem dX0_takeToken_10 : decode cX0_takeToken 10 = .ok (.iload_n 2, 1) := by decide +kernel
theorem dX0_takeToken_11 : decode cX0_takeToken 11 = .ok (.invokevirtual 44, 3) := by decide +kernel
theorem dX0_takeToken_14 : decode cX0_takeToken 14 = .ok (.ireturn, 1) := by decide +kernel
theorem dX0_takeToken_15 : decode cX0_takeToken 15 = .ok (.aload_n 0, 1) := by decide +kernel
theorem dX0_takeToken_16 : decode cX0_takeToken 16 = .ok (.getfield 34, 3) := by decide +kernel
theorem dX0_takeToken_19 : decode cX0_takeToken 19 = .ok (.iconst 2, 1) := by decide +kernel
theorem dX0_takeToken_20 : decode cX0_takeToken 20 = .ok (.if_icmp .ne 21, 3) := by decide +kernel
theorem dX0_takeToken_23 : decode cX0_takeToken 23 = .ok (.aload_n 0, 1) := by decide +kernel
theorem dX0_takeToken_24 : decode cX0_takeToken 24 = .ok (.getfield 47, 3) := by decide +kernel
theorem dX0_takeToken_27 : decode cX0_takeToken 27 = .ok (.aload_n 0, 1) := by decide +kernel
theorem dX0_takeToken_28 : decode cX0_takeToken 28 = .ok (.invokevirtual 50, 3) := by decide +kernel
theorem dX0_takeToken_31 : decode cX0_takeToken 31 = .ok (.if_icmp .lt 10, 3) := by decide +kernel
theorem dX0_takeToken_34 : decode cX0_takeToken 34 = .ok (.aload_n 0, 1) := by decide +kernel
theorem dX0_takeToken_35 : decode cX0_takeToken 35 = .ok (.aload_n 1, 1) := by decide +kernel
theorem dX0_takeToken_36 : decode cX0_takeToken 36 = .ok (.invokevirtual 54, 3) := by decide +kernel
theorem dX0_takeToken_39 : decode cX0_takeToken 39 = .ok (.iconst 1, 1) := by decide +kernel
theorem dX0_takeToken_40 : decode cX0_takeToken 40 = .ok (.ireturn, 1) := by decide +kernel
theorem dX0_takeToken_41 : decode cX0_takeToken 41 = .ok (.aload_n 0, 1) := by decide +kernel
theorem dX0_takeToken_42 : decode cX0_takeToken 42 = .ok (.getfield 34, 3) := by decide +kernel
theorem dX0_takeToken_45 : decode cX0_takeToken 45 = .ok (.iconst 3, 1) := by decide +kernel
theorem dX0_takeToken_46 : decode cX0_takeToken 46 = .ok (.if_icmp .ne 20, 3) := by decide +kernel
theorem dX0_takeToken_49 : decode cX0_takeToken 49 = .ok (.aload_n 0, 1) := by decide +kernel
theorem dX0_takeToken_50 : decode cX0_takeToken 50 = .ok (.getfield 58, 3) := by decide +kernel
theorem dX0_takeToken_53 : decode cX0_takeToken 53 = .ok (.aload_n 0, 1) := by decide +kernel
theorem dX0_takeToken_54 : decode cX0_takeToken 54 = .ok (.invokevirtual 61, 3) := by decide +kernel
theorem dX0_takeToken_57 : decode cX0_takeToken 57 = .ok (.if_icmp .gt 9, 3) := by decide +kernel
theorem dX0_takeToken_60 : decode cX0_takeToken 60 = .ok (.aload_n 0, 1) := by decide +kernel
theorem dX0_takeToken_61 : decode cX0_takeToken 61 = .ok (.invokevirtual 64, 3) := by decide +kernel
theorem dX0_takeToken_64 : decode cX0_takeToken 64 = .ok (.iconst 1, 1) := by decide +kernel
theorem dX0_takeToken_65 : decode cX0_takeToken 65 = .ok (.ireturn, 1) := by decide +kernel
theorem dX0_takeToken_66 : decode cX0_takeToken 66 = .ok (.iconst 0, 1) := by decide +kernel
theorem dX0_takeToken_67 : decode cX0_takeToken 67 = .ok (.ireturn, 1) := by decide +kernel
theorem dX0_beginItem_0 : decode cX0_beginItem 0 = .ok (.iload_n 2, 1) := by decide +kernel
theorem dX0_beginItem_1 : decode cX0_beginItem 1 = .ok (.ifCond .eq 19, 3) := by decide +kernel
theorem dX0_beginItem_4 : decode cX0_beginItem 4 = .ok (.aload_n 0, 1) := by decide +kernel
theorem dX0_beginItem_5 : decode cX0_beginItem 5 = .ok (.getfield 34, 3) := by decide +kernel
theorem dX0_beginItem_8 : decode cX0_beginItem 8 = .ok (.iconst 4, 1) := by decide +kernel
theorem dX0_beginItem_9 : decode cX0_beginItem 9 = .ok (.if_icmp .ne 7, 3) := by decide +kernel
theorem dX0_beginItem_12 : decode cX0_beginItem 12 = .ok (.iconst 1, 1) := by decide +kernel
theorem dX0_beginItem_13 : decode cX0_beginItem 13 = .ok (.goto 49, 3) := by decide +kernel
theorem dX0_beginItem_16 : decode cX0_beginItem 16 = .ok (.iconst 0, 1) := by decide +kernel
theorem dX0_beginItem_17 : decode cX0_beginItem 17 = .ok (.goto 45, 3) := by decide +kernel
theorem dX0_beginItem_20 : decode cX0_beginItem 20 = .ok (.aload_n 0, 1) := by decide +kernel
theorem dX0_beginItem_21 : decode cX0_beginItem 21 = .ok (.getfield 34, 3) := by decide +kernel
theorem dX0_beginItem_24 : decode cX0_beginItem 24 = .ok (.iconst 5, 1) := by decide +kernel
theorem dX0_beginItem_25 : decode cX0_beginItem 25 = .ok (.if_icmp .ne 13, 3) := by decide +kernel
theorem dX0_beginItem_28 : decode cX0_beginItem 28 = .ok (.aload_n 1, 1) := by decide +kernel
theorem dX0_beginItem_29 : decode cX0_beginItem 29 = .ok (.getfield 67, 3) := by decide +kernel
theorem dX0_beginItem_32 : decode cX0_beginItem 32 = .ok (.invokevirtual 71, 3) := by decide +kernel
theorem dX0_beginItem_35 : decode cX0_beginItem 35 = .ok (.ifCond .eq 22, 3) := by decide +kernel
theorem dX0_beginItem_38 : decode cX0_beginItem 38 = .ok (.aload_n 0, 1) := by decide +kernel
theorem dX0_beginItem_39 : decode cX0_beginItem 39 = .ok (.getfield 34, 3) := by decide +kernel
theorem dX0_beginItem_42 : decode cX0_beginItem 42 = .ok (.bipush 6, 2) := by decide +kernel
theorem dX0_beginItem_44 : decode cX0_beginItem 44 = .ok (.if_icmp .ne 17, 3) := by decide +kernel
theorem dX0_beginItem_47 : decode cX0_beginItem 47 = .ok (.aload_n 1, 1) := by decide +kernel
theorem dX0_beginItem_48 : decode cX0_beginItem 48 = .ok (.getfield 77, 3) := by decide +kernel
theorem dX0_beginItem_51 : decode cX0_beginItem 51 = .ok (.invokevirtual 71, 3) := by decide +kernel
theorem dX0_beginItem_54 : decode cX0_beginItem 54 = .ok (.ifCond .ne 7, 3) := by decide +kernel
theorem dX0_beginItem_57 : decode cX0_beginItem 57 = .ok (.iconst 1, 1) := by decide +kernel
theorem dX0_beginItem_58 : decode cX0_beginItem 58 = .ok (.goto 4, 3) := by decide +kernel
theorem dX0_beginItem_61 : decode cX0_beginItem 61 = .ok (.iconst 0, 1) := by decide +kernel
theorem dX0_beginItem_62 : decode cX0_beginItem 62 = .ok (.istore_n 3, 1) := by decide +kernel
theorem dX0_beginItem_63 : decode cX0_beginItem 63 = .ok (.iload_n 3, 1) := by decide +kernel
theorem dX0_beginItem_64 : decode cX0_beginItem 64 = .ok (.ifCond .eq 21, 3) := by decide +kernel
theorem dX0_beginItem_67 : decode cX0_beginItem 67 = .ok (.aload_n 0, 1) := by decide +kernel
theorem dX0_beginItem_68 : decode cX0_beginItem 68 = .ok (.aload_n 0, 1) := by decide +kernel
theorem dX0_beginItem_69 : decode cX0_beginItem 69 = .ok (.getfield 34, 3) := by decide +kernel
theorem dX0_beginItem_72 : decode cX0_beginItem 72 = .ok (.putfield 28, 3) := by decide +kernel
theorem dX0_beginItem_75 : decode cX0_beginItem 75 = .ok (.aload_n 0, 1) := by decide +kernel
theorem dX0_beginItem_76 : decode cX0_beginItem 76 = .ok (.iconst 0, 1) := by decide +kernel
theorem dX0_beginItem_77 : decode cX0_beginItem 77 = .ok (.putfield 47, 3) := by decide +kernel
theorem dX0_beginItem_80 : decode cX0_beginItem 80 = .ok (.aload_n 0, 1) := by decide +kernel
theorem dX0_beginItem_81 : decode cX0_beginItem 81 = .ok (.iconst 0, 1) := by decide +kernel
theorem dX0_beginItem_82 : decode cX0_beginItem 82 = .ok (.putfield 80, 3) := by decide +kernel
theorem dX0_beginItem_85 : decode cX0_beginItem 85 = .ok (.iload_n 3, 1) := by decide +kernel
theorem dX0_beginItem_86 : decode cX0_beginItem 86 = .ok (.ireturn, 1) := by decide +kernel
theorem dX0_numbersAhead_0 : decode cX0_numbersAhead 0 = .ok (.aload_n 0, 1) := by decide +kernel
theorem dX0_numbersAhead_1 : decode cX0_numbersAhead 1 = .ok (.getfield 28, 3) := by decide +kernel
theorem dX0_numbersAhead_4 : decode cX0_numbersAhead 4 = .ok (.iconst 5, 1) := by decide +kernel
theorem dX0_numbersAhead_5 : decode cX0_numbersAhead 5 = .ok (.if_icmp .ne 5, 3) := by decide +kernel
theorem dX0_numbersAhead_8 : decode cX0_numbersAhead 8 = .ok (.iconst 3, 1) := by decide +kernel
theorem dX0_numbersAhead_9 : decode cX0_numbersAhead 9 = .ok (.ireturn, 1) := by decide +kernel
theorem dX0_numbersAhead_10 : decode cX0_numbersAhead 10 = .ok (.aload_n 0, 1) := by decide +kernel
theorem dX0_numbersAhead_11 : decode cX0_numbersAhead 11 = .ok (.getfield 28, 3) := by decide +kernel
theorem dX0_numbersAhead_14 : decode cX0_numbersAhead 14 = .ok (.bipush 6, 2) := by decide +kernel
theorem dX0_numbersAhead_16 : decode cX0_numbersAhead 16 = .ok (.if_icmp .ne 7, 3) := by decide +kernel
theorem dX0_numbersAhead_19 : decode cX0_numbersAhead 19 = .ok (.iconst 1, 1) := by decide +kernel
theorem dX0_numbersAhead_20 : decode cX0_numbersAhead 20 = .ok (.goto 4, 3) := by decide +kernel
theorem dX0_numbersAhead_23 : decode cX0_numbersAhead 23 = .ok (.iconst 0, 1) := by decide +kernel
theorem dX0_numbersAhead_24 : decode cX0_numbersAhead 24 = .ok (.ireturn, 1) := by decide +kernel
theorem dX0_mostHere_0 : decode cX0_mostHere 0 = .ok (.aload_n 0, 1) := by decide +kernel
theorem dX0_mostHere_1 : decode cX0_mostHere 1 = .ok (.getfield 28, 3) := by decide +kernel
theorem dX0_mostHere_4 : decode cX0_mostHere 4 = .ok (.iconst 5, 1) := by decide +kernel
theorem dX0_mostHere_5 : decode cX0_mostHere 5 = .ok (.if_icmp .ne 12, 3) := by decide +kernel
theorem dX0_mostHere_8 : decode cX0_mostHere 8 = .ok (.aload_n 0, 1) := by decide +kernel
theorem dX0_mostHere_9 : decode cX0_mostHere 9 = .ok (.getfield 47, 3) := by decide +kernel
theorem dX0_mostHere_12 : decode cX0_mostHere 12 = .ok (.ifCond .ne 5, 3) := by decide +kernel
theorem dX0_mostHere_15 : decode cX0_mostHere 15 = .ok (.iconst 5, 1) := by decide +kernel
theorem dX0_mostHere_16 : decode cX0_mostHere 16 = .ok (.ireturn, 1) := by decide +kernel
theorem dX0_mostHere_17 : decode cX0_mostHere 17 = .ok (.aload_n 0, 1) := by decide +kernel
theorem dX0_mostHere_18 : decode cX0_mostHere 18 = .ok (.getfield 47, 3) := by decide +kernel
theorem dX0_mostHere_21 : decode cX0_mostHere 21 = .ok (.aload_n 0, 1) := by decide +kernel
theorem dX0_mostHere_22 : decode cX0_mostHere 22 = .ok (.invokevirtual 50, 3) := by decide +kernel
theorem dX0_mostHere_25 : decode cX0_mostHere 25 = .ok (.iconst 1, 1) := by decide +kernel
theorem dX0_mostHere_26 : decode cX0_mostHere 26 = .ok (.isub, 1) := by decide +kernel
theorem dX0_mostHere_27 : decode cX0_mostHere 27 = .ok (.if_icmp .ne 8, 3) := by decide +kernel
theorem dX0_mostHere_30 : decode cX0_mostHere 30 = .ok (.bipush 20, 2) := by decide +kernel
theorem dX0_mostHere_32 : decode cX0_mostHere 32 = .ok (.goto 5, 3) := by decide +kernel
theorem dX0_mostHere_35 : decode cX0_mostHere 35 = .ok (.bipush 7, 2) := by decide +kernel
theorem dX0_mostHere_37 : decode cX0_mostHere 37 = .ok (.ireturn, 1) := by decide +kernel
theorem dX0_takeNumber_0 : decode cX0_takeNumber 0 = .ok (.aload_n 0, 1) := by decide +kernel
theorem dX0_takeNumber_1 : decode cX0_takeNumber 1 = .ok (.getfield 47, 3) := by decide +kernel
theorem dX0_takeNumber_4 : decode cX0_takeNumber 4 = .ok (.aload_n 0, 1) := by decide +kernel
theorem dX0_takeNumber_5 : decode cX0_takeNumber 5 = .ok (.invokevirtual 50, 3) := by decide +kernel
theorem dX0_takeNumber_8 : decode cX0_takeNumber 8 = .ok (.if_icmp .lt 21, 3) := by decide +kernel
theorem dX0_takeNumber_11 : decode cX0_takeNumber 11 = .ok (.aload_n 0, 1) := by decide +kernel
theorem dX0_takeNumber_12 : decode cX0_takeNumber 12 = .ok (.dup, 1) := by decide +kernel
theorem dX0_takeNumber_13 : decode cX0_takeNumber 13 = .ok (.getfield 80, 3) := by decide +kernel
theorem dX0_takeNumber_16 : decode cX0_takeNumber 16 = .ok (.iconst 1, 1) := by decide +kernel
theorem dX0_takeNumber_17 : decode cX0_takeNumber 17 = .ok (.aload_n 0, 1) := by decide +kernel
theorem dX0_takeNumber_18 : decode cX0_takeNumber 18 = .ok (.getfield 58, 3) := by decide +kernel
theorem dX0_takeNumber_21 : decode cX0_takeNumber 21 = .ok (.ishl, 1) := by decide +kernel
theorem dX0_takeNumber_22 : decode cX0_takeNumber 22 = .ok (.ior, 1) := by decide +kernel
theorem dX0_takeNumber_23 : decode cX0_takeNumber 23 = .ok (.putfield 80, 3) := by decide +kernel
theorem dX0_takeNumber_26 : decode cX0_takeNumber 26 = .ok (.goto 27, 3) := by decide +kernel
theorem dX0_takeNumber_29 : decode cX0_takeNumber 29 = .ok (.aload_n 0, 1) := by decide +kernel
theorem dX0_takeNumber_30 : decode cX0_takeNumber 30 = .ok (.aload_n 0, 1) := by decide +kernel
theorem dX0_takeNumber_31 : decode cX0_takeNumber 31 = .ok (.getfield 83, 3) := by decide +kernel
theorem dX0_takeNumber_34 : decode cX0_takeNumber 34 = .ok (.putfield 86, 3) := by decide +kernel
theorem dX0_takeNumber_37 : decode cX0_takeNumber 37 = .ok (.aload_n 0, 1) := by decide +kernel
theorem dX0_takeNumber_38 : decode cX0_takeNumber 38 = .ok (.aload_n 0, 1) := by decide +kernel
theorem dX0_takeNumber_39 : decode cX0_takeNumber 39 = .ok (.getfield 89, 3) := by decide +kernel
theorem dX0_takeNumber_42 : decode cX0_takeNumber 42 = .ok (.putfield 83, 3) := by decide +kernel
theorem dX0_takeNumber_45 : decode cX0_takeNumber 45 = .ok (.aload_n 0, 1) := by decide +kernel
theorem dX0_takeNumber_46 : decode cX0_takeNumber 46 = .ok (.aload_n 0, 1) := by decide +kernel
theorem dX0_takeNumber_47 : decode cX0_takeNumber 47 = .ok (.getfield 58, 3) := by decide +kernel
theorem dX0_takeNumber_50 : decode cX0_takeNumber 50 = .ok (.putfield 89, 3) := by decide +kernel
theorem dX0_takeNumber_53 : decode cX0_takeNumber 53 = .ok (.aload_n 0, 1) := by decide +kernel
theorem dX0_takeNumber_54 : decode cX0_takeNumber 54 = .ok (.dup, 1) := by decide +kernel
theorem dX0_takeNumber_55 : decode cX0_takeNumber 55 = .ok (.getfield 47, 3) := by decide +kernel
theorem dX0_takeNumber_58 : decode cX0_takeNumber 58 = .ok (.iconst 1, 1) := by decide +kernel
theorem dX0_takeNumber_59 : decode cX0_takeNumber 59 = .ok (.iadd, 1) := by decide +kernel
theorem dX0_takeNumber_60 : decode cX0_takeNumber 60 = .ok (.putfield 47, 3) := by decide +kernel
theorem dX0_takeNumber_63 : decode cX0_takeNumber 63 = .ok (.return_, 1) := by decide +kernel
theorem dX0_endItem_0 : decode cX0_endItem 0 = .ok (.aload_n 0, 1) := by decide +kernel
theorem dX0_endItem_1 : decode cX0_endItem 1 = .ok (.getfield 28, 3) := by decide +kernel
theorem dX0_endItem_4 : decode cX0_endItem 4 = .ok (.iconst 5, 1) := by decide +kernel
theorem dX0_endItem_5 : decode cX0_endItem 5 = .ok (.if_icmp .ne 29, 3) := by decide +kernel
theorem dX0_endItem_8 : decode cX0_endItem 8 = .ok (.aload_n 1, 1) := by decide +kernel
theorem dX0_endItem_9 : decode cX0_endItem 9 = .ok (.getfield 67, 3) := by decide +kernel
theorem dX0_endItem_12 : decode cX0_endItem 12 = .ok (.aload_n 0, 1) := by decide +kernel
theorem dX0_endItem_13 : decode cX0_endItem 13 = .ok (.getfield 86, 3) := by decide +kernel
theorem dX0_endItem_16 : decode cX0_endItem 16 = .ok (.aload_n 0, 1) := by decide +kernel
theorem dX0_endItem_17 : decode cX0_endItem 17 = .ok (.getfield 80, 3) := by decide +kernel
theorem dX0_endItem_20 : decode cX0_endItem 20 = .ok (.aload_n 0, 1) := by decide +kernel
theorem dX0_endItem_21 : decode cX0_endItem 21 = .ok (.getfield 83, 3) := by decide +kernel
theorem dX0_endItem_24 : decode cX0_endItem 24 = .ok (.aload_n 0, 1) := by decide +kernel
theorem dX0_endItem_25 : decode cX0_endItem 25 = .ok (.getfield 89, 3) := by decide +kernel
theorem dX0_endItem_28 : decode cX0_endItem 28 = .ok (.invokevirtual 92, 3) := by decide +kernel
theorem dX0_endItem_31 : decode cX0_endItem 31 = .ok (.goto 40, 3) := by decide +kernel
theorem dX0_endItem_34 : decode cX0_endItem 34 = .ok (.aload_n 0, 1) := by decide +kernel
theorem dX0_endItem_35 : decode cX0_endItem 35 = .ok (.getfield 28, 3) := by decide +kernel
theorem dX0_endItem_38 : decode cX0_endItem 38 = .ok (.bipush 6, 2) := by decide +kernel
theorem dX0_endItem_40 : decode cX0_endItem 40 = .ok (.if_icmp .ne 23, 3) := by decide +kernel
theorem dX0_endItem_43 : decode cX0_endItem 43 = .ok (.aload_n 1, 1) := by decide +kernel
theorem dX0_endItem_44 : decode cX0_endItem 44 = .ok (.getfield 77, 3) := by decide +kernel
theorem dX0_endItem_47 : decode cX0_endItem 47 = .ok (.aload_n 0, 1) := by decide +kernel
theorem dX0_endItem_48 : decode cX0_endItem 48 = .ok (.getfield 80, 3) := by decide +kernel
theorem dX0_endItem_51 : decode cX0_endItem 51 = .ok (.aload_n 0, 1) := by decide +kernel
theorem dX0_endItem_52 : decode cX0_endItem 52 = .ok (.getfield 89, 3) := by decide +kernel
theorem dX0_endItem_55 : decode cX0_endItem 55 = .ok (.iconst 0, 1) := by decide +kernel
theorem dX0_endItem_56 : decode cX0_endItem 56 = .ok (.iconst 0, 1) := by decide +kernel
theorem dX0_endItem_57 : decode cX0_endItem 57 = .ok (.invokevirtual 92, 3) := by decide +kernel
theorem dX0_endItem_60 : decode cX0_endItem 60 = .ok (.goto 11, 3) := by decide +kernel
theorem dX0_endItem_63 : decode cX0_endItem 63 = .ok (.aload_n 1, 1) := by decide +kernel
theorem dX0_endItem_64 : decode cX0_endItem 64 = .ok (.aload_n 0, 1) := by decide +kernel
theorem dX0_endItem_65 : decode cX0_endItem 65 = .ok (.getfield 80, 3) := by decide +kernel
theorem dX0_endItem_68 : decode cX0_endItem 68 = .ok (.putfield 96, 3) := by decide +kernel
theorem dX0_endItem_71 : decode cX0_endItem 71 = .ok (.aload_n 0, 1) := by decide +kernel
theorem dX0_endItem_72 : decode cX0_endItem 72 = .ok (.iconst (-1), 1) := by decide +kernel
theorem dX0_endItem_73 : decode cX0_endItem 73 = .ok (.putfield 28, 3) := by decide +kernel
theorem dX0_endItem_76 : decode cX0_endItem 76 = .ok (.return_, 1) := by decide +kernel
theorem dX0_advance_0 : decode cX0_advance 0 = .ok (.aload_n 0, 1) := by decide +kernel
theorem dX0_advance_1 : decode cX0_advance 1 = .ok (.getfield 25, 3) := by decide +kernel
theorem dX0_advance_4 : decode cX0_advance 4 = .ok (.aload_n 0, 1) := by decide +kernel
theorem dX0_advance_5 : decode cX0_advance 5 = .ok (.getfield 15, 3) := by decide +kernel
theorem dX0_advance_8 : decode cX0_advance 8 = .ok (.if_icmp .ge 29, 3) := by decide +kernel
theorem dX0_advance_11 : decode cX0_advance 11 = .ok (.aload_n 0, 1) := by decide +kernel
theorem dX0_advance_12 : decode cX0_advance 12 = .ok (.aload_n 0, 1) := by decide +kernel
theorem dX0_advance_13 : decode cX0_advance 13 = .ok (.getfield 25, 3) := by decide +kernel
theorem dX0_advance_16 : decode cX0_advance 16 = .ok (.invokevirtual 99, 3) := by decide +kernel
theorem dX0_advance_19 : decode cX0_advance 19 = .ok (.bipush 32, 2) := by decide +kernel
theorem dX0_advance_21 : decode cX0_advance 21 = .ok (.if_icmp .ne 16, 3) := by decide +kernel
theorem dX0_advance_24 : decode cX0_advance 24 = .ok (.aload_n 0, 1) := by decide +kernel
theorem dX0_advance_25 : decode cX0_advance 25 = .ok (.dup, 1) := by decide +kernel
theorem dX0_advance_26 : decode cX0_advance 26 = .ok (.getfield 25, 3) := by decide +kernel
theorem dX0_advance_29 : decode cX0_advance 29 = .ok (.iconst 1, 1) := by decide +kernel
theorem dX0_advance_30 : decode cX0_advance 30 = .ok (.iadd, 1) := by decide +kernel
theorem dX0_advance_31 : decode cX0_advance 31 = .ok (.putfield 25, 3) := by decide +kernel
theorem dX0_advance_34 : decode cX0_advance 34 = .ok (.goto (-34), 3) := by decide +kernel
theorem dX0_advance_37 : decode cX0_advance 37 = .ok (.aload_n 0, 1) := by decide +kernel
theorem dX0_advance_38 : decode cX0_advance 38 = .ok (.aload_n 0, 1) := by decide +kernel
theorem dX0_advance_39 : decode cX0_advance 39 = .ok (.getfield 25, 3) := by decide +kernel
theorem dX0_advance_42 : decode cX0_advance 42 = .ok (.putfield 41, 3) := by decide +kernel
theorem dX0_advance_45 : decode cX0_advance 45 = .ok (.aload_n 0, 1) := by decide +kernel
theorem dX0_advance_46 : decode cX0_advance 46 = .ok (.aload_n 0, 1) := by decide +kernel
theorem dX0_advance_47 : decode cX0_advance 47 = .ok (.getfield 25, 3) := by decide +kernel
theorem dX0_advance_50 : decode cX0_advance 50 = .ok (.invokevirtual 99, 3) := by decide +kernel
theorem dX0_advance_53 : decode cX0_advance 53 = .ok (.istore_n 1, 1) := by decide +kernel
theorem dX0_advance_54 : decode cX0_advance 54 = .ok (.iload_n 1, 1) := by decide +kernel
theorem dX0_advance_55 : decode cX0_advance 55 = .ok (.iconst (-1), 1) := by decide +kernel
theorem dX0_advance_56 : decode cX0_advance 56 = .ok (.if_icmp .ne 11, 3) := by decide +kernel
theorem dX0_advance_59 : decode cX0_advance 59 = .ok (.aload_n 0, 1) := by decide +kernel
theorem dX0_advance_60 : decode cX0_advance 60 = .ok (.iconst 0, 1) := by decide +kernel
theorem dX0_advance_61 : decode cX0_advance 61 = .ok (.putfield 34, 3) := by decide +kernel
theorem dX0_advance_64 : decode cX0_advance 64 = .ok (.goto 56, 3) := by decide +kernel
theorem dX0_advance_67 : decode cX0_advance 67 = .ok (.iload_n 1, 1) := by decide +kernel
theorem dX0_advance_68 : decode cX0_advance 68 = .ok (.invokestatic 103, 3) := by decide +kernel
theorem dX0_advance_71 : decode cX0_advance 71 = .ok (.ifCond .eq 10, 3) := by decide +kernel
theorem dX0_advance_74 : decode cX0_advance 74 = .ok (.aload_n 0, 1) := by decide +kernel
theorem dX0_advance_75 : decode cX0_advance 75 = .ok (.invokevirtual 107, 3) := by decide +kernel
theorem dX0_advance_78 : decode cX0_advance 78 = .ok (.goto 42, 3) := by decide +kernel
theorem dX0_advance_81 : decode cX0_advance 81 = .ok (.iload_n 1, 1) := by decide +kernel
theorem dX0_advance_82 : decode cX0_advance 82 = .ok (.invokestatic 110, 3) := by decide +kernel
theorem dX0_advance_85 : decode cX0_advance 85 = .ok (.ifCond .eq 10, 3) := by decide +kernel
theorem dX0_advance_88 : decode cX0_advance 88 = .ok (.aload_n 0, 1) := by decide +kernel
theorem dX0_advance_89 : decode cX0_advance 89 = .ok (.invokevirtual 113, 3) := by decide +kernel
theorem dX0_advance_92 : decode cX0_advance 92 = .ok (.goto 28, 3) := by decide +kernel
theorem dX0_advance_95 : decode cX0_advance 95 = .ok (.aload_n 0, 1) := by decide +kernel
theorem dX0_advance_96 : decode cX0_advance 96 = .ok (.dup, 1) := by decide +kernel
theorem dX0_advance_97 : decode cX0_advance 97 = .ok (.getfield 25, 3) := by decide +kernel
theorem dX0_advance_100 : decode cX0_advance 100 = .ok (.iconst 1, 1) := by decide +kernel
theorem dX0_advance_101 : decode cX0_advance 101 = .ok (.iadd, 1) := by decide +kernel
theorem dX0_advance_102 : decode cX0_advance 102 = .ok (.putfield 25, 3) := by decide +kernel
theorem dX0_advance_105 : decode cX0_advance 105 = .ok (.aload_n 0, 1) := by decide +kernel
theorem dX0_advance_106 : decode cX0_advance 106 = .ok (.iload_n 1, 1) := by decide +kernel
theorem dX0_advance_107 : decode cX0_advance 107 = .ok (.bipush 59, 2) := by decide +kernel
theorem dX0_advance_109 : decode cX0_advance 109 = .ok (.if_icmp .ne 7, 3) := by decide +kernel
theorem dX0_advance_112 : decode cX0_advance 112 = .ok (.iconst 2, 1) := by decide +kernel
theorem dX0_advance_113 : decode cX0_advance 113 = .ok (.goto 4, 3) := by decide +kernel
theorem dX0_advance_116 : decode cX0_advance 116 = .ok (.iconst 1, 1) := by decide +kernel
theorem dX0_advance_117 : decode cX0_advance 117 = .ok (.putfield 34, 3) := by decide +kernel
theorem dX0_advance_120 : decode cX0_advance 120 = .ok (.return_, 1) := by decide +kernel
theorem dX0_advanceOverWord_0 : decode cX0_advanceOverWord 0 = .ok (.aload_n 0, 1) := by decide +kernel
theorem dX0_advanceOverWord_1 : decode cX0_advanceOverWord 1 = .ok (.getfield 25, 3) := by decide +kernel
theorem dX0_advanceOverWord_4 : decode cX0_advanceOverWord 4 = .ok (.aload_n 0, 1) := by decide +kernel
theorem dX0_advanceOverWord_5 : decode cX0_advanceOverWord 5 = .ok (.getfield 15, 3) := by decide +kernel
theorem dX0_advanceOverWord_8 : decode cX0_advanceOverWord 8 = .ok (.if_icmp .ge 30, 3) := by decide +kernel
theorem dX0_advanceOverWord_11 : decode cX0_advanceOverWord 11 = .ok (.aload_n 0, 1) := by decide +kernel
theorem dX0_advanceOverWord_12 : decode cX0_advanceOverWord 12 = .ok (.aload_n 0, 1) := by decide +kernel
theorem dX0_advanceOverWord_13 : decode cX0_advanceOverWord 13 = .ok (.getfield 25, 3) := by decide +kernel
theorem dX0_advanceOverWord_16 : decode cX0_advanceOverWord 16 = .ok (.invokevirtual 99, 3) := by decide +kernel
theorem dX0_advanceOverWord_19 : decode cX0_advanceOverWord 19 = .ok (.invokestatic 103, 3) := by decide +kernel
theorem dX0_advanceOverWord_22 : decode cX0_advanceOverWord 22 = .ok (.ifCond .eq 16, 3) := by decide +kernel
theorem dX0_advanceOverWord_25 : decode cX0_advanceOverWord 25 = .ok (.aload_n 0, 1) := by decide +kernel
theorem dX0_advanceOverWord_26 : decode cX0_advanceOverWord 26 = .ok (.dup, 1) := by decide +kernel
theorem dX0_advanceOverWord_27 : decode cX0_advanceOverWord 27 = .ok (.getfield 25, 3) := by decide +kernel
theorem dX0_advanceOverWord_30 : decode cX0_advanceOverWord 30 = .ok (.iconst 1, 1) := by decide +kernel
theorem dX0_advanceOverWord_31 : decode cX0_advanceOverWord 31 = .ok (.iadd, 1) := by decide +kernel
theorem dX0_advanceOverWord_32 : decode cX0_advanceOverWord 32 = .ok (.putfield 25, 3) := by decide +kernel
theorem dX0_advanceOverWord_35 : decode cX0_advanceOverWord 35 = .ok (.goto (-35), 3) := by decide +kernel
theorem dX0_advanceOverWord_38 : decode cX0_advanceOverWord 38 = .ok (.aload_n 0, 1) := by decide +kernel
theorem dX0_advanceOverWord_39 : decode cX0_advanceOverWord 39 = .ok (.ldc 116, 2) := by decide +kernel
theorem dX0_advanceOverWord_41 : decode cX0_advanceOverWord 41 = .ok (.invokevirtual 118, 3) := by decide +kernel
theorem dX0_advanceOverWord_44 : decode cX0_advanceOverWord 44 = .ok (.ifCond .eq 11, 3) := by decide +kernel
theorem dX0_advanceOverWord_47 : decode cX0_advanceOverWord 47 = .ok (.aload_n 0, 1) := by decide +kernel
theorem dX0_advanceOverWord_48 : decode cX0_advanceOverWord 48 = .ok (.iconst 4, 1) := by decide +kernel
theorem dX0_advanceOverWord_49 : decode cX0_advanceOverWord 49 = .ok (.putfield 34, 3) := by decide +kernel
theorem dX0_advanceOverWord_52 : decode cX0_advanceOverWord 52 = .ok (.goto 43, 3) := by decide +kernel
theorem dX0_advanceOverWord_55 : decode cX0_advanceOverWord 55 = .ok (.aload_n 0, 1) := by decide +kernel
theorem dX0_advanceOverWord_56 : decode cX0_advanceOverWord 56 = .ok (.ldc 122, 2) := by decide +kernel
theorem dX0_advanceOverWord_58 : decode cX0_advanceOverWord 58 = .ok (.invokevirtual 118, 3) := by decide +kernel
theorem dX0_advanceOverWord_61 : decode cX0_advanceOverWord 61 = .ok (.ifCond .eq 11, 3) := by decide +kernel
theorem dX0_advanceOverWord_64 : decode cX0_advanceOverWord 64 = .ok (.aload_n 0, 1) := by decide +kernel
theorem dX0_advanceOverWord_65 : decode cX0_advanceOverWord 65 = .ok (.iconst 5, 1) := by decide +kernel
theorem dX0_advanceOverWord_66 : decode cX0_advanceOverWord 66 = .ok (.putfield 34, 3) := by decide +kernel
theorem dX0_advanceOverWord_69 : decode cX0_advanceOverWord 69 = .ok (.goto 26, 3) := by decide +kernel
theorem dX0_advanceOverWord_72 : decode cX0_advanceOverWord 72 = .ok (.aload_n 0, 1) := by decide +kernel
theorem dX0_advanceOverWord_73 : decode cX0_advanceOverWord 73 = .ok (.ldc 124, 2) := by decide +kernel
theorem dX0_advanceOverWord_75 : decode cX0_advanceOverWord 75 = .ok (.invokevirtual 118, 3) := by decide +kernel
theorem dX0_advanceOverWord_78 : decode cX0_advanceOverWord 78 = .ok (.ifCond .eq 12, 3) := by decide +kernel
theorem dX0_advanceOverWord_81 : decode cX0_advanceOverWord 81 = .ok (.aload_n 0, 1) := by decide +kernel
theorem dX0_advanceOverWord_82 : decode cX0_advanceOverWord 82 = .ok (.bipush 6, 2) := by decide +kernel
theorem dX0_advanceOverWord_84 : decode cX0_advanceOverWord 84 = .ok (.putfield 34, 3) := by decide +kernel
theorem dX0_advanceOverWord_87 : decode cX0_advanceOverWord 87 = .ok (.goto 8, 3) := by decide +kernel
theorem dX0_advanceOverWord_90 : decode cX0_advanceOverWord 90 = .ok (.aload_n 0, 1) := by decide +kernel
theorem dX0_advanceOverWord_91 : decode cX0_advanceOverWord 91 = .ok (.iconst 1, 1) := by decide +kernel
theorem dX0_advanceOverWord_92 : decode cX0_advanceOverWord 92 = .ok (.putfield 34, 3) := by decide +kernel
theorem dX0_advanceOverWord_95 : decode cX0_advanceOverWord 95 = .ok (.return_, 1) := by decide +kernel
theorem dX0_advanceOverFigures_0 : decode cX0_advanceOverFigures 0 = .ok (.aload_n 0, 1) := by decide +kernel
theorem dX0_advanceOverFigures_1 : decode cX0_advanceOverFigures 1 = .ok (.iconst 0, 1) := by decide +kernel
theorem dX0_advanceOverFigures_2 : decode cX0_advanceOverFigures 2 = .ok (.putfield 58, 3) := by decide +kernel
theorem dX0_advanceOverFigures_5 : decode cX0_advanceOverFigures 5 = .ok (.aload_n 0, 1) := by decide +kernel
theorem dX0_advanceOverFigures_6 : decode cX0_advanceOverFigures 6 = .ok (.getfield 25, 3) := by decide +kernel
theorem dX0_advanceOverFigures_9 : decode cX0_advanceOverFigures 9 = .ok (.aload_n 0, 1) := by decide +kernel
theorem dX0_advanceOverFigures_10 : decode cX0_advanceOverFigures 10 = .ok (.getfield 15, 3) := by decide +kernel
theorem dX0_advanceOverFigures_13 : decode cX0_advanceOverFigures 13 = .ok (.if_icmp .ge 66, 3) := by decide +kernel
theorem dX0_advanceOverFigures_16 : decode cX0_advanceOverFigures 16 = .ok (.aload_n 0, 1) := by decide +kernel
theorem dX0_advanceOverFigures_17 : decode cX0_advanceOverFigures 17 = .ok (.aload_n 0, 1) := by decide +kernel
theorem dX0_advanceOverFigures_18 : decode cX0_advanceOverFigures 18 = .ok (.getfield 25, 3) := by decide +kernel
theorem dX0_advanceOverFigures_21 : decode cX0_advanceOverFigures 21 = .ok (.invokevirtual 99, 3) := by decide +kernel
theorem dX0_advanceOverFigures_24 : decode cX0_advanceOverFigures 24 = .ok (.invokestatic 110, 3) := by decide +kernel
theorem dX0_advanceOverFigures_27 : decode cX0_advanceOverFigures 27 = .ok (.ifCond .eq 52, 3) := by decide +kernel
theorem dX0_advanceOverFigures_30 : decode cX0_advanceOverFigures 30 = .ok (.aload_n 0, 1) := by decide +kernel
theorem dX0_advanceOverFigures_31 : decode cX0_advanceOverFigures 31 = .ok (.getfield 25, 3) := by decide +kernel
theorem dX0_advanceOverFigures_34 : decode cX0_advanceOverFigures 34 = .ok (.aload_n 0, 1) := by decide +kernel
theorem dX0_advanceOverFigures_35 : decode cX0_advanceOverFigures 35 = .ok (.getfield 41, 3) := by decide +kernel
theorem dX0_advanceOverFigures_38 : decode cX0_advanceOverFigures 38 = .ok (.isub, 1) := by decide +kernel
theorem dX0_advanceOverFigures_39 : decode cX0_advanceOverFigures 39 = .ok (.iconst 2, 1) := by decide +kernel
theorem dX0_advanceOverFigures_40 : decode cX0_advanceOverFigures 40 = .ok (.if_icmp .ge 26, 3) := by decide +kernel
theorem dX0_advanceOverFigures_43 : decode cX0_advanceOverFigures 43 = .ok (.aload_n 0, 1) := by decide +kernel
theorem dX0_advanceOverFigures_44 : decode cX0_advanceOverFigures 44 = .ok (.bipush 10, 2) := by decide +kernel
theorem dX0_advanceOverFigures_46 : decode cX0_advanceOverFigures 46 = .ok (.aload_n 0, 1) := by decide +kernel
theorem dX0_advanceOverFigures_47 : decode cX0_advanceOverFigures 47 = .ok (.getfield 58, 3) := by decide +kernel
theorem dX0_advanceOverFigures_50 : decode cX0_advanceOverFigures 50 = .ok (.imul, 1) := by decide +kernel
theorem dX0_advanceOverFigures_51 : decode cX0_advanceOverFigures 51 = .ok (.aload_n 0, 1) := by decide +kernel
theorem dX0_advanceOverFigures_52 : decode cX0_advanceOverFigures 52 = .ok (.aload_n 0, 1) := by decide +kernel
theorem dX0_advanceOverFigures_53 : decode cX0_advanceOverFigures 53 = .ok (.getfield 25, 3) := by decide +kernel
theorem dX0_advanceOverFigures_56 : decode cX0_advanceOverFigures 56 = .ok (.invokevirtual 99, 3) := by decide +kernel
theorem dX0_advanceOverFigures_59 : decode cX0_advanceOverFigures 59 = .ok (.iadd, 1) := by decide +kernel
theorem dX0_advanceOverFigures_60 : decode cX0_advanceOverFigures 60 = .ok (.bipush 48, 2) := by decide +kernel
theorem dX0_advanceOverFigures_62 : decode cX0_advanceOverFigures 62 = .ok (.isub, 1) := by decide +kernel
theorem dX0_advanceOverFigures_63 : decode cX0_advanceOverFigures 63 = .ok (.putfield 58, 3) := by decide +kernel
theorem dX0_advanceOverFigures_66 : decode cX0_advanceOverFigures 66 = .ok (.aload_n 0, 1) := by decide +kernel
theorem dX0_advanceOverFigures_67 : decode cX0_advanceOverFigures 67 = .ok (.dup, 1) := by decide +kernel
theorem dX0_advanceOverFigures_68 : decode cX0_advanceOverFigures 68 = .ok (.getfield 25, 3) := by decide +kernel
theorem dX0_advanceOverFigures_71 : decode cX0_advanceOverFigures 71 = .ok (.iconst 1, 1) := by decide +kernel
theorem dX0_advanceOverFigures_72 : decode cX0_advanceOverFigures 72 = .ok (.iadd, 1) := by decide +kernel
theorem dX0_advanceOverFigures_73 : decode cX0_advanceOverFigures 73 = .ok (.putfield 25, 3) := by decide +kernel
theorem dX0_advanceOverFigures_76 : decode cX0_advanceOverFigures 76 = .ok (.goto (-71), 3) := by decide +kernel
theorem dX0_advanceOverFigures_79 : decode cX0_advanceOverFigures 79 = .ok (.aload_n 0, 1) := by decide +kernel
theorem dX0_advanceOverFigures_80 : decode cX0_advanceOverFigures 80 = .ok (.aload_n 0, 1) := by decide +kernel
theorem dX0_advanceOverFigures_81 : decode cX0_advanceOverFigures 81 = .ok (.getfield 25, 3) := by decide +kernel
theorem dX0_advanceOverFigures_84 : decode cX0_advanceOverFigures 84 = .ok (.aload_n 0, 1) := by decide +kernel
theorem dX0_advanceOverFigures_85 : decode cX0_advanceOverFigures 85 = .ok (.getfield 41, 3) := by decide +kernel
theorem dX0_advanceOverFigures_88 : decode cX0_advanceOverFigures 88 = .ok (.isub, 1) := by decide +kernel
theorem dX0_advanceOverFigures_89 : decode cX0_advanceOverFigures 89 = .ok (.iconst 2, 1) := by decide +kernel
theorem dX0_advanceOverFigures_90 : decode cX0_advanceOverFigures 90 = .ok (.if_icmp .gt 7, 3) := by decide +kernel
theorem dX0_advanceOverFigures_93 : decode cX0_advanceOverFigures 93 = .ok (.iconst 3, 1) := by decide +kernel
theorem dX0_advanceOverFigures_94 : decode cX0_advanceOverFigures 94 = .ok (.goto 4, 3) := by decide +kernel
theorem dX0_advanceOverFigures_97 : decode cX0_advanceOverFigures 97 = .ok (.iconst 1, 1) := by decide +kernel
theorem dX0_advanceOverFigures_98 : decode cX0_advanceOverFigures 98 = .ok (.putfield 34, 3) := by decide +kernel
theorem dX0_advanceOverFigures_101 : decode cX0_advanceOverFigures 101 = .ok (.return_, 1) := by decide +kernel
theorem dX0_standsThere_0 : decode cX0_standsThere 0 = .ok (.aload_n 0, 1) := by decide +kernel
theorem dX0_standsThere_1 : decode cX0_standsThere 1 = .ok (.getfield 25, 3) := by decide +kernel
theorem dX0_standsThere_4 : decode cX0_standsThere 4 = .ok (.aload_n 0, 1) := by decide +kernel
theorem dX0_standsThere_5 : decode cX0_standsThere 5 = .ok (.getfield 41, 3) := by decide +kernel
theorem dX0_standsThere_8 : decode cX0_standsThere 8 = .ok (.isub, 1) := by decide +kernel
theorem dX0_standsThere_9 : decode cX0_standsThere 9 = .ok (.aload_n 1, 1) := by decide +kernel
theorem dX0_standsThere_10 : decode cX0_standsThere 10 = .ok (.invokevirtual 126, 3) := by decide +kernel
theorem dX0_standsThere_13 : decode cX0_standsThere 13 = .ok (.if_icmp .eq 5, 3) := by decide +kernel
theorem dX0_standsThere_16 : decode cX0_standsThere 16 = .ok (.iconst 0, 1) := by decide +kernel
theorem dX0_standsThere_17 : decode cX0_standsThere 17 = .ok (.ireturn, 1) := by decide +kernel
theorem dX0_standsThere_18 : decode cX0_standsThere 18 = .ok (.iconst 0, 1) := by decide +kernel
theorem dX0_standsThere_19 : decode cX0_standsThere 19 = .ok (.istore_n 2, 1) := by decide +kernel
theorem dX0_standsThere_20 : decode cX0_standsThere 20 = .ok (.iload_n 2, 1) := by decide +kernel
theorem dX0_standsThere_21 : decode cX0_standsThere 21 = .ok (.aload_n 1, 1) := by decide +kernel
theorem dX0_standsThere_22 : decode cX0_standsThere 22 = .ok (.invokevirtual 126, 3) := by decide +kernel
theorem dX0_standsThere_25 : decode cX0_standsThere 25 = .ok (.if_icmp .ge 29, 3) := by decide +kernel
theorem dX0_standsThere_28 : decode cX0_standsThere 28 = .ok (.aload_n 0, 1) := by decide +kernel
theorem dX0_standsThere_29 : decode cX0_standsThere 29 = .ok (.aload_n 0, 1) := by decide +kernel
theorem dX0_standsThere_30 : decode cX0_standsThere 30 = .ok (.getfield 41, 3) := by decide +kernel
theorem dX0_standsThere_33 : decode cX0_standsThere 33 = .ok (.iload_n 2, 1) := by decide +kernel
theorem dX0_standsThere_34 : decode cX0_standsThere 34 = .ok (.iadd, 1) := by decide +kernel
theorem dX0_standsThere_35 : decode cX0_standsThere 35 = .ok (.invokevirtual 99, 3) := by decide +kernel
theorem dX0_standsThere_38 : decode cX0_standsThere 38 = .ok (.aload_n 1, 1) := by decide +kernel
theorem dX0_standsThere_39 : decode cX0_standsThere 39 = .ok (.iload_n 2, 1) := by decide +kernel
theorem dX0_standsThere_40 : decode cX0_standsThere 40 = .ok (.invokevirtual 130, 3) := by decide +kernel
theorem dX0_standsThere_43 : decode cX0_standsThere 43 = .ok (.if_icmp .eq 5, 3) := by decide +kernel
theorem dX0_standsThere_46 : decode cX0_standsThere 46 = .ok (.iconst 0, 1) := by decide +kernel
theorem dX0_standsThere_47 : decode cX0_standsThere 47 = .ok (.ireturn, 1) := by decide +kernel
theorem dX0_standsThere_48 : decode cX0_standsThere 48 = .ok (.iinc 2 1, 3) := by decide +kernel
theorem dX0_standsThere_51 : decode cX0_standsThere 51 = .ok (.goto (-31), 3) := by decide +kernel
theorem dX0_standsThere_54 : decode cX0_standsThere 54 = .ok (.iconst 1, 1) := by decide +kernel
theorem dX0_standsThere_55 : decode cX0_standsThere 55 = .ok (.ireturn, 1) := by decide +kernel
theorem dX0_byteAt_0 : decode cX0_byteAt 0 = .ok (.iload_n 1, 1) := by decide +kernel
theorem dX0_byteAt_1 : decode cX0_byteAt 1 = .ok (.ifCond .lt 29, 3) := by decide +kernel
theorem dX0_byteAt_4 : decode cX0_byteAt 4 = .ok (.iload_n 1, 1) := by decide +kernel
theorem dX0_byteAt_5 : decode cX0_byteAt 5 = .ok (.aload_n 0, 1) := by decide +kernel
theorem dX0_byteAt_6 : decode cX0_byteAt 6 = .ok (.getfield 15, 3) := by decide +kernel
theorem dX0_byteAt_9 : decode cX0_byteAt 9 = .ok (.if_icmp .ge 21, 3) := by decide +kernel
theorem dX0_byteAt_12 : decode cX0_byteAt 12 = .ok (.iload_n 1, 1) := by decide +kernel
theorem dX0_byteAt_13 : decode cX0_byteAt 13 = .ok (.aload_n 0, 1) := by decide +kernel
theorem dX0_byteAt_14 : decode cX0_byteAt 14 = .ok (.getfield 9, 3) := by decide +kernel
theorem dX0_byteAt_17 : decode cX0_byteAt 17 = .ok (.arraylength, 1) := by decide +kernel
theorem dX0_byteAt_18 : decode cX0_byteAt 18 = .ok (.if_icmp .ge 12, 3) := by decide +kernel
theorem dX0_byteAt_21 : decode cX0_byteAt 21 = .ok (.aload_n 0, 1) := by decide +kernel
theorem dX0_byteAt_22 : decode cX0_byteAt 22 = .ok (.getfield 9, 3) := by decide +kernel
theorem dX0_byteAt_25 : decode cX0_byteAt 25 = .ok (.iload_n 1, 1) := by decide +kernel
theorem dX0_byteAt_26 : decode cX0_byteAt 26 = .ok (.iaload, 1) := by decide +kernel
theorem dX0_byteAt_27 : decode cX0_byteAt 27 = .ok (.goto 4, 3) := by decide +kernel
theorem dX0_byteAt_30 : decode cX0_byteAt 30 = .ok (.iconst (-1), 1) := by decide +kernel
theorem dX0_byteAt_31 : decode cX0_byteAt 31 = .ok (.ireturn, 1) := by decide +kernel
theorem dX0_isLetter_0 : decode cX0_isLetter 0 = .ok (.iload_n 0, 1) := by decide +kernel
theorem dX0_isLetter_1 : decode cX0_isLetter 1 = .ok (.bipush 97, 2) := by decide +kernel
theorem dX0_isLetter_3 : decode cX0_isLetter 3 = .ok (.if_icmp .lt 13, 3) := by decide +kernel
theorem dX0_isLetter_6 : decode cX0_isLetter 6 = .ok (.iload_n 0, 1) := by decide +kernel
theorem dX0_isLetter_7 : decode cX0_isLetter 7 = .ok (.bipush 122, 2) := by decide +kernel
theorem dX0_isLetter_9 : decode cX0_isLetter 9 = .ok (.if_icmp .gt 7, 3) := by decide +kernel
theorem dX0_isLetter_12 : decode cX0_isLetter 12 = .ok (.iconst 1, 1) := by decide +kernel
theorem dX0_isLetter_13 : decode cX0_isLetter 13 = .ok (.goto 4, 3) := by decide +kernel
theorem dX0_isLetter_16 : decode cX0_isLetter 16 = .ok (.iconst 0, 1) := by decide +kernel
theorem dX0_isLetter_17 : decode cX0_isLetter 17 = .ok (.ireturn, 1) := by decide +kernel
theorem dX0_isFigure_0 : decode cX0_isFigure 0 = .ok (.iload_n 0, 1) := by decide +kernel
theorem dX0_isFigure_1 : decode cX0_isFigure 1 = .ok (.bipush 48, 2) := by decide +kernel
theorem dX0_isFigure_3 : decode cX0_isFigure 3 = .ok (.if_icmp .lt 13, 3) := by decide +kernel
theorem dX0_isFigure_6 : decode cX0_isFigure 6 = .ok (.iload_n 0, 1) := by decide +kernel
theorem dX0_isFigure_7 : decode cX0_isFigure 7 = .ok (.bipush 57, 2) := by decide +kernel
theorem dX0_isFigure_9 : decode cX0_isFigure 9 = .ok (.if_icmp .gt 7, 3) := by decide +kernel
theorem dX0_isFigure_12 : decode cX0_isFigure 12 = .ok (.iconst 1, 1) := by decide +kernel
theorem dX0_isFigure_13 : decode cX0_isFigure 13 = .ok (.goto 4, 3) := by decide +kernel
theorem dX0_isFigure_16 : decode cX0_isFigure 16 = .ok (.iconst 0, 1) := by decide +kernel
theorem dX0_isFigure_17 : decode cX0_isFigure 17 = .ok (.ireturn, 1) := by decide +kernel
theorem dX1_init_0 : decode cX1_init 0 = .ok (.aload_n 0, 1) := by decide +kernel
theorem dX1_init_1 : decode cX1_init 1 = .ok (.invokespecial 1, 3) := by decide +kernel
theorem dX1_init_4 : decode cX1_init 4 = .ok (.return_, 1) := by decide +kernel
theorem dX1_allows_0 : decode cX1_allows 0 = .ok (.iload_n 3, 1) := by decide +kernel
theorem dX1_allows_1 : decode cX1_allows 1 = .ok (.ifCond .eq 13, 3) := by decide +kernel
theorem dX1_allows_4 : decode cX1_allows 4 = .ok (.aload_n 0, 1) := by decide +kernel
theorem dX1_allows_5 : decode cX1_allows 5 = .ok (.iload_n 1, 1) := by decide +kernel
theorem dX1_allows_6 : decode cX1_allows 6 = .ok (.iload_n 2, 1) := by decide +kernel
theorem dX1_allows_7 : decode cX1_allows 7 = .ok (.iload_n 3, 1) := by decide +kernel
theorem dX1_allows_8 : decode cX1_allows 8 = .ok (.invokespecial 7, 3) := by decide +kernel
theorem dX1_allows_11 : decode cX1_allows 11 = .ok (.ifCond .eq 7, 3) := by decide +kernel
theorem dX1_allows_14 : decode cX1_allows 14 = .ok (.iconst 1, 1) := by decide +kernel
theorem dX1_allows_15 : decode cX1_allows 15 = .ok (.goto 4, 3) := by decide +kernel
theorem dX1_allows_18 : decode cX1_allows 18 = .ok (.iconst 0, 1) := by decide +kernel
theorem dX1_allows_19 : decode cX1_allows 19 = .ok (.ireturn, 1) := by decide +kernel
theorem dX1_cost_0 : decode cX1_cost 0 = .ok (.aload_n 0, 1) := by decide +kernel
theorem dX1_cost_1 : decode cX1_cost 1 = .ok (.iload_n 1, 1) := by decide +kernel
theorem dX1_cost_2 : decode cX1_cost 2 = .ok (.iload_n 2, 1) := by decide +kernel
theorem dX1_cost_3 : decode cX1_cost 3 = .ok (.invokespecial 11, 3) := by decide +kernel
theorem dX1_cost_6 : decode cX1_cost 6 = .ok (.iconst 2, 1) := by decide +kernel
theorem dX1_cost_7 : decode cX1_cost 7 = .ok (.iadd, 1) := by decide +kernel
theorem dX1_cost_8 : decode cX1_cost 8 = .ok (.ireturn, 1) := by decide +kernel
theorem dX2_init_0 : decode cX2_init 0 = .ok (.aload_n 0, 1) := by decide +kernel
theorem dX2_init_1 : decode cX2_init 1 = .ok (.invokespecial 1, 3) := by decide +kernel
theorem dX2_init_4 : decode cX2_init 4 = .ok (.return_, 1) := by decide +kernel
theorem dX2_allows_0 : decode cX2_allows 0 = .ok (.iload_n 2, 1) := by decide +kernel
theorem dX2_allows_1 : decode cX2_allows 1 = .ok (.iconst 1, 1) := by decide +kernel
theorem dX2_allows_2 : decode cX2_allows 2 = .ok (.if_icmp .ge 13, 3) := by decide +kernel
theorem dX2_allows_5 : decode cX2_allows 5 = .ok (.aload_n 0, 1) := by decide +kernel
theorem dX2_allows_6 : decode cX2_allows 6 = .ok (.iload_n 1, 1) := by decide +kernel
theorem dX2_allows_7 : decode cX2_allows 7 = .ok (.iload_n 2, 1) := by decide +kernel
theorem dX2_allows_8 : decode cX2_allows 8 = .ok (.iload_n 3, 1) := by decide +kernel
theorem dX2_allows_9 : decode cX2_allows 9 = .ok (.invokespecial 7, 3) := by decide +kernel
theorem dX2_allows_12 : decode cX2_allows 12 = .ok (.ifCond .eq 7, 3) := by decide +kernel
theorem dX2_allows_15 : decode cX2_allows 15 = .ok (.iconst 1, 1) := by decide +kernel
theorem dX2_allows_16 : decode cX2_allows 16 = .ok (.goto 4, 3) := by decide +kernel
theorem dX2_allows_19 : decode cX2_allows 19 = .ok (.iconst 0, 1) := by decide +kernel
theorem dX2_allows_20 : decode cX2_allows 20 = .ok (.ireturn, 1) := by decide +kernel
theorem dX3_init_0 : decode cX3_init 0 = .ok (.aload_n 0, 1) := by decide +kernel
theorem dX3_init_1 : decode cX3_init 1 = .ok (.invokespecial 3, 3) := by decide +kernel
theorem dX3_init_4 : decode cX3_init 4 = .ok (.aload_n 0, 1) := by decide +kernel
theorem dX3_init_5 : decode cX3_init 5 = .ok (.aload_n 1, 1) := by decide +kernel
theorem dX3_init_6 : decode cX3_init 6 = .ok (.putfield 9, 3) := by decide +kernel
theorem dX3_init_9 : decode cX3_init 9 = .ok (.aload_n 0, 1) := by decide +kernel
theorem dX3_init_10 : decode cX3_init 10 = .ok (.new 15, 3) := by decide +kernel
theorem dX3_init_13 : decode cX3_init 13 = .ok (.dup, 1) := by decide +kernel
theorem dX3_init_14 : decode cX3_init 14 = .ok (.invokespecial 17, 3) := by decide +kernel
theorem dX3_init_17 : decode cX3_init 17 = .ok (.putfield 18, 3) := by decide +kernel
theorem dX3_init_20 : decode cX3_init 20 = .ok (.aload_n 0, 1) := by decide +kernel
theorem dX3_init_21 : decode cX3_init 21 = .ok (.new 22, 3) := by decide +kernel
theorem dX3_init_24 : decode cX3_init 24 = .ok (.dup, 1) := by decide +kernel
theorem dX3_init_25 : decode cX3_init 25 = .ok (.bipush 6, 2) := by decide +kernel
theorem dX3_init_27 : decode cX3_init 27 = .ok (.iconst 4, 1) := by decide +kernel
theorem dX3_init_28 : decode cX3_init 28 = .ok (.invokespecial 24, 3) := by decide +kernel
theorem dX3_init_31 : decode cX3_init 31 = .ok (.putfield 27, 3) := by decide +kernel
theorem dX3_init_34 : decode cX3_init 34 = .ok (.aload_n 0, 1) := by decide +kernel
theorem dX3_init_35 : decode cX3_init 35 = .ok (.new 22, 3) := by decide +kernel
theorem dX3_init_38 : decode cX3_init 38 = .ok (.dup, 1) := by decide +kernel
theorem dX3_init_39 : decode cX3_init 39 = .ok (.iconst 4, 1) := by decide +kernel
theorem dX3_init_40 : decode cX3_init 40 = .ok (.iconst 2, 1) := by decide +kernel
theorem dX3_init_41 : decode cX3_init 41 = .ok (.invokespecial 24, 3) := by decide +kernel
theorem dX3_init_44 : decode cX3_init 44 = .ok (.putfield 31, 3) := by decide +kernel
theorem dX3_init_47 : decode cX3_init 47 = .ok (.aload_n 0, 1) := by decide +kernel
theorem dX3_init_48 : decode cX3_init 48 = .ok (.new 22, 3) := by decide +kernel
theorem dX3_init_51 : decode cX3_init 51 = .ok (.dup, 1) := by decide +kernel
theorem dX3_init_52 : decode cX3_init 52 = .ok (.bipush 6, 2) := by decide +kernel
theorem dX3_init_54 : decode cX3_init 54 = .ok (.iconst 3, 1) := by decide +kernel
theorem dX3_init_55 : decode cX3_init 55 = .ok (.invokespecial 24, 3) := by decide +kernel
theorem dX3_init_58 : decode cX3_init 58 = .ok (.putfield 34, 3) := by decide +kernel
theorem dX3_init_61 : decode cX3_init 61 = .ok (.aload_n 0, 1) := by decide +kernel
theorem dX3_init_62 : decode cX3_init 62 = .ok (.new 22, 3) := by decide +kernel
theorem dX3_init_65 : decode cX3_init 65 = .ok (.dup, 1) := by decide +kernel
theorem dX3_init_66 : decode cX3_init 66 = .ok (.bipush 6, 2) := by decide +kernel
theorem dX3_init_68 : decode cX3_init 68 = .ok (.iconst 2, 1) := by decide +kernel
theorem dX3_init_69 : decode cX3_init 69 = .ok (.invokespecial 24, 3) := by decide +kernel
theorem dX3_init_72 : decode cX3_init 72 = .ok (.putfield 37, 3) := by decide +kernel
theorem dX3_init_75 : decode cX3_init 75 = .ok (.aload_n 0, 1) := by decide +kernel
theorem dX3_init_76 : decode cX3_init 76 = .ok (.new 22, 3) := by decide +kernel
theorem dX3_init_79 : decode cX3_init 79 = .ok (.dup, 1) := by decide +kernel
theorem dX3_init_80 : decode cX3_init 80 = .ok (.bipush 8, 2) := by decide +kernel
theorem dX3_init_82 : decode cX3_init 82 = .ok (.iconst 3, 1) := by decide +kernel
theorem dX3_init_83 : decode cX3_init 83 = .ok (.invokespecial 24, 3) := by decide +kernel
theorem dX3_init_86 : decode cX3_init 86 = .ok (.putfield 40, 3) := by decide +kernel
theorem dX3_init_89 : decode cX3_init 89 = .ok (.return_, 1) := by decide +kernel
theorem dX3_begin_0 : decode cX3_begin 0 = .ok (.aload_n 0, 1) := by decide +kernel
theorem dX3_begin_1 : decode cX3_begin 1 = .ok (.iload_n 1, 1) := by decide +kernel
theorem dX3_begin_2 : decode cX3_begin 2 = .ok (.putfield 43, 3) := by decide +kernel
theorem dX3_begin_5 : decode cX3_begin 5 = .ok (.aload_n 0, 1) := by decide +kernel
theorem dX3_begin_6 : decode cX3_begin 6 = .ok (.getfield 27, 3) := by decide +kernel
theorem dX3_begin_9 : decode cX3_begin 9 = .ok (.invokevirtual 47, 3) := by decide +kernel
theorem dX3_begin_12 : decode cX3_begin 12 = .ok (.aload_n 0, 1) := by decide +kernel
theorem dX3_begin_13 : decode cX3_begin 13 = .ok (.getfield 31, 3) := by decide +kernel
theorem dX3_begin_16 : decode cX3_begin 16 = .ok (.invokevirtual 47, 3) := by decide +kernel
theorem dX3_begin_19 : decode cX3_begin 19 = .ok (.aload_n 0, 1) := by decide +kernel
theorem dX3_begin_20 : decode cX3_begin 20 = .ok (.getfield 34, 3) := by decide +kernel
theorem dX3_begin_23 : decode cX3_begin 23 = .ok (.invokevirtual 47, 3) := by decide +kernel
theorem dX3_begin_26 : decode cX3_begin 26 = .ok (.aload_n 0, 1) := by decide +kernel
theorem dX3_begin_27 : decode cX3_begin 27 = .ok (.getfield 37, 3) := by decide +kernel
theorem dX3_begin_30 : decode cX3_begin 30 = .ok (.invokevirtual 47, 3) := by decide +kernel
theorem dX3_begin_33 : decode cX3_begin 33 = .ok (.aload_n 0, 1) := by decide +kernel
theorem dX3_begin_34 : decode cX3_begin 34 = .ok (.invokevirtual 50, 3) := by decide +kernel
theorem dX3_begin_37 : decode cX3_begin 37 = .ok (.return_, 1) := by decide +kernel
theorem dX3_beginSuit_0 : decode cX3_beginSuit 0 = .ok (.aload_n 0, 1) := by decide +kernel
theorem dX3_beginSuit_1 : decode cX3_beginSuit 1 = .ok (.iconst 0, 1) := by decide +kernel
theorem dX3_beginSuit_2 : decode cX3_beginSuit 2 = .ok (.putfield 53, 3) := by decide +kernel
theorem dX3_beginSuit_5 : decode cX3_beginSuit 5 = .ok (.aload_n 0, 1) := by decide +kernel
theorem dX3_beginSuit_6 : decode cX3_beginSuit 6 = .ok (.iconst 0, 1) := by decide +kernel
theorem dX3_beginSuit_7 : decode cX3_beginSuit 7 = .ok (.putfield 56, 3) := by decide +kernel
theorem dX3_beginSuit_10 : decode cX3_beginSuit 10 = .ok (.aload_n 0, 1) := by decide +kernel
theorem dX3_beginSuit_11 : decode cX3_beginSuit 11 = .ok (.iconst 0, 1) := by decide +kernel
theorem dX3_beginSuit_12 : decode cX3_beginSuit 12 = .ok (.putfield 59, 3) := by decide +kernel
theorem dX3_beginSuit_15 : decode cX3_beginSuit 15 = .ok (.aload_n 0, 1) := by decide +kernel
theorem dX3_beginSuit_16 : decode cX3_beginSuit 16 = .ok (.getfield 40, 3) := by decide +kernel
theorem dX3_beginSuit_19 : decode cX3_beginSuit 19 = .ok (.invokevirtual 47, 3) := by decide +kernel
theorem dX3_beginSuit_22 : decode cX3_beginSuit 22 = .ok (.return_, 1) := by decide +kernel
theorem dX3_become_0 : decode cX3_become 0 = .ok (.aload_n 0, 1) := by decide +kernel
theorem dX3_become_1 : decode cX3_become 1 = .ok (.aload_n 1, 1) := by decide +kernel
theorem dX3_become_2 : decode cX3_become 2 = .ok (.getfield 43, 3) := by decide +kernel
theorem dX3_become_5 : decode cX3_become 5 = .ok (.putfield 43, 3) := by decide +kernel
theorem dX3_become_8 : decode cX3_become 8 = .ok (.aload_n 0, 1) := by decide +kernel
theorem dX3_become_9 : decode cX3_become 9 = .ok (.aload_n 1, 1) := by decide +kernel
theorem dX3_become_10 : decode cX3_become 10 = .ok (.getfield 53, 3) := by decide +kernel
theorem dX3_become_13 : decode cX3_become 13 = .ok (.putfield 53, 3) := by decide +kernel
theorem dX3_become_16 : decode cX3_become 16 = .ok (.aload_n 0, 1) := by decide +kernel
theorem dX3_become_17 : decode cX3_become 17 = .ok (.aload_n 1, 1) := by decide +kernel
theorem dX3_become_18 : decode cX3_become 18 = .ok (.getfield 56, 3) := by decide +kernel
theorem dX3_become_21 : decode cX3_become 21 = .ok (.putfield 56, 3) := by decide +kernel
theorem dX3_become_24 : decode cX3_become 24 = .ok (.aload_n 0, 1) := by decide +kernel
theorem dX3_become_25 : decode cX3_become 25 = .ok (.aload_n 1, 1) := by decide +kernel
theorem dX3_become_26 : decode cX3_become 26 = .ok (.getfield 59, 3) := by decide +kernel
theorem dX3_become_29 : decode cX3_become 29 = .ok (.putfield 59, 3) := by decide +kernel
theorem dX3_become_32 : decode cX3_become 32 = .ok (.aload_n 0, 1) := by decide +kernel
theorem dX3_become_33 : decode cX3_become 33 = .ok (.getfield 27, 3) := by decide +kernel
theorem dX3_become_36 : decode cX3_become 36 = .ok (.aload_n 1, 1) := by decide +kernel
theorem dX3_become_37 : decode cX3_become 37 = .ok (.getfield 27, 3) := by decide +kernel
theorem dX3_become_40 : decode cX3_become 40 = .ok (.invokevirtual 62, 3) := by decide +kernel
theorem dX3_become_43 : decode cX3_become 43 = .ok (.aload_n 0, 1) := by decide +kernel
theorem dX3_become_44 : decode cX3_become 44 = .ok (.getfield 31, 3) := by decide +kernel
theorem dX3_become_47 : decode cX3_become 47 = .ok (.aload_n 1, 1) := by decide +kernel
theorem dX3_become_48 : decode cX3_become 48 = .ok (.getfield 31, 3) := by decide +kernel
theorem dX3_become_51 : decode cX3_become 51 = .ok (.invokevirtual 62, 3) := by decide +kernel
theorem dX3_become_54 : decode cX3_become 54 = .ok (.aload_n 0, 1) := by decide +kernel
theorem dX3_become_55 : decode cX3_become 55 = .ok (.getfield 34, 3) := by decide +kernel
theorem dX3_become_58 : decode cX3_become 58 = .ok (.aload_n 1, 1) := by decide +kernel
theorem dX3_become_59 : decode cX3_become 59 = .ok (.getfield 34, 3) := by decide +kernel
theorem dX3_become_62 : decode cX3_become 62 = .ok (.invokevirtual 62, 3) := by decide +kernel
theorem dX3_become_65 : decode cX3_become 65 = .ok (.aload_n 0, 1) := by decide +kernel
theorem dX3_become_66 : decode cX3_become 66 = .ok (.getfield 37, 3) := by decide +kernel
theorem dX3_become_69 : decode cX3_become 69 = .ok (.aload_n 1, 1) := by decide +kernel
theorem dX3_become_70 : decode cX3_become 70 = .ok (.getfield 37, 3) := by decide +kernel
theorem dX3_become_73 : decode cX3_become 73 = .ok (.invokevirtual 62, 3) := by decide +kernel
theorem dX3_become_76 : decode cX3_become 76 = .ok (.aload_n 0, 1) := by decide +kernel
theorem dX3_become_77 : decode cX3_become 77 = .ok (.getfield 40, 3) := by decide +kernel
theorem dX3_become_80 : decode cX3_become 80 = .ok (.aload_n 1, 1) := by decide +kernel
theorem dX3_become_81 : decode cX3_become 81 = .ok (.getfield 40, 3) := by decide +kernel
theorem dX3_become_84 : decode cX3_become 84 = .ok (.invokevirtual 62, 3) := by decide +kernel
theorem dX3_become_87 : decode cX3_become 87 = .ok (.return_, 1) := by decide +kernel
theorem dX3_keepForUndo_0 : decode cX3_keepForUndo 0 = .ok (.aload_n 0, 1) := by decide +kernel
theorem dX3_keepForUndo_1 : decode cX3_keepForUndo 1 = .ok (.getfield 40, 3) := by decide +kernel
theorem dX3_keepForUndo_4 : decode cX3_keepForUndo 4 = .ok (.invokevirtual 66, 3) := by decide +kernel
theorem dX3_keepForUndo_7 : decode cX3_keepForUndo 7 = .ok (.ifCond .eq 10, 3) := by decide +kernel
theorem dX3_keepForUndo_10 : decode cX3_keepForUndo 10 = .ok (.aload_n 0, 1) := by decide +kernel
theorem dX3_keepForUndo_11 : decode cX3_keepForUndo 11 = .ok (.getfield 40, 3) := by decide +kernel
theorem dX3_keepForUndo_14 : decode cX3_keepForUndo 14 = .ok (.invokevirtual 70, 3) := by decide +kernel
theorem dX3_keepForUndo_17 : decode cX3_keepForUndo 17 = .ok (.aload_n 0, 1) := by decide +kernel
theorem dX3_keepForUndo_18 : decode cX3_keepForUndo 18 = .ok (.getfield 40, 3) := by decide +kernel
theorem dX3_keepForUndo_21 : decode cX3_keepForUndo 21 = .ok (.aload_n 0, 1) := by decide +kernel
theorem dX3_keepForUndo_22 : decode cX3_keepForUndo 22 = .ok (.getfield 53, 3) := by decide +kernel
theorem dX3_keepForUndo_25 : decode cX3_keepForUndo 25 = .ok (.aload_n 0, 1) := by decide +kernel
theorem dX3_keepForUndo_26 : decode cX3_keepForUndo 26 = .ok (.getfield 56, 3) := by decide +kernel
theorem dX3_keepForUndo_29 : decode cX3_keepForUndo 29 = .ok (.aload_n 0, 1) := by decide +kernel
theorem dX3_keepForUndo_30 : decode cX3_keepForUndo 30 = .ok (.getfield 59, 3) := by decide +kernel
theorem dX3_keepForUndo_33 : decode cX3_keepForUndo 33 = .ok (.iconst 0, 1) := by decide +kernel
theorem dX3_keepForUndo_34 : decode cX3_keepForUndo 34 = .ok (.invokevirtual 73, 3) := by decide +kernel
theorem dX3_keepForUndo_37 : decode cX3_keepForUndo 37 = .ok (.return_, 1) := by decide +kernel
theorem dX3_takeBack_0 : decode cX3_takeBack 0 = .ok (.aload_n 0, 1) := by decide +kernel
theorem dX3_takeBack_1 : decode cX3_takeBack 1 = .ok (.getfield 40, 3) := by decide +kernel
theorem dX3_takeBack_4 : decode cX3_takeBack 4 = .ok (.getfield 77, 3) := by decide +kernel
theorem dX3_takeBack_7 : decode cX3_takeBack 7 = .ok (.iconst 1, 1) := by decide +kernel
theorem dX3_takeBack_8 : decode cX3_takeBack 8 = .ok (.isub, 1) := by decide +kernel
theorem dX3_takeBack_9 : decode cX3_takeBack 9 = .ok (.istore_n 1, 1) := by decide +kernel
theorem dX3_takeBack_10 : decode cX3_takeBack 10 = .ok (.aload_n 0, 1) := by decide +kernel
theorem dX3_takeBack_11 : decode cX3_takeBack 11 = .ok (.aload_n 0, 1) := by decide +kernel
theorem dX3_takeBack_12 : decode cX3_takeBack 12 = .ok (.getfield 40, 3) := by decide +kernel
theorem dX3_takeBack_15 : decode cX3_takeBack 15 = .ok (.iload_n 1, 1) := by decide +kernel
theorem dX3_takeBack_16 : decode cX3_takeBack 16 = .ok (.iconst 0, 1) := by decide +kernel
theorem dX3_takeBack_17 : decode cX3_takeBack 17 = .ok (.invokevirtual 80, 3) := by decide +kernel
theorem dX3_takeBack_20 : decode cX3_takeBack 20 = .ok (.putfield 53, 3) := by decide +kernel
theorem dX3_takeBack_23 : decode cX3_takeBack 23 = .ok (.aload_n 0, 1) := by decide +kernel
theorem dX3_takeBack_24 : decode cX3_takeBack 24 = .ok (.aload_n 0, 1) := by decide +kernel
theorem dX3_takeBack_25 : decode cX3_takeBack 25 = .ok (.getfield 40, 3) := by decide +kernel
theorem dX3_takeBack_28 : decode cX3_takeBack 28 = .ok (.iload_n 1, 1) := by decide +kernel
theorem dX3_takeBack_29 : decode cX3_takeBack 29 = .ok (.iconst 1, 1) := by decide +kernel
theorem dX3_takeBack_30 : decode cX3_takeBack 30 = .ok (.invokevirtual 80, 3) := by decide +kernel
theorem dX3_takeBack_33 : decode cX3_takeBack 33 = .ok (.putfield 56, 3) := by decide +kernel
theorem dX3_takeBack_36 : decode cX3_takeBack 36 = .ok (.aload_n 0, 1) := by decide +kernel
theorem dX3_takeBack_37 : decode cX3_takeBack 37 = .ok (.aload_n 0, 1) := by decide +kernel
theorem dX3_takeBack_38 : decode cX3_takeBack 38 = .ok (.getfield 40, 3) := by decide +kernel
theorem dX3_takeBack_41 : decode cX3_takeBack 41 = .ok (.iload_n 1, 1) := by decide +kernel
theorem dX3_takeBack_42 : decode cX3_takeBack 42 = .ok (.iconst 2, 1) := by decide +kernel
theorem dX3_takeBack_43 : decode cX3_takeBack 43 = .ok (.invokevirtual 80, 3) := by decide +kernel
theorem dX3_takeBack_46 : decode cX3_takeBack 46 = .ok (.putfield 59, 3) := by decide +kernel
theorem dX3_takeBack_49 : decode cX3_takeBack 49 = .ok (.aload_n 0, 1) := by decide +kernel
theorem dX3_takeBack_50 : decode cX3_takeBack 50 = .ok (.getfield 40, 3) := by decide +kernel
theorem dX3_takeBack_53 : decode cX3_takeBack 53 = .ok (.invokevirtual 84, 3) := by decide +kernel
theorem dX3_takeBack_56 : decode cX3_takeBack 56 = .ok (.return_, 1) := by decide +kernel
theorem dX3_allowed_0 : decode cX3_allowed 0 = .ok (.aload_n 0, 1) := by decide +kernel
theorem dX3_allowed_1 : decode cX3_allowed 1 = .ok (.getfield 27, 3) := by decide +kernel
theorem dX3_allowed_4 : decode cX3_allowed 4 = .ok (.iload_n 1, 1) := by decide +kernel
theorem dX3_allowed_5 : decode cX3_allowed 5 = .ok (.iconst 1, 1) := by decide +kernel
theorem dX3_allowed_6 : decode cX3_allowed 6 = .ok (.invokevirtual 80, 3) := by decide +kernel
theorem dX3_allowed_9 : decode cX3_allowed 9 = .ok (.istore 4, 2) := by decide +kernel
theorem dX3_allowed_11 : decode cX3_allowed 11 = .ok (.iload 4, 2) := by decide +kernel
theorem dX3_allowed_13 : decode cX3_allowed 13 = .ok (.invokestatic 87, 3) := by decide +kernel
theorem dX3_allowed_16 : decode cX3_allowed 16 = .ok (.istore 5, 2) := by decide +kernel
theorem dX3_allowed_18 : decode cX3_allowed 18 = .ok (.iload 4, 2) := by decide +kernel
theorem dX3_allowed_20 : decode cX3_allowed 20 = .ok (.iload_n 2, 1) := by decide +kernel
theorem dX3_allowed_21 : decode cX3_allowed 21 = .ok (.iand, 1) := by decide +kernel
theorem dX3_allowed_22 : decode cX3_allowed 22 = .ok (.invokestatic 87, 3) := by decide +kernel
theorem dX3_allowed_25 : decode cX3_allowed 25 = .ok (.istore 6, 2) := by decide +kernel
theorem dX3_allowed_27 : decode cX3_allowed 27 = .ok (.aload_n 0, 1) := by decide +kernel
theorem dX3_allowed_28 : decode cX3_allowed 28 = .ok (.aload_n 0, 1) := by decide +kernel
theorem dX3_allowed_29 : decode cX3_allowed 29 = .ok (.getfield 27, 3) := by decide +kernel
theorem dX3_allowed_32 : decode cX3_allowed 32 = .ok (.iload_n 1, 1) := by decide +kernel
theorem dX3_allowed_33 : decode cX3_allowed 33 = .ok (.iconst 0, 1) := by decide +kernel
theorem dX3_allowed_34 : decode cX3_allowed 34 = .ok (.invokevirtual 80, 3) := by decide +kernel
theorem dX3_allowed_37 : decode cX3_allowed 37 = .ok (.invokevirtual 93, 3) := by decide +kernel
theorem dX3_allowed_40 : decode cX3_allowed 40 = .ok (.iload 5, 2) := by decide +kernel
theorem dX3_allowed_42 : decode cX3_allowed 42 = .ok (.iload 6, 2) := by decide +kernel
theorem dX3_allowed_44 : decode cX3_allowed 44 = .ok (.iload_n 3, 1) := by decide +kernel
theorem dX3_allowed_45 : decode cX3_allowed 45 = .ok (.invokevirtual 97, 3) := by decide +kernel
theorem dX3_allowed_48 : decode cX3_allowed 48 = .ok (.ireturn, 1) := by decide +kernel
theorem dX3_ownCost_0 : decode cX3_ownCost 0 = .ok (.aload_n 0, 1) := by decide +kernel
theorem dX3_ownCost_1 : decode cX3_ownCost 1 = .ok (.aload_n 0, 1) := by decide +kernel
theorem dX3_ownCost_2 : decode cX3_ownCost 2 = .ok (.getfield 27, 3) := by decide +kernel
theorem dX3_ownCost_5 : decode cX3_ownCost 5 = .ok (.iload_n 1, 1) := by decide +kernel
theorem dX3_ownCost_6 : decode cX3_ownCost 6 = .ok (.iconst 0, 1) := by decide +kernel
theorem dX3_ownCost_7 : decode cX3_ownCost 7 = .ok (.invokevirtual 80, 3) := by decide +kernel
theorem dX3_ownCost_10 : decode cX3_ownCost 10 = .ok (.invokevirtual 93, 3) := by decide +kernel
theorem dX3_ownCost_13 : decode cX3_ownCost 13 = .ok (.aload_n 0, 1) := by decide +kernel
theorem dX3_ownCost_14 : decode cX3_ownCost 14 = .ok (.getfield 27, 3) := by decide +kernel
theorem dX3_ownCost_17 : decode cX3_ownCost 17 = .ok (.iload_n 1, 1) := by decide +kernel
theorem dX3_ownCost_18 : decode cX3_ownCost 18 = .ok (.iconst 3, 1) := by decide +kernel
theorem dX3_ownCost_19 : decode cX3_ownCost 19 = .ok (.invokevirtual 80, 3) := by decide +kernel
theorem dX3_ownCost_22 : decode cX3_ownCost 22 = .ok (.iload_n 2, 1) := by decide +kernel
theorem dX3_ownCost_23 : decode cX3_ownCost 23 = .ok (.invokevirtual 101, 3) := by decide +kernel
theorem dX3_ownCost_26 : decode cX3_ownCost 26 = .ok (.ireturn, 1) := by decide +kernel
theorem dX3_denialWins_0 : decode cX3_denialWins 0 = .ok (.aload_n 0, 1) := by decide +kernel
theorem dX3_denialWins_1 : decode cX3_denialWins 1 = .ok (.getfield 27, 3) := by decide +kernel
theorem dX3_denialWins_4 : decode cX3_denialWins 4 = .ok (.iload_n 1, 1) := by decide +kernel
theorem dX3_denialWins_5 : decode cX3_denialWins 5 = .ok (.iconst 1, 1) := by decide +kernel
theorem dX3_denialWins_6 : decode cX3_denialWins 6 = .ok (.invokevirtual 80, 3) := by decide +kernel
theorem dX3_denialWins_9 : decode cX3_denialWins 9 = .ok (.aload_n 0, 1) := by decide +kernel
theorem dX3_denialWins_10 : decode cX3_denialWins 10 = .ok (.getfield 43, 3) := by decide +kernel
theorem dX3_denialWins_13 : decode cX3_denialWins 13 = .ok (.iconst (-1), 1) := by decide +kernel
theorem dX3_denialWins_14 : decode cX3_denialWins 14 = .ok (.ixor, 1) := by decide +kernel
theorem dX3_denialWins_15 : decode cX3_denialWins 15 = .ok (.iand, 1) := by decide +kernel
theorem dX3_denialWins_16 : decode cX3_denialWins 16 = .ok (.invokestatic 87, 3) := by decide +kernel
theorem dX3_denialWins_19 : decode cX3_denialWins 19 = .ok (.istore_n 2, 1) := by decide +kernel
theorem dX3_denialWins_20 : decode cX3_denialWins 20 = .ok (.aload_n 0, 1) := by decide +kernel
theorem dX3_denialWins_21 : decode cX3_denialWins 21 = .ok (.aload_n 0, 1) := by decide +kernel
theorem dX3_denialWins_22 : decode cX3_denialWins 22 = .ok (.getfield 27, 3) := by decide +kernel
theorem dX3_denialWins_25 : decode cX3_denialWins 25 = .ok (.iload_n 1, 1) := by decide +kernel
theorem dX3_denialWins_26 : decode cX3_denialWins 26 = .ok (.iconst 0, 1) := by decide +kernel
theorem dX3_denialWins_27 : decode cX3_denialWins 27 = .ok (.invokevirtual 80, 3) := by decide +kernel
theorem dX3_denialWins_30 : decode cX3_denialWins 30 = .ok (.invokevirtual 93, 3) := by decide +kernel
theorem dX3_denialWins_33 : decode cX3_denialWins 33 = .ok (.iload_n 2, 1) := by decide +kernel
theorem dX3_denialWins_34 : decode cX3_denialWins 34 = .ok (.invokevirtual 104, 3) := by decide +kernel
theorem dX3_denialWins_37 : decode cX3_denialWins 37 = .ok (.ireturn, 1) := by decide +kernel
theorem dX3_pleadedThatLose_0 : decode cX3_pleadedThatLose 0 = .ok (.iconst 0, 1) := by decide +kernel
theorem dX3_pleadedThatLose_1 : decode cX3_pleadedThatLose 1 = .ok (.istore_n 1, 1) := by decide +kernel
theorem dX3_pleadedThatLose_2 : decode cX3_pleadedThatLose 2 = .ok (.iconst 0, 1) := by decide +kernel
theorem dX3_pleadedThatLose_3 : decode cX3_pleadedThatLose 3 = .ok (.istore_n 2, 1) := by decide +kernel
theorem dX3_pleadedThatLose_4 : decode cX3_pleadedThatLose 4 = .ok (.iload_n 2, 1) := by decide +kernel
theorem dX3_pleadedThatLose_5 : decode cX3_pleadedThatLose 5 = .ok (.aload_n 0, 1) := by decide +kernel
theorem dX3_pleadedThatLose_6 : decode cX3_pleadedThatLose 6 = .ok (.getfield 27, 3) := by decide +kernel
theorem dX3_pleadedThatLose_9 : decode cX3_pleadedThatLose 9 = .ok (.getfield 77, 3) := by decide +kernel
theorem dX3_pleadedThatLose_12 : decode cX3_pleadedThatLose 12 = .ok (.if_icmp .ge 34, 3) := by decide +kernel
theorem dX3_pleadedThatLose_15 : decode cX3_pleadedThatLose 15 = .ok (.aload_n 0, 1) := by decide +kernel
theorem dX3_pleadedThatLose_16 : decode cX3_pleadedThatLose 16 = .ok (.getfield 53, 3) := by decide +kernel
theorem dX3_pleadedThatLose_19 : decode cX3_pleadedThatLose 19 = .ok (.iload_n 2, 1) := by decide +kernel
theorem dX3_pleadedThatLose_20 : decode cX3_pleadedThatLose 20 = .ok (.invokestatic 108, 3) := by decide +kernel
theorem dX3_pleadedThatLose_23 : decode cX3_pleadedThatLose 23 = .ok (.ifCond .eq 17, 3) := by decide +kernel
theorem dX3_pleadedThatLose_26 : decode cX3_pleadedThatLose 26 = .ok (.aload_n 0, 1) := by decide +kernel
theorem dX3_pleadedThatLose_27 : decode cX3_pleadedThatLose 27 = .ok (.iload_n 2, 1) := by decide +kernel
theorem dX3_pleadedThatLose_28 : decode cX3_pleadedThatLose 28 = .ok (.invokevirtual 112, 3) := by decide +kernel
theorem dX3_pleadedThatLose_31 : decode cX3_pleadedThatLose 31 = .ok (.ifCond .eq 9, 3) := by decide +kernel
theorem dX3_pleadedThatLose_34 : decode cX3_pleadedThatLose 34 = .ok (.iload_n 1, 1) := by decide +kernel
theorem dX3_pleadedThatLose_35 : decode cX3_pleadedThatLose 35 = .ok (.iconst 1, 1) := by decide +kernel
theorem dX3_pleadedThatLose_36 : decode cX3_pleadedThatLose 36 = .ok (.iload_n 2, 1) := by decide +kernel
theorem dX3_pleadedThatLose_37 : decode cX3_pleadedThatLose 37 = .ok (.ishl, 1) := by decide +kernel
theorem dX3_pleadedThatLose_38 : decode cX3_pleadedThatLose 38 = .ok (.ior, 1) := by decide +kernel
theorem dX3_pleadedThatLose_39 : decode cX3_pleadedThatLose 39 = .ok (.istore_n 1, 1) := by decide +kernel
theorem dX3_pleadedThatLose_40 : decode cX3_pleadedThatLose 40 = .ok (.iinc 2 1, 3) := by decide +kernel
theorem dX3_pleadedThatLose_43 : decode cX3_pleadedThatLose 43 = .ok (.goto (-39), 3) := by decide +kernel
theorem dX3_pleadedThatLose_46 : decode cX3_pleadedThatLose 46 = .ok (.iload_n 1, 1) := by decide +kernel
theorem dX3_pleadedThatLose_47 : decode cX3_pleadedThatLose 47 = .ok (.ireturn, 1) := by decide +kernel
theorem dX3_factsWith_0 : decode cX3_factsWith 0 = .ok (.aload_n 0, 1) := by decide +kernel
theorem dX3_factsWith_1 : decode cX3_factsWith 1 = .ok (.getfield 43, 3) := by decide +kernel
theorem dX3_factsWith_4 : decode cX3_factsWith 4 = .ok (.istore_n 2, 1) := by decide +kernel
theorem dX3_factsWith_5 : decode cX3_factsWith 5 = .ok (.iconst 0, 1) := by decide +kernel
theorem dX3_factsWith_6 : decode cX3_factsWith 6 = .ok (.istore_n 3, 1) := by decide +kernel
theorem dX3_factsWith_7 : decode cX3_factsWith 7 = .ok (.iload_n 3, 1) := by decide +kernel
theorem dX3_factsWith_8 : decode cX3_factsWith 8 = .ok (.aload_n 0, 1) := by decide +kernel
theorem dX3_factsWith_9 : decode cX3_factsWith 9 = .ok (.getfield 27, 3) := by decide +kernel
theorem dX3_factsWith_12 : decode cX3_factsWith 12 = .ok (.getfield 77, 3) := by decide +kernel
theorem dX3_factsWith_15 : decode cX3_factsWith 15 = .ok (.if_icmp .ge 31, 3) := by decide +kernel
theorem dX3_factsWith_18 : decode cX3_factsWith 18 = .ok (.iload_n 1, 1) := by decide +kernel
theorem dX3_factsWith_19 : decode cX3_factsWith 19 = .ok (.iload_n 3, 1) := by decide +kernel
theorem dX3_factsWith_20 : decode cX3_factsWith 20 = .ok (.invokestatic 108, 3) := by decide +kernel
theorem dX3_factsWith_23 : decode cX3_factsWith 23 = .ok (.ifCond .eq 17, 3) := by decide +kernel
theorem dX3_factsWith_26 : decode cX3_factsWith 26 = .ok (.iload_n 2, 1) := by decide +kernel
theorem dX3_factsWith_27 : decode cX3_factsWith 27 = .ok (.iconst 1, 1) := by decide +kernel
theorem dX3_factsWith_28 : decode cX3_factsWith 28 = .ok (.aload_n 0, 1) := by decide +kernel
theorem dX3_factsWith_29 : decode cX3_factsWith 29 = .ok (.getfield 27, 3) := by decide +kernel
theorem dX3_factsWith_32 : decode cX3_factsWith 32 = .ok (.iload_n 3, 1) := by decide +kernel
theorem dX3_factsWith_33 : decode cX3_factsWith 33 = .ok (.iconst 2, 1) := by decide +kernel
theorem dX3_factsWith_34 : decode cX3_factsWith 34 = .ok (.invokevirtual 80, 3) := by decide +kernel
theorem dX3_factsWith_37 : decode cX3_factsWith 37 = .ok (.ishl, 1) := by decide +kernel
theorem dX3_factsWith_38 : decode cX3_factsWith 38 = .ok (.ior, 1) := by decide +kernel
theorem dX3_factsWith_39 : decode cX3_factsWith 39 = .ok (.istore_n 2, 1) := by decide +kernel
theorem dX3_factsWith_40 : decode cX3_factsWith 40 = .ok (.iinc 3 1, 3) := by decide +kernel
theorem dX3_factsWith_43 : decode cX3_factsWith 43 = .ok (.goto (-36), 3) := by decide +kernel
theorem dX3_factsWith_46 : decode cX3_factsWith 46 = .ok (.iload_n 2, 1) := by decide +kernel
theorem dX3_factsWith_47 : decode cX3_factsWith 47 = .ok (.ireturn, 1) := by decide +kernel
theorem dX3_courtHears_0 : decode cX3_courtHears 0 = .ok (.aload_n 0, 1) := by decide +kernel
theorem dX3_courtHears_1 : decode cX3_courtHears 1 = .ok (.getfield 31, 3) := by decide +kernel
theorem dX3_courtHears_4 : decode cX3_courtHears 4 = .ok (.iload_n 1, 1) := by decide +kernel
theorem dX3_courtHears_5 : decode cX3_courtHears 5 = .ok (.iconst 0, 1) := by decide +kernel
theorem dX3_courtHears_6 : decode cX3_courtHears 6 = .ok (.invokevirtual 80, 3) := by decide +kernel
theorem dX3_courtHears_9 : decode cX3_courtHears 9 = .ok (.iload_n 2, 1) := by decide +kernel
theorem dX3_courtHears_10 : decode cX3_courtHears 10 = .ok (.iconst (-1), 1) := by decide +kernel
theorem dX3_courtHears_11 : decode cX3_courtHears 11 = .ok (.ixor, 1) := by decide +kernel
theorem dX3_courtHears_12 : decode cX3_courtHears 12 = .ok (.iand, 1) := by decide +kernel
theorem dX3_courtHears_13 : decode cX3_courtHears 13 = .ok (.ifCond .ne 7, 3) := by decide +kernel
theorem dX3_courtHears_16 : decode cX3_courtHears 16 = .ok (.iconst 1, 1) := by decide +kernel
theorem dX3_courtHears_17 : decode cX3_courtHears 17 = .ok (.goto 4, 3) := by decide +kernel
theorem dX3_courtHears_20 : decode cX3_courtHears 20 = .ok (.iconst 0, 1) := by decide +kernel
theorem dX3_courtHears_21 : decode cX3_courtHears 21 = .ok (.ireturn, 1) := by decide +kernel
theorem dX3_hearing_0 : decode cX3_hearing 0 = .ok (.iconst 0, 1) := by decide +kernel
theorem dX3_hearing_1 : decode cX3_hearing 1 = .ok (.istore_n 2, 1) := by decide +kernel
theorem dX3_hearing_2 : decode cX3_hearing 2 = .ok (.iconst 0, 1) := by decide +kernel
theorem dX3_hearing_3 : decode cX3_hearing 3 = .ok (.istore_n 3, 1) := by decide +kernel
theorem dX3_hearing_4 : decode cX3_hearing 4 = .ok (.iload_n 3, 1) := by decide +kernel
theorem dX3_hearing_5 : decode cX3_hearing 5 = .ok (.aload_n 0, 1) := by decide +kernel
theorem dX3_hearing_6 : decode cX3_hearing 6 = .ok (.getfield 31, 3) := by decide +kernel
theorem dX3_hearing_9 : decode cX3_hearing 9 = .ok (.getfield 77, 3) := by decide +kernel
theorem dX3_hearing_12 : decode cX3_hearing 12 = .ok (.if_icmp .ge 24, 3) := by decide +kernel
theorem dX3_hearing_15 : decode cX3_hearing 15 = .ok (.aload_n 0, 1) := by decide +kernel
theorem dX3_hearing_16 : decode cX3_hearing 16 = .ok (.iload_n 3, 1) := by decide +kernel
theorem dX3_hearing_17 : decode cX3_hearing 17 = .ok (.iload_n 1, 1) := by decide +kernel
theorem dX3_hearing_18 : decode cX3_hearing 18 = .ok (.invokevirtual 115, 3) := by decide +kernel
theorem dX3_hearing_21 : decode cX3_hearing 21 = .ok (.ifCond .eq 9, 3) := by decide +kernel
theorem dX3_hearing_24 : decode cX3_hearing 24 = .ok (.iload_n 2, 1) := by decide +kernel
theorem dX3_hearing_25 : decode cX3_hearing 25 = .ok (.iconst 1, 1) := by decide +kernel
theorem dX3_hearing_26 : decode cX3_hearing 26 = .ok (.iload_n 3, 1) := by decide +kernel
theorem dX3_hearing_27 : decode cX3_hearing 27 = .ok (.ishl, 1) := by decide +kernel
theorem dX3_hearing_28 : decode cX3_hearing 28 = .ok (.ior, 1) := by decide +kernel
theorem dX3_hearing_29 : decode cX3_hearing 29 = .ok (.istore_n 2, 1) := by decide +kernel
theorem dX3_hearing_30 : decode cX3_hearing 30 = .ok (.iinc 3 1, 3) := by decide +kernel
theorem dX3_hearing_33 : decode cX3_hearing 33 = .ok (.goto (-29), 3) := by decide +kernel
theorem dX3_hearing_36 : decode cX3_hearing 36 = .ok (.iload_n 2, 1) := by decide +kernel
theorem dX3_hearing_37 : decode cX3_hearing 37 = .ok (.ireturn, 1) := by decide +kernel
theorem dX3_afterTerm_0 : decode cX3_afterTerm 0 = .ok (.iload_n 1, 1) := by decide +kernel
theorem dX3_afterTerm_1 : decode cX3_afterTerm 1 = .ok (.ifCond .lt 14, 3) := by decide +kernel
theorem dX3_afterTerm_4 : decode cX3_afterTerm 4 = .ok (.iload_n 1, 1) := by decide +kernel
theorem dX3_afterTerm_5 : decode cX3_afterTerm 5 = .ok (.aload_n 0, 1) := by decide +kernel
theorem dX3_afterTerm_6 : decode cX3_afterTerm 6 = .ok (.getfield 27, 3) := by decide +kernel
theorem dX3_afterTerm_9 : decode cX3_afterTerm 9 = .ok (.getfield 77, 3) := by decide +kernel
theorem dX3_afterTerm_12 : decode cX3_afterTerm 12 = .ok (.if_icmp .lt 5, 3) := by decide +kernel
theorem dX3_afterTerm_15 : decode cX3_afterTerm 15 = .ok (.iload_n 2, 1) := by decide +kernel
theorem dX3_afterTerm_16 : decode cX3_afterTerm 16 = .ok (.ireturn, 1) := by decide +kernel
theorem dX3_afterTerm_17 : decode cX3_afterTerm 17 = .ok (.iload_n 2, 1) := by decide +kernel
theorem dX3_afterTerm_18 : decode cX3_afterTerm 18 = .ok (.iload_n 1, 1) := by decide +kernel
theorem dX3_afterTerm_19 : decode cX3_afterTerm 19 = .ok (.invokestatic 108, 3) := by decide +kernel
theorem dX3_afterTerm_22 : decode cX3_afterTerm 22 = .ok (.ifCond .eq 23, 3) := by decide +kernel
theorem dX3_afterTerm_25 : decode cX3_afterTerm 25 = .ok (.aload_n 0, 1) := by decide +kernel
theorem dX3_afterTerm_26 : decode cX3_afterTerm 26 = .ok (.iload_n 1, 1) := by decide +kernel
theorem dX3_afterTerm_27 : decode cX3_afterTerm 27 = .ok (.invokevirtual 112, 3) := by decide +kernel
theorem dX3_afterTerm_30 : decode cX3_afterTerm 30 = .ok (.ifCond .eq 13, 3) := by decide +kernel
theorem dX3_afterTerm_33 : decode cX3_afterTerm 33 = .ok (.iload_n 2, 1) := by decide +kernel
theorem dX3_afterTerm_34 : decode cX3_afterTerm 34 = .ok (.iconst 1, 1) := by decide +kernel
theorem dX3_afterTerm_35 : decode cX3_afterTerm 35 = .ok (.iload_n 1, 1) := by decide +kernel
theorem dX3_afterTerm_36 : decode cX3_afterTerm 36 = .ok (.ishl, 1) := by decide +kernel
theorem dX3_afterTerm_37 : decode cX3_afterTerm 37 = .ok (.iconst (-1), 1) := by decide +kernel
theorem dX3_afterTerm_38 : decode cX3_afterTerm 38 = .ok (.ixor, 1) := by decide +kernel
theorem dX3_afterTerm_39 : decode cX3_afterTerm 39 = .ok (.iand, 1) := by decide +kernel
theorem dX3_afterTerm_40 : decode cX3_afterTerm 40 = .ok (.goto 4, 3) := by decide +kernel
theorem dX3_afterTerm_43 : decode cX3_afterTerm 43 = .ok (.iload_n 2, 1) := by decide +kernel
theorem dX3_afterTerm_44 : decode cX3_afterTerm 44 = .ok (.ireturn, 1) := by decide +kernel
theorem dX3_afterTerm_45 : decode cX3_afterTerm 45 = .ok (.aload_n 0, 1) := by decide +kernel
theorem dX3_afterTerm_46 : decode cX3_afterTerm 46 = .ok (.iload_n 1, 1) := by decide +kernel
theorem dX3_afterTerm_47 : decode cX3_afterTerm 47 = .ok (.aload_n 0, 1) := by decide +kernel
theorem dX3_afterTerm_48 : decode cX3_afterTerm 48 = .ok (.iload_n 2, 1) := by decide +kernel
theorem dX3_afterTerm_49 : decode cX3_afterTerm 49 = .ok (.invokevirtual 118, 3) := by decide +kernel
theorem dX3_afterTerm_52 : decode cX3_afterTerm 52 = .ok (.iload_n 3, 1) := by decide +kernel
theorem dX3_afterTerm_53 : decode cX3_afterTerm 53 = .ok (.invokevirtual 121, 3) := by decide +kernel
theorem dX3_afterTerm_56 : decode cX3_afterTerm 56 = .ok (.ifCond .eq 11, 3) := by decide +kernel
theorem dX3_afterTerm_59 : decode cX3_afterTerm 59 = .ok (.iload_n 2, 1) := by decide +kernel
theorem dX3_afterTerm_60 : decode cX3_afterTerm 60 = .ok (.iconst 1, 1) := by decide +kernel
theorem dX3_afterTerm_61 : decode cX3_afterTerm 61 = .ok (.iload_n 1, 1) := by decide +kernel
theorem dX3_afterTerm_62 : decode cX3_afterTerm 62 = .ok (.ishl, 1) := by decide +kernel
theorem dX3_afterTerm_63 : decode cX3_afterTerm 63 = .ok (.ior, 1) := by decide +kernel
theorem dX3_afterTerm_64 : decode cX3_afterTerm 64 = .ok (.goto 4, 3) := by decide +kernel
theorem dX3_afterTerm_67 : decode cX3_afterTerm 67 = .ok (.iload_n 2, 1) := by decide +kernel
theorem dX3_afterTerm_68 : decode cX3_afterTerm 68 = .ok (.ireturn, 1) := by decide +kernel
theorem dX3_kindsByNotes_0 : decode cX3_kindsByNotes 0 = .ok (.iconst 0, 1) := by decide +kernel
theorem dX3_kindsByNotes_1 : decode cX3_kindsByNotes 1 = .ok (.istore_n 2, 1) := by decide +kernel
theorem dX3_kindsByNotes_2 : decode cX3_kindsByNotes 2 = .ok (.iconst 0, 1) := by decide +kernel
theorem dX3_kindsByNotes_3 : decode cX3_kindsByNotes 3 = .ok (.istore_n 3, 1) := by decide +kernel
theorem dX3_kindsByNotes_4 : decode cX3_kindsByNotes 4 = .ok (.iload_n 3, 1) := by decide +kernel
theorem dX3_kindsByNotes_5 : decode cX3_kindsByNotes 5 = .ok (.bipush 6, 2) := by decide +kernel
theorem dX3_kindsByNotes_7 : decode cX3_kindsByNotes 7 = .ok (.if_icmp .ge 24, 3) := by decide +kernel
theorem dX3_kindsByNotes_10 : decode cX3_kindsByNotes 10 = .ok (.aload_n 0, 1) := by decide +kernel
theorem dX3_kindsByNotes_11 : decode cX3_kindsByNotes 11 = .ok (.iload_n 1, 1) := by decide +kernel
theorem dX3_kindsByNotes_12 : decode cX3_kindsByNotes 12 = .ok (.iload_n 3, 1) := by decide +kernel
theorem dX3_kindsByNotes_13 : decode cX3_kindsByNotes 13 = .ok (.invokevirtual 124, 3) := by decide +kernel
theorem dX3_kindsByNotes_16 : decode cX3_kindsByNotes 16 = .ok (.ifCond .eq 9, 3) := by decide +kernel
theorem dX3_kindsByNotes_19 : decode cX3_kindsByNotes 19 = .ok (.iload_n 2, 1) := by decide +kernel
theorem dX3_kindsByNotes_20 : decode cX3_kindsByNotes 20 = .ok (.iconst 1, 1) := by decide +kernel
theorem dX3_kindsByNotes_21 : decode cX3_kindsByNotes 21 = .ok (.iload_n 3, 1) := by decide +kernel
theorem dX3_kindsByNotes_22 : decode cX3_kindsByNotes 22 = .ok (.ishl, 1) := by decide +kernel
theorem dX3_kindsByNotes_23 : decode cX3_kindsByNotes 23 = .ok (.ior, 1) := by decide +kernel
theorem dX3_kindsByNotes_24 : decode cX3_kindsByNotes 24 = .ok (.istore_n 2, 1) := by decide +kernel
theorem dX3_kindsByNotes_25 : decode cX3_kindsByNotes 25 = .ok (.iinc 3 1, 3) := by decide +kernel
theorem dX3_kindsByNotes_28 : decode cX3_kindsByNotes 28 = .ok (.goto (-24), 3) := by decide +kernel
theorem dX3_kindsByNotes_31 : decode cX3_kindsByNotes 31 = .ok (.iload_n 2, 1) := by decide +kernel
theorem dX3_kindsByNotes_32 : decode cX3_kindsByNotes 32 = .ok (.ireturn, 1) := by decide +kernel
theorem dX3_mostAlike_0 : decode cX3_mostAlike 0 = .ok (.iconst 0, 1) := by decide +kernel
theorem dX3_mostAlike_1 : decode cX3_mostAlike 1 = .ok (.istore 4, 2) := by decide +kernel
theorem dX3_mostAlike_3 : decode cX3_mostAlike 3 = .ok (.iconst 0, 1) := by decide +kernel
theorem dX3_mostAlike_4 : decode cX3_mostAlike 4 = .ok (.istore 5, 2) := by decide +kernel
theorem dX3_mostAlike_6 : decode cX3_mostAlike 6 = .ok (.iload 5, 2) := by decide +kernel
theorem dX3_mostAlike_8 : decode cX3_mostAlike 8 = .ok (.bipush 6, 2) := by decide +kernel
theorem dX3_mostAlike_10 : decode cX3_mostAlike 10 = .ok (.if_icmp .ge 34, 3) := by decide +kernel
theorem dX3_mostAlike_13 : decode cX3_mostAlike 13 = .ok (.iload_n 2, 1) := by decide +kernel
theorem dX3_mostAlike_14 : decode cX3_mostAlike 14 = .ok (.iload 5, 2) := by decide +kernel
theorem dX3_mostAlike_16 : decode cX3_mostAlike 16 = .ok (.invokestatic 108, 3) := by decide +kernel
theorem dX3_mostAlike_19 : decode cX3_mostAlike 19 = .ok (.ifCond .eq 19, 3) := by decide +kernel
theorem dX3_mostAlike_22 : decode cX3_mostAlike 22 = .ok (.iload 4, 2) := by decide +kernel
theorem dX3_mostAlike_24 : decode cX3_mostAlike 24 = .ok (.aload_n 0, 1) := by decide +kernel
theorem dX3_mostAlike_25 : decode cX3_mostAlike 25 = .ok (.iload_n 1, 1) := by decide +kernel
theorem dX3_mostAlike_26 : decode cX3_mostAlike 26 = .ok (.iload 5, 2) := by decide +kernel
theorem dX3_mostAlike_28 : decode cX3_mostAlike 28 = .ok (.iload_n 2, 1) := by decide +kernel
theorem dX3_mostAlike_29 : decode cX3_mostAlike 29 = .ok (.iload_n 3, 1) := by decide +kernel
theorem dX3_mostAlike_30 : decode cX3_mostAlike 30 = .ok (.invokevirtual 127, 3) := by decide +kernel
theorem dX3_mostAlike_33 : decode cX3_mostAlike 33 = .ok (.invokestatic 131, 3) := by decide +kernel
theorem dX3_mostAlike_36 : decode cX3_mostAlike 36 = .ok (.istore 4, 2) := by decide +kernel
theorem dX3_mostAlike_38 : decode cX3_mostAlike 38 = .ok (.iinc 5 1, 3) := by decide +kernel
theorem dX3_mostAlike_41 : decode cX3_mostAlike 41 = .ok (.goto (-35), 3) := by decide +kernel
theorem dX3_mostAlike_44 : decode cX3_mostAlike 44 = .ok (.iload 4, 2) := by decide +kernel
theorem dX3_mostAlike_46 : decode cX3_mostAlike 46 = .ok (.ireturn, 1) := by decide +kernel
theorem dX3_fitsHearings_0 : decode cX3_fitsHearings 0 = .ok (.iconst 0, 1) := by decide +kernel
theorem dX3_fitsHearings_1 : decode cX3_fitsHearings 1 = .ok (.istore_n 2, 1) := by decide +kernel
theorem dX3_fitsHearings_2 : decode cX3_fitsHearings 2 = .ok (.iload_n 2, 1) := by decide +kernel
theorem dX3_fitsHearings_3 : decode cX3_fitsHearings 3 = .ok (.aload_n 0, 1) := by decide +kernel
theorem dX3_fitsHearings_4 : decode cX3_fitsHearings 4 = .ok (.getfield 37, 3) := by decide +kernel
theorem dX3_fitsHearings_7 : decode cX3_fitsHearings 7 = .ok (.getfield 77, 3) := by decide +kernel
theorem dX3_fitsHearings_10 : decode cX3_fitsHearings 10 = .ok (.if_icmp .ge 48, 3) := by decide +kernel
theorem dX3_fitsHearings_13 : decode cX3_fitsHearings 13 = .ok (.aload_n 0, 1) := by decide +kernel
theorem dX3_fitsHearings_14 : decode cX3_fitsHearings 14 = .ok (.aload_n 0, 1) := by decide +kernel
theorem dX3_fitsHearings_15 : decode cX3_fitsHearings 15 = .ok (.getfield 37, 3) := by decide +kernel
theorem dX3_fitsHearings_18 : decode cX3_fitsHearings 18 = .ok (.iload_n 2, 1) := by decide +kernel
theorem dX3_fitsHearings_19 : decode cX3_fitsHearings 19 = .ok (.iconst 0, 1) := by decide +kernel
theorem dX3_fitsHearings_20 : decode cX3_fitsHearings 20 = .ok (.invokevirtual 80, 3) := by decide +kernel
theorem dX3_fitsHearings_23 : decode cX3_fitsHearings 23 = .ok (.iload_n 1, 1) := by decide +kernel
theorem dX3_fitsHearings_24 : decode cX3_fitsHearings 24 = .ok (.invokevirtual 115, 3) := by decide +kernel
theorem dX3_fitsHearings_27 : decode cX3_fitsHearings 27 = .ok (.istore_n 3, 1) := by decide +kernel
theorem dX3_fitsHearings_28 : decode cX3_fitsHearings 28 = .ok (.iload_n 3, 1) := by decide +kernel
theorem dX3_fitsHearings_29 : decode cX3_fitsHearings 29 = .ok (.aload_n 0, 1) := by decide +kernel
theorem dX3_fitsHearings_30 : decode cX3_fitsHearings 30 = .ok (.getfield 37, 3) := by decide +kernel
theorem dX3_fitsHearings_33 : decode cX3_fitsHearings 33 = .ok (.iload_n 2, 1) := by decide +kernel
theorem dX3_fitsHearings_34 : decode cX3_fitsHearings 34 = .ok (.iconst 1, 1) := by decide +kernel
theorem dX3_fitsHearings_35 : decode cX3_fitsHearings 35 = .ok (.invokevirtual 80, 3) := by decide +kernel
theorem dX3_fitsHearings_38 : decode cX3_fitsHearings 38 = .ok (.iconst 1, 1) := by decide +kernel
theorem dX3_fitsHearings_39 : decode cX3_fitsHearings 39 = .ok (.if_icmp .ne 7, 3) := by decide +kernel
theorem dX3_fitsHearings_42 : decode cX3_fitsHearings 42 = .ok (.iconst 1, 1) := by decide +kernel
theorem dX3_fitsHearings_43 : decode cX3_fitsHearings 43 = .ok (.goto 4, 3) := by decide +kernel
theorem dX3_fitsHearings_46 : decode cX3_fitsHearings 46 = .ok (.iconst 0, 1) := by decide +kernel
theorem dX3_fitsHearings_47 : decode cX3_fitsHearings 47 = .ok (.if_icmp .eq 5, 3) := by decide +kernel
theorem dX3_fitsHearings_50 : decode cX3_fitsHearings 50 = .ok (.iconst 0, 1) := by decide +kernel
theorem dX3_fitsHearings_51 : decode cX3_fitsHearings 51 = .ok (.ireturn, 1) := by decide +kernel
theorem dX3_fitsHearings_52 : decode cX3_fitsHearings 52 = .ok (.iinc 2 1, 3) := by decide +kernel
theorem dX3_fitsHearings_55 : decode cX3_fitsHearings 55 = .ok (.goto (-53), 3) := by decide +kernel
theorem dX3_fitsHearings_58 : decode cX3_fitsHearings 58 = .ok (.iconst 1, 1) := by decide +kernel
theorem dX3_fitsHearings_59 : decode cX3_fitsHearings 59 = .ok (.ireturn, 1) := by decide +kernel
theorem dX3_fitsNotes_0 : decode cX3_fitsNotes 0 = .ok (.iconst 0, 1) := by decide +kernel
theorem dX3_fitsNotes_1 : decode cX3_fitsNotes 1 = .ok (.istore_n 3, 1) := by decide +kernel
theorem dX3_fitsNotes_2 : decode cX3_fitsNotes 2 = .ok (.iload_n 3, 1) := by decide +kernel
theorem dX3_fitsNotes_3 : decode cX3_fitsNotes 3 = .ok (.aload_n 0, 1) := by decide +kernel
theorem dX3_fitsNotes_4 : decode cX3_fitsNotes 4 = .ok (.getfield 34, 3) := by decide +kernel
theorem dX3_fitsNotes_7 : decode cX3_fitsNotes 7 = .ok (.getfield 77, 3) := by decide +kernel
theorem dX3_fitsNotes_10 : decode cX3_fitsNotes 10 = .ok (.if_icmp .ge 51, 3) := by decide +kernel
theorem dX3_fitsNotes_13 : decode cX3_fitsNotes 13 = .ok (.aload_n 0, 1) := by decide +kernel
theorem dX3_fitsNotes_14 : decode cX3_fitsNotes 14 = .ok (.getfield 34, 3) := by decide +kernel
theorem dX3_fitsNotes_17 : decode cX3_fitsNotes 17 = .ok (.iload_n 3, 1) := by decide +kernel
theorem dX3_fitsNotes_18 : decode cX3_fitsNotes 18 = .ok (.iconst 0, 1) := by decide +kernel
theorem dX3_fitsNotes_19 : decode cX3_fitsNotes 19 = .ok (.invokevirtual 80, 3) := by decide +kernel
theorem dX3_fitsNotes_22 : decode cX3_fitsNotes 22 = .ok (.iload_n 1, 1) := by decide +kernel
theorem dX3_fitsNotes_23 : decode cX3_fitsNotes 23 = .ok (.if_icmp .ne 32, 3) := by decide +kernel
theorem dX3_fitsNotes_26 : decode cX3_fitsNotes 26 = .ok (.aload_n 0, 1) := by decide +kernel
theorem dX3_fitsNotes_27 : decode cX3_fitsNotes 27 = .ok (.iload_n 1, 1) := by decide +kernel
theorem dX3_fitsNotes_28 : decode cX3_fitsNotes 28 = .ok (.iload_n 2, 1) := by decide +kernel
theorem dX3_fitsNotes_29 : decode cX3_fitsNotes 29 = .ok (.aload_n 0, 1) := by decide +kernel
theorem dX3_fitsNotes_30 : decode cX3_fitsNotes 30 = .ok (.getfield 34, 3) := by decide +kernel
theorem dX3_fitsNotes_33 : decode cX3_fitsNotes 33 = .ok (.iload_n 3, 1) := by decide +kernel
theorem dX3_fitsNotes_34 : decode cX3_fitsNotes 34 = .ok (.iconst 1, 1) := by decide +kernel
theorem dX3_fitsNotes_35 : decode cX3_fitsNotes 35 = .ok (.invokevirtual 80, 3) := by decide +kernel
theorem dX3_fitsNotes_38 : decode cX3_fitsNotes 38 = .ok (.invokevirtual 136, 3) := by decide +kernel
theorem dX3_fitsNotes_41 : decode cX3_fitsNotes 41 = .ok (.aload_n 0, 1) := by decide +kernel
theorem dX3_fitsNotes_42 : decode cX3_fitsNotes 42 = .ok (.getfield 34, 3) := by decide +kernel
theorem dX3_fitsNotes_45 : decode cX3_fitsNotes 45 = .ok (.iload_n 3, 1) := by decide +kernel
theorem dX3_fitsNotes_46 : decode cX3_fitsNotes 46 = .ok (.iconst 2, 1) := by decide +kernel
theorem dX3_fitsNotes_47 : decode cX3_fitsNotes 47 = .ok (.invokevirtual 80, 3) := by decide +kernel
theorem dX3_fitsNotes_50 : decode cX3_fitsNotes 50 = .ok (.if_icmp .eq 5, 3) := by decide +kernel
theorem dX3_fitsNotes_53 : decode cX3_fitsNotes 53 = .ok (.iconst 0, 1) := by decide +kernel
theorem dX3_fitsNotes_54 : decode cX3_fitsNotes 54 = .ok (.ireturn, 1) := by decide +kernel
theorem dX3_fitsNotes_55 : decode cX3_fitsNotes 55 = .ok (.iinc 3 1, 3) := by decide +kernel
theorem dX3_fitsNotes_58 : decode cX3_fitsNotes 58 = .ok (.goto (-56), 3) := by decide +kernel
theorem dX3_fitsNotes_61 : decode cX3_fitsNotes 61 = .ok (.iconst 1, 1) := by decide +kernel
theorem dX3_fitsNotes_62 : decode cX3_fitsNotes 62 = .ok (.ireturn, 1) := by decide +kernel
theorem dX3_costAs_0 : decode cX3_costAs 0 = .ok (.aload_n 0, 1) := by decide +kernel
theorem dX3_costAs_1 : decode cX3_costAs 1 = .ok (.iload_n 2, 1) := by decide +kernel
theorem dX3_costAs_2 : decode cX3_costAs 2 = .ok (.invokevirtual 93, 3) := by decide +kernel
theorem dX3_costAs_5 : decode cX3_costAs 5 = .ok (.aload_n 0, 1) := by decide +kernel
theorem dX3_costAs_6 : decode cX3_costAs 6 = .ok (.getfield 27, 3) := by decide +kernel
theorem dX3_costAs_9 : decode cX3_costAs 9 = .ok (.iload_n 1, 1) := by decide +kernel
theorem dX3_costAs_10 : decode cX3_costAs 10 = .ok (.iconst 3, 1) := by decide +kernel
theorem dX3_costAs_11 : decode cX3_costAs 11 = .ok (.invokevirtual 80, 3) := by decide +kernel
theorem dX3_costAs_14 : decode cX3_costAs 14 = .ok (.iload_n 3, 1) := by decide +kernel
theorem dX3_costAs_15 : decode cX3_costAs 15 = .ok (.invokevirtual 101, 3) := by decide +kernel
theorem dX3_costAs_18 : decode cX3_costAs 18 = .ok (.ireturn, 1) := by decide +kernel
theorem dX3_alikeWith_0 : decode cX3_alikeWith 0 = .ok (.aload_n 0, 1) := by decide +kernel
theorem dX3_alikeWith_1 : decode cX3_alikeWith 1 = .ok (.iload_n 1, 1) := by decide +kernel
theorem dX3_alikeWith_2 : decode cX3_alikeWith 2 = .ok (.iload_n 2, 1) := by decide +kernel
theorem dX3_alikeWith_3 : decode cX3_alikeWith 3 = .ok (.iload 4, 2) := by decide +kernel
theorem dX3_alikeWith_5 : decode cX3_alikeWith 5 = .ok (.invokevirtual 136, 3) := by decide +kernel
theorem dX3_alikeWith_8 : decode cX3_alikeWith 8 = .ok (.istore 5, 2) := by decide +kernel
theorem dX3_alikeWith_10 : decode cX3_alikeWith 10 = .ok (.iconst 0, 1) := by decide +kernel
theorem dX3_alikeWith_11 : decode cX3_alikeWith 11 = .ok (.istore 6, 2) := by decide +kernel
theorem dX3_alikeWith_13 : decode cX3_alikeWith 13 = .ok (.iconst 0, 1) := by decide +kernel
theorem dX3_alikeWith_14 : decode cX3_alikeWith 14 = .ok (.istore 7, 2) := by decide +kernel
theorem dX3_alikeWith_16 : decode cX3_alikeWith 16 = .ok (.iload 7, 2) := by decide +kernel
theorem dX3_alikeWith_18 : decode cX3_alikeWith 18 = .ok (.bipush 6, 2) := by decide +kernel
theorem dX3_alikeWith_20 : decode cX3_alikeWith 20 = .ok (.if_icmp .ge 35, 3) := by decide +kernel
theorem dX3_alikeWith_23 : decode cX3_alikeWith 23 = .ok (.iload_n 3, 1) := by decide +kernel
theorem dX3_alikeWith_24 : decode cX3_alikeWith 24 = .ok (.iload 7, 2) := by decide +kernel
theorem dX3_alikeWith_26 : decode cX3_alikeWith 26 = .ok (.invokestatic 108, 3) := by decide +kernel
theorem dX3_alikeWith_29 : decode cX3_alikeWith 29 = .ok (.ifCond .eq 20, 3) := by decide +kernel
theorem dX3_alikeWith_32 : decode cX3_alikeWith 32 = .ok (.aload_n 0, 1) := by decide +kernel
theorem dX3_alikeWith_33 : decode cX3_alikeWith 33 = .ok (.iload_n 1, 1) := by decide +kernel
theorem dX3_alikeWith_34 : decode cX3_alikeWith 34 = .ok (.iload 7, 2) := by decide +kernel
theorem dX3_alikeWith_36 : decode cX3_alikeWith 36 = .ok (.iload 4, 2) := by decide +kernel
theorem dX3_alikeWith_38 : decode cX3_alikeWith 38 = .ok (.invokevirtual 136, 3) := by decide +kernel
theorem dX3_alikeWith_41 : decode cX3_alikeWith 41 = .ok (.iload 5, 2) := by decide +kernel
theorem dX3_alikeWith_43 : decode cX3_alikeWith 43 = .ok (.if_icmp .ne 6, 3) := by decide +kernel
theorem dX3_alikeWith_46 : decode cX3_alikeWith 46 = .ok (.iinc 6 1, 3) := by decide +kernel
theorem dX3_alikeWith_49 : decode cX3_alikeWith 49 = .ok (.iinc 7 1, 3) := by decide +kernel
theorem dX3_alikeWith_52 : decode cX3_alikeWith 52 = .ok (.goto (-36), 3) := by decide +kernel
theorem dX3_alikeWith_55 : decode cX3_alikeWith 55 = .ok (.iload 6, 2) := by decide +kernel
theorem dX3_alikeWith_57 : decode cX3_alikeWith 57 = .ok (.ireturn, 1) := by decide +kernel
theorem dX3_kindNumbered_0 : decode cX3_kindNumbered 0 = .ok (.iload_n 1, 1) := by decide +kernel
theorem dX3_kindNumbered_1 : decode cX3_kindNumbered 1 = .ok (.ifCond .lt 12, 3) := by decide +kernel
theorem dX3_kindNumbered_4 : decode cX3_kindNumbered 4 = .ok (.iload_n 1, 1) := by decide +kernel
theorem dX3_kindNumbered_5 : decode cX3_kindNumbered 5 = .ok (.aload_n 0, 1) := by decide +kernel
theorem dX3_kindNumbered_6 : decode cX3_kindNumbered 6 = .ok (.getfield 9, 3) := by decide +kernel
theorem dX3_kindNumbered_9 : decode cX3_kindNumbered 9 = .ok (.arraylength, 1) := by decide +kernel
theorem dX3_kindNumbered_10 : decode cX3_kindNumbered 10 = .ok (.if_icmp .lt 8, 3) := by decide +kernel
theorem dX3_kindNumbered_13 : decode cX3_kindNumbered 13 = .ok (.aload_n 0, 1) := by decide +kernel
theorem dX3_kindNumbered_14 : decode cX3_kindNumbered 14 = .ok (.getfield 18, 3) := by decide +kernel
theorem dX3_kindNumbered_17 : decode cX3_kindNumbered 17 = .ok (.areturn, 1) := by decide +kernel
theorem dX3_kindNumbered_18 : decode cX3_kindNumbered 18 = .ok (.aload_n 0, 1) := by decide +kernel
theorem dX3_kindNumbered_19 : decode cX3_kindNumbered 19 = .ok (.getfield 9, 3) := by decide +kernel
theorem dX3_kindNumbered_22 : decode cX3_kindNumbered 22 = .ok (.iload_n 1, 1) := by decide +kernel
theorem dX3_kindNumbered_23 : decode cX3_kindNumbered 23 = .ok (.aaload, 1) := by decide +kernel
theorem dX3_kindNumbered_24 : decode cX3_kindNumbered 24 = .ok (.astore_n 2, 1) := by decide +kernel
theorem dX3_kindNumbered_25 : decode cX3_kindNumbered 25 = .ok (.aload_n 2, 1) := by decide +kernel
theorem dX3_kindNumbered_26 : decode cX3_kindNumbered 26 = .ok (.ifnonnull 10, 3) := by decide +kernel
theorem dX3_kindNumbered_29 : decode cX3_kindNumbered 29 = .ok (.aload_n 0, 1) := by decide +kernel
theorem dX3_kindNumbered_30 : decode cX3_kindNumbered 30 = .ok (.getfield 18, 3) := by decide +kernel
theorem dX3_kindNumbered_33 : decode cX3_kindNumbered 33 = .ok (.goto 4, 3) := by decide +kernel
theorem dX3_kindNumbered_36 : decode cX3_kindNumbered 36 = .ok (.aload_n 2, 1) := by decide +kernel
theorem dX3_kindNumbered_37 : decode cX3_kindNumbered 37 = .ok (.areturn, 1) := by decide +kernel
theorem dX4_init_0 : decode cX4_init 0 = .ok (.aload_n 0, 1) := by decide +kernel
theorem dX4_init_1 : decode cX4_init 1 = .ok (.invokespecial 3, 3) := by decide +kernel
theorem dX4_init_4 : decode cX4_init 4 = .ok (.aload_n 0, 1) := by decide +kernel
theorem dX4_init_5 : decode cX4_init 5 = .ok (.bipush 64, 2) := by decide +kernel
theorem dX4_init_7 : decode cX4_init 7 = .ok (.newarray .int, 2) := by decide +kernel
theorem dX4_init_9 : decode cX4_init 9 = .ok (.putfield 9, 3) := by decide +kernel
theorem dX4_init_12 : decode cX4_init 12 = .ok (.aload_n 0, 1) := by decide +kernel
theorem dX4_init_13 : decode cX4_init 13 = .ok (.bipush 64, 2) := by decide +kernel
theorem dX4_init_15 : decode cX4_init 15 = .ok (.newarray .int, 2) := by decide +kernel
theorem dX4_init_17 : decode cX4_init 17 = .ok (.putfield 15, 3) := by decide +kernel
theorem dX4_init_20 : decode cX4_init 20 = .ok (.return_, 1) := by decide +kernel
theorem dX4_measure_0 : decode cX4_measure 0 = .ok (.aload_n 1, 1) := by decide +kernel
theorem dX4_measure_1 : decode cX4_measure 1 = .ok (.getfield 18, 3) := by decide +kernel
theorem dX4_measure_4 : decode cX4_measure 4 = .ok (.istore 4, 2) := by decide +kernel
theorem dX4_measure_6 : decode cX4_measure 6 = .ok (.aload_n 1, 1) := by decide +kernel
theorem dX4_measure_7 : decode cX4_measure 7 = .ok (.invokestatic 24, 3) := by decide +kernel
theorem dX4_measure_10 : decode cX4_measure 10 = .ok (.istore 5, 2) := by decide +kernel
theorem dX4_measure_12 : decode cX4_measure 12 = .ok (.iload 5, 2) := by decide +kernel
theorem dX4_measure_14 : decode cX4_measure 14 = .ok (.iload 4, 2) := by decide +kernel
theorem dX4_measure_16 : decode cX4_measure 16 = .ok (.if_icmp .lt 28, 3) := by decide +kernel
theorem dX4_measure_19 : decode cX4_measure 19 = .ok (.iload 5, 2) := by decide +kernel
theorem dX4_measure_21 : decode cX4_measure 21 = .ok (.iload 4, 2) := by decide +kernel
theorem dX4_measure_23 : decode cX4_measure 23 = .ok (.iand, 1) := by decide +kernel
theorem dX4_measure_24 : decode cX4_measure 24 = .ok (.iload 4, 2) := by decide +kernel
theorem dX4_measure_26 : decode cX4_measure 26 = .ok (.if_icmp .ne 12, 3) := by decide +kernel
theorem dX4_measure_29 : decode cX4_measure 29 = .ok (.aload_n 0, 1) := by decide +kernel
theorem dX4_measure_30 : decode cX4_measure 30 = .ok (.aload_n 1, 1) := by decide +kernel
theorem dX4_measure_31 : decode cX4_measure 31 = .ok (.iload_n 2, 1) := by decide +kernel
theorem dX4_measure_32 : decode cX4_measure 32 = .ok (.iload_n 3, 1) := by decide +kernel
theorem dX4_measure_33 : decode cX4_measure 33 = .ok (.iload 5, 2) := by decide +kernel
theorem dX4_measure_35 : decode cX4_measure 35 = .ok (.invokevirtual 28, 3) := by decide +kernel
theorem dX4_measure_38 : decode cX4_measure 38 = .ok (.iinc 5 (-1), 3) := by decide +kernel
theorem dX4_measure_41 : decode cX4_measure 41 = .ok (.goto (-29), 3) := by decide +kernel
theorem dX4_measure_44 : decode cX4_measure 44 = .ok (.aload_n 0, 1) := by decide +kernel
theorem dX4_measure_45 : decode cX4_measure 45 = .ok (.getfield 9, 3) := by decide +kernel
theorem dX4_measure_48 : decode cX4_measure 48 = .ok (.iload 4, 2) := by decide +kernel
theorem dX4_measure_50 : decode cX4_measure 50 = .ok (.invokestatic 32, 3) := by decide +kernel
theorem dX4_measure_53 : decode cX4_measure 53 = .ok (.ireturn, 1) := by decide +kernel
theorem dX4_fictionAt_0 : decode cX4_fictionAt 0 = .ok (.aload_n 1, 1) := by decide +kernel
theorem dX4_fictionAt_1 : decode cX4_fictionAt 1 = .ok (.getfield 18, 3) := by decide +kernel
theorem dX4_fictionAt_4 : decode cX4_fictionAt 4 = .ok (.istore_n 3, 1) := by decide +kernel
theorem dX4_fictionAt_5 : decode cX4_fictionAt 5 = .ok (.iconst 0, 1) := by decide +kernel
theorem dX4_fictionAt_6 : decode cX4_fictionAt 6 = .ok (.istore 4, 2) := by decide +kernel
theorem dX4_fictionAt_8 : decode cX4_fictionAt 8 = .ok (.iload 4, 2) := by decide +kernel
theorem dX4_fictionAt_10 : decode cX4_fictionAt 10 = .ok (.bipush 6, 2) := by decide +kernel
theorem dX4_fictionAt_12 : decode cX4_fictionAt 12 = .ok (.if_icmp .ge 44, 3) := by decide +kernel
theorem dX4_fictionAt_15 : decode cX4_fictionAt 15 = .ok (.aload_n 0, 1) := by decide +kernel
theorem dX4_fictionAt_16 : decode cX4_fictionAt 16 = .ok (.getfield 15, 3) := by decide +kernel
theorem dX4_fictionAt_19 : decode cX4_fictionAt 19 = .ok (.iload_n 3, 1) := by decide +kernel
theorem dX4_fictionAt_20 : decode cX4_fictionAt 20 = .ok (.invokestatic 32, 3) := by decide +kernel
theorem dX4_fictionAt_23 : decode cX4_fictionAt 23 = .ok (.istore 5, 2) := by decide +kernel
theorem dX4_fictionAt_25 : decode cX4_fictionAt 25 = .ok (.iload 5, 2) := by decide +kernel
theorem dX4_fictionAt_27 : decode cX4_fictionAt 27 = .ok (.iconst (-1), 1) := by decide +kernel
theorem dX4_fictionAt_28 : decode cX4_fictionAt 28 = .ok (.if_icmp .ne 6, 3) := by decide +kernel
theorem dX4_fictionAt_31 : decode cX4_fictionAt 31 = .ok (.bipush (-5), 2) := by decide +kernel
theorem dX4_fictionAt_33 : decode cX4_fictionAt 33 = .ok (.ireturn, 1) := by decide +kernel
theorem dX4_fictionAt_34 : decode cX4_fictionAt 34 = .ok (.iload 4, 2) := by decide +kernel
theorem dX4_fictionAt_36 : decode cX4_fictionAt 36 = .ok (.iload_n 2, 1) := by decide +kernel
theorem dX4_fictionAt_37 : decode cX4_fictionAt 37 = .ok (.if_icmp .ne 6, 3) := by decide +kernel
theorem dX4_fictionAt_40 : decode cX4_fictionAt 40 = .ok (.iload 5, 2) := by decide +kernel
theorem dX4_fictionAt_42 : decode cX4_fictionAt 42 = .ok (.ireturn, 1) := by decide +kernel
theorem dX4_fictionAt_43 : decode cX4_fictionAt 43 = .ok (.iload_n 3, 1) := by decide +kernel
theorem dX4_fictionAt_44 : decode cX4_fictionAt 44 = .ok (.iconst 1, 1) := by decide +kernel
theorem dX4_fictionAt_45 : decode cX4_fictionAt 45 = .ok (.iload 5, 2) := by decide +kernel
theorem dX4_fictionAt_47 : decode cX4_fictionAt 47 = .ok (.ishl, 1) := by decide +kernel
theorem dX4_fictionAt_48 : decode cX4_fictionAt 48 = .ok (.ior, 1) := by decide +kernel
theorem dX4_fictionAt_49 : decode cX4_fictionAt 49 = .ok (.istore_n 3, 1) := by decide +kernel
theorem dX4_fictionAt_50 : decode cX4_fictionAt 50 = .ok (.iinc 4 1, 3) := by decide +kernel
theorem dX4_fictionAt_53 : decode cX4_fictionAt 53 = .ok (.goto (-45), 3) := by decide +kernel
theorem dX4_fictionAt_56 : decode cX4_fictionAt 56 = .ok (.bipush (-5), 2) := by decide +kernel
theorem dX4_fictionAt_58 : decode cX4_fictionAt 58 = .ok (.ireturn, 1) := by decide +kernel
theorem dX4_reachable_0 : decode cX4_reachable 0 = .ok (.aload_n 1, 1) := by decide +kernel
theorem dX4_reachable_1 : decode cX4_reachable 1 = .ok (.getfield 18, 3) := by decide +kernel
theorem dX4_reachable_4 : decode cX4_reachable 4 = .ok (.istore_n 2, 1) := by decide +kernel
theorem dX4_reachable_5 : decode cX4_reachable 5 = .ok (.lconst 1, 1) := by decide +kernel
theorem dX4_reachable_6 : decode cX4_reachable 6 = .ok (.iload_n 2, 1) := by decide +kernel
theorem dX4_reachable_7 : decode cX4_reachable 7 = .ok (.lshl, 1) := by decide +kernel
theorem dX4_reachable_8 : decode cX4_reachable 8 = .ok (.lstore_n 3, 1) := by decide +kernel
theorem dX4_reachable_9 : decode cX4_reachable 9 = .ok (.iconst 0, 1) := by decide +kernel
theorem dX4_reachable_10 : decode cX4_reachable 10 = .ok (.istore 5, 2) := by decide +kernel
theorem dX4_reachable_12 : decode cX4_reachable 12 = .ok (.iload_n 2, 1) := by decide +kernel
theorem dX4_reachable_13 : decode cX4_reachable 13 = .ok (.istore 6, 2) := by decide +kernel
theorem dX4_reachable_15 : decode cX4_reachable 15 = .ok (.iload 6, 2) := by decide +kernel
theorem dX4_reachable_17 : decode cX4_reachable 17 = .ok (.aload_n 1, 1) := by decide +kernel
theorem dX4_reachable_18 : decode cX4_reachable 18 = .ok (.invokestatic 24, 3) := by decide +kernel
theorem dX4_reachable_21 : decode cX4_reachable 21 = .ok (.if_icmp .gt 47, 3) := by decide +kernel
theorem dX4_reachable_24 : decode cX4_reachable 24 = .ok (.lload_n 3, 1) := by decide +kernel
theorem dX4_reachable_25 : decode cX4_reachable 25 = .ok (.iload 6, 2) := by decide +kernel
theorem dX4_reachable_27 : decode cX4_reachable 27 = .ok (.lshr, 1) := by decide +kernel
theorem dX4_reachable_28 : decode cX4_reachable 28 = .ok (.lconst 1, 1) := by decide +kernel
theorem dX4_reachable_29 : decode cX4_reachable 29 = .ok (.land, 1) := by decide +kernel
theorem dX4_reachable_30 : decode cX4_reachable 30 = .ok (.lconst 1, 1) := by decide +kernel
theorem dX4_reachable_31 : decode cX4_reachable 31 = .ok (.lcmp, 1) := by decide +kernel
theorem dX4_reachable_32 : decode cX4_reachable 32 = .ok (.ifCond .ne 30, 3) := by decide +kernel
theorem dX4_reachable_35 : decode cX4_reachable 35 = .ok (.aload_n 1, 1) := by decide +kernel
theorem dX4_reachable_36 : decode cX4_reachable 36 = .ok (.iload 6, 2) := by decide +kernel
theorem dX4_reachable_38 : decode cX4_reachable 38 = .ok (.invokevirtual 36, 3) := by decide +kernel
theorem dX4_reachable_41 : decode cX4_reachable 41 = .ok (.istore 7, 2) := by decide +kernel
theorem dX4_reachable_43 : decode cX4_reachable 43 = .ok (.iload 5, 2) := by decide +kernel
theorem dX4_reachable_45 : decode cX4_reachable 45 = .ok (.iload 7, 2) := by decide +kernel
theorem dX4_reachable_47 : decode cX4_reachable 47 = .ok (.ior, 1) := by decide +kernel
theorem dX4_reachable_48 : decode cX4_reachable 48 = .ok (.istore 5, 2) := by decide +kernel
theorem dX4_reachable_50 : decode cX4_reachable 50 = .ok (.lload_n 3, 1) := by decide +kernel
theorem dX4_reachable_51 : decode cX4_reachable 51 = .ok (.aload_n 0, 1) := by decide +kernel
theorem dX4_reachable_52 : decode cX4_reachable 52 = .ok (.aload_n 1, 1) := by decide +kernel
theorem dX4_reachable_53 : decode cX4_reachable 53 = .ok (.iload 6, 2) := by decide +kernel
theorem dX4_reachable_55 : decode cX4_reachable 55 = .ok (.iload 7, 2) := by decide +kernel
theorem dX4_reachable_57 : decode cX4_reachable 57 = .ok (.invokevirtual 40, 3) := by decide +kernel
theorem dX4_reachable_60 : decode cX4_reachable 60 = .ok (.lor, 1) := by decide +kernel
theorem dX4_reachable_61 : decode cX4_reachable 61 = .ok (.lstore_n 3, 1) := by decide +kernel
theorem dX4_reachable_62 : decode cX4_reachable 62 = .ok (.iinc 6 1, 3) := by decide +kernel
theorem dX4_reachable_65 : decode cX4_reachable 65 = .ok (.goto (-50), 3) := by decide +kernel
theorem dX4_reachable_68 : decode cX4_reachable 68 = .ok (.iload 5, 2) := by decide +kernel
theorem dX4_reachable_70 : decode cX4_reachable 70 = .ok (.ireturn, 1) := by decide +kernel
theorem dX4_setsBehind_0 : decode cX4_setsBehind 0 = .ok (.aload_n 1, 1) := by decide +kernel
theorem dX4_setsBehind_1 : decode cX4_setsBehind 1 = .ok (.iload_n 2, 1) := by decide +kernel
theorem dX4_setsBehind_2 : decode cX4_setsBehind 2 = .ok (.invokestatic 44, 3) := by decide +kernel
theorem dX4_setsBehind_5 : decode cX4_setsBehind 5 = .ok (.istore 4, 2) := by decide +kernel
theorem dX4_setsBehind_7 : decode cX4_setsBehind 7 = .ok (.lconst 0, 1) := by decide +kernel
theorem dX4_setsBehind_8 : decode cX4_setsBehind 8 = .ok (.lstore 5, 2) := by decide +kernel
theorem dX4_setsBehind_10 : decode cX4_setsBehind 10 = .ok (.iconst 0, 1) := by decide +kernel
theorem dX4_setsBehind_11 : decode cX4_setsBehind 11 = .ok (.istore 7, 2) := by decide +kernel
theorem dX4_setsBehind_13 : decode cX4_setsBehind 13 = .ok (.iload 7, 2) := by decide +kernel
theorem dX4_setsBehind_15 : decode cX4_setsBehind 15 = .ok (.aload_n 1, 1) := by decide +kernel
theorem dX4_setsBehind_16 : decode cX4_setsBehind 16 = .ok (.getfield 48, 3) := by decide +kernel
theorem dX4_setsBehind_19 : decode cX4_setsBehind 19 = .ok (.getfield 52, 3) := by decide +kernel
theorem dX4_setsBehind_22 : decode cX4_setsBehind 22 = .ok (.if_icmp .ge 43, 3) := by decide +kernel
theorem dX4_setsBehind_25 : decode cX4_setsBehind 25 = .ok (.iload_n 2, 1) := by decide +kernel
theorem dX4_setsBehind_26 : decode cX4_setsBehind 26 = .ok (.iload 7, 2) := by decide +kernel
theorem dX4_setsBehind_28 : decode cX4_setsBehind 28 = .ok (.invokestatic 57, 3) := by decide +kernel
theorem dX4_setsBehind_31 : decode cX4_setsBehind 31 = .ok (.ifCond .ne 28, 3) := by decide +kernel
theorem dX4_setsBehind_34 : decode cX4_setsBehind 34 = .ok (.aload_n 1, 1) := by decide +kernel
theorem dX4_setsBehind_35 : decode cX4_setsBehind 35 = .ok (.iload 7, 2) := by decide +kernel
theorem dX4_setsBehind_37 : decode cX4_setsBehind 37 = .ok (.iload_n 3, 1) := by decide +kernel
theorem dX4_setsBehind_38 : decode cX4_setsBehind 38 = .ok (.iload 4, 2) := by decide +kernel
theorem dX4_setsBehind_40 : decode cX4_setsBehind 40 = .ok (.invokevirtual 61, 3) := by decide +kernel
theorem dX4_setsBehind_43 : decode cX4_setsBehind 43 = .ok (.ifCond .eq 16, 3) := by decide +kernel
theorem dX4_setsBehind_46 : decode cX4_setsBehind 46 = .ok (.lload 5, 2) := by decide +kernel
theorem dX4_setsBehind_48 : decode cX4_setsBehind 48 = .ok (.lconst 1, 1) := by decide +kernel
theorem dX4_setsBehind_49 : decode cX4_setsBehind 49 = .ok (.iload_n 2, 1) := by decide +kernel
theorem dX4_setsBehind_50 : decode cX4_setsBehind 50 = .ok (.iconst 1, 1) := by decide +kernel
theorem dX4_setsBehind_51 : decode cX4_setsBehind 51 = .ok (.iload 7, 2) := by decide +kernel
theorem dX4_setsBehind_53 : decode cX4_setsBehind 53 = .ok (.ishl, 1) := by decide +kernel
theorem dX4_setsBehind_54 : decode cX4_setsBehind 54 = .ok (.ior, 1) := by decide +kernel
theorem dX4_setsBehind_55 : decode cX4_setsBehind 55 = .ok (.lshl, 1) := by decide +kernel
theorem dX4_setsBehind_56 : decode cX4_setsBehind 56 = .ok (.lor, 1) := by decide +kernel
theorem dX4_setsBehind_57 : decode cX4_setsBehind 57 = .ok (.lstore 5, 2) := by decide +kernel
theorem dX4_setsBehind_59 : decode cX4_setsBehind 59 = .ok (.iinc 7 1, 3) := by decide +kernel
theorem dX4_setsBehind_62 : decode cX4_setsBehind 62 = .ok (.goto (-49), 3) := by decide +kernel
theorem dX4_setsBehind_65 : decode cX4_setsBehind 65 = .ok (.lload 5, 2) := by decide +kernel
theorem dX4_setsBehind_67 : decode cX4_setsBehind 67 = .ok (.lreturn, 1) := by decide +kernel
theorem dX4_settle_0 : decode cX4_settle 0 = .ok (.aload_n 1, 1) := by decide +kernel
theorem dX4_settle_1 : decode cX4_settle 1 = .ok (.iload 4, 2) := by decide +kernel
theorem dX4_settle_3 : decode cX4_settle 3 = .ok (.invokevirtual 36, 3) := by decide +kernel
theorem dX4_settle_6 : decode cX4_settle 6 = .ok (.istore 5, 2) := by decide +kernel
theorem dX4_settle_8 : decode cX4_settle 8 = .ok (.aload_n 1, 1) := by decide +kernel
theorem dX4_settle_9 : decode cX4_settle 9 = .ok (.iload_n 2, 1) := by decide +kernel
theorem dX4_settle_10 : decode cX4_settle 10 = .ok (.iload 5, 2) := by decide +kernel
theorem dX4_settle_12 : decode cX4_settle 12 = .ok (.invokevirtual 65, 3) := by decide +kernel
theorem dX4_settle_15 : decode cX4_settle 15 = .ok (.ifCond .eq 12, 3) := by decide +kernel
theorem dX4_settle_18 : decode cX4_settle 18 = .ok (.aload_n 0, 1) := by decide +kernel
theorem dX4_settle_19 : decode cX4_settle 19 = .ok (.iload 4, 2) := by decide +kernel
theorem dX4_settle_21 : decode cX4_settle 21 = .ok (.iconst 0, 1) := by decide +kernel
theorem dX4_settle_22 : decode cX4_settle 22 = .ok (.iconst (-1), 1) := by decide +kernel
theorem dX4_settle_23 : decode cX4_settle 23 = .ok (.invokevirtual 68, 3) := by decide +kernel
theorem dX4_settle_26 : decode cX4_settle 26 = .ok (.return_, 1) := by decide +kernel
theorem dX4_settle_27 : decode cX4_settle 27 = .ok (.aload_n 1, 1) := by decide +kernel
theorem dX4_settle_28 : decode cX4_settle 28 = .ok (.iload 4, 2) := by decide +kernel
theorem dX4_settle_30 : decode cX4_settle 30 = .ok (.invokestatic 44, 3) := by decide +kernel
theorem dX4_settle_33 : decode cX4_settle 33 = .ok (.istore 6, 2) := by decide +kernel
theorem dX4_settle_35 : decode cX4_settle 35 = .ok (.iconst (-1), 1) := by decide +kernel
theorem dX4_settle_36 : decode cX4_settle 36 = .ok (.istore 7, 2) := by decide +kernel
theorem dX4_settle_38 : decode cX4_settle 38 = .ok (.iconst (-1), 1) := by decide +kernel
theorem dX4_settle_39 : decode cX4_settle 39 = .ok (.istore 8, 2) := by decide +kernel
theorem dX4_settle_41 : decode cX4_settle 41 = .ok (.iconst 0, 1) := by decide +kernel
theorem dX4_settle_42 : decode cX4_settle 42 = .ok (.istore 9, 2) := by decide +kernel
theorem dX4_settle_44 : decode cX4_settle 44 = .ok (.iload 9, 2) := by decide +kernel
theorem dX4_settle_46 : decode cX4_settle 46 = .ok (.aload_n 1, 1) := by decide +kernel
theorem dX4_settle_47 : decode cX4_settle 47 = .ok (.getfield 48, 3) := by decide +kernel
theorem dX4_settle_50 : decode cX4_settle 50 = .ok (.getfield 52, 3) := by decide +kernel
theorem dX4_settle_53 : decode cX4_settle 53 = .ok (.if_icmp .ge 97, 3) := by decide +kernel
theorem dX4_settle_56 : decode cX4_settle 56 = .ok (.aload_n 0, 1) := by decide +kernel
theorem dX4_settle_57 : decode cX4_settle 57 = .ok (.getfield 9, 3) := by decide +kernel
theorem dX4_settle_60 : decode cX4_settle 60 = .ok (.iload 4, 2) := by decide +kernel
theorem dX4_settle_62 : decode cX4_settle 62 = .ok (.iconst 1, 1) := by decide +kernel
theorem dX4_settle_63 : decode cX4_settle 63 = .ok (.iload 9, 2) := by decide +kernel
theorem dX4_settle_65 : decode cX4_settle 65 = .ok (.ishl, 1) := by decide +kernel
theorem dX4_settle_66 : decode cX4_settle 66 = .ok (.ior, 1) := by decide +kernel
theorem dX4_settle_67 : decode cX4_settle 67 = .ok (.invokestatic 32, 3) := by decide +kernel
theorem dX4_settle_70 : decode cX4_settle 70 = .ok (.istore 10, 2) := by decide +kernel
theorem dX4_settle_72 : decode cX4_settle 72 = .ok (.iload 4, 2) := by decide +kernel
theorem dX4_settle_74 : decode cX4_settle 74 = .ok (.iload 9, 2) := by decide +kernel
theorem dX4_settle_76 : decode cX4_settle 76 = .ok (.invokestatic 57, 3) := by decide +kernel
theorem dX4_settle_79 : decode cX4_settle 79 = .ok (.ifCond .ne 65, 3) := by decide +kernel
theorem dX4_settle_82 : decode cX4_settle 82 = .ok (.iload 10, 2) := by decide +kernel
theorem dX4_settle_84 : decode cX4_settle 84 = .ok (.iconst (-1), 1) := by decide +kernel
theorem dX4_settle_85 : decode cX4_settle 85 = .ok (.if_icmp .eq 59, 3) := by decide +kernel
theorem dX4_settle_88 : decode cX4_settle 88 = .ok (.aload_n 1, 1) := by decide +kernel
theorem dX4_settle_89 : decode cX4_settle 89 = .ok (.iload 9, 2) := by decide +kernel
theorem dX4_settle_91 : decode cX4_settle 91 = .ok (.iload 5, 2) := by decide +kernel
theorem dX4_settle_93 : decode cX4_settle 93 = .ok (.iload 6, 2) := by decide +kernel
theorem dX4_settle_95 : decode cX4_settle 95 = .ok (.invokevirtual 61, 3) := by decide +kernel
theorem dX4_settle_98 : decode cX4_settle 98 = .ok (.ifCond .eq 46, 3) := by decide +kernel
theorem dX4_settle_101 : decode cX4_settle 101 = .ok (.iload 10, 2) := by decide +kernel
theorem dX4_settle_103 : decode cX4_settle 103 = .ok (.iload_n 3, 1) := by decide +kernel
theorem dX4_settle_104 : decode cX4_settle 104 = .ok (.iconst 1, 1) := by decide +kernel
theorem dX4_settle_105 : decode cX4_settle 105 = .ok (.if_icmp .ne 14, 3) := by decide +kernel
theorem dX4_settle_108 : decode cX4_settle 108 = .ok (.aload_n 1, 1) := by decide +kernel
theorem dX4_settle_109 : decode cX4_settle 109 = .ok (.iload 9, 2) := by decide +kernel
theorem dX4_settle_111 : decode cX4_settle 111 = .ok (.iload 6, 2) := by decide +kernel
theorem dX4_settle_113 : decode cX4_settle 113 = .ok (.invokevirtual 72, 3) := by decide +kernel
theorem dX4_settle_116 : decode cX4_settle 116 = .ok (.goto 4, 3) := by decide +kernel
theorem dX4_settle_119 : decode cX4_settle 119 = .ok (.iconst 1, 1) := by decide +kernel
theorem dX4_settle_120 : decode cX4_settle 120 = .ok (.iadd, 1) := by decide +kernel
theorem dX4_settle_121 : decode cX4_settle 121 = .ok (.istore 11, 2) := by decide +kernel
theorem dX4_settle_123 : decode cX4_settle 123 = .ok (.iload 7, 2) := by decide +kernel
theorem dX4_settle_125 : decode cX4_settle 125 = .ok (.iconst (-1), 1) := by decide +kernel
theorem dX4_settle_126 : decode cX4_settle 126 = .ok (.if_icmp .eq 10, 3) := by decide +kernel
theorem dX4_settle_129 : decode cX4_settle 129 = .ok (.iload 11, 2) := by decide +kernel
theorem dX4_settle_131 : decode cX4_settle 131 = .ok (.iload 7, 2) := by decide +kernel
theorem dX4_settle_133 : decode cX4_settle 133 = .ok (.if_icmp .ge 11, 3) := by decide +kernel
theorem dX4_settle_136 : decode cX4_settle 136 = .ok (.iload 11, 2) := by decide +kernel
theorem dX4_settle_138 : decode cX4_settle 138 = .ok (.istore 7, 2) := by decide +kernel
theorem dX4_settle_140 : decode cX4_settle 140 = .ok (.iload 9, 2) := by decide +kernel
theorem dX4_settle_142 : decode cX4_settle 142 = .ok (.istore 8, 2) := by decide +kernel
theorem dX4_settle_144 : decode cX4_settle 144 = .ok (.iinc 9 1, 3) := by decide +kernel
theorem dX4_settle_147 : decode cX4_settle 147 = .ok (.goto (-103), 3) := by decide +kernel
theorem dX4_settle_150 : decode cX4_settle 150 = .ok (.aload_n 0, 1) := by decide +kernel
theorem dX4_settle_151 : decode cX4_settle 151 = .ok (.iload 4, 2) := by decide +kernel
theorem dX4_settle_153 : decode cX4_settle 153 = .ok (.iload 7, 2) := by decide +kernel
theorem dX4_settle_155 : decode cX4_settle 155 = .ok (.iload 8, 2) := by decide +kernel
theorem dX4_settle_157 : decode cX4_settle 157 = .ok (.invokevirtual 68, 3) := by decide +kernel
theorem dX4_settle_160 : decode cX4_settle 160 = .ok (.return_, 1) := by decide +kernel
theorem dX4_keep_0 : decode cX4_keep 0 = .ok (.iload_n 1, 1) := by decide +kernel
theorem dX4_keep_1 : decode cX4_keep 1 = .ok (.ifCond .lt 35, 3) := by decide +kernel
theorem dX4_keep_4 : decode cX4_keep 4 = .ok (.iload_n 1, 1) := by decide +kernel
theorem dX4_keep_5 : decode cX4_keep 5 = .ok (.aload_n 0, 1) := by decide +kernel
theorem dX4_keep_6 : decode cX4_keep 6 = .ok (.getfield 9, 3) := by decide +kernel
theorem dX4_keep_9 : decode cX4_keep 9 = .ok (.arraylength, 1) := by decide +kernel
theorem dX4_keep_10 : decode cX4_keep 10 = .ok (.if_icmp .ge 26, 3) := by decide +kernel
theorem dX4_keep_13 : decode cX4_keep 13 = .ok (.iload_n 1, 1) := by decide +kernel
theorem dX4_keep_14 : decode cX4_keep 14 = .ok (.aload_n 0, 1) := by decide +kernel
theorem dX4_keep_15 : decode cX4_keep 15 = .ok (.getfield 15, 3) := by decide +kernel
theorem dX4_keep_18 : decode cX4_keep 18 = .ok (.arraylength, 1) := by decide +kernel
theorem dX4_keep_19 : decode cX4_keep 19 = .ok (.if_icmp .ge 17, 3) := by decide +kernel
theorem dX4_keep_22 : decode cX4_keep 22 = .ok (.aload_n 0, 1) := by decide +kernel
theorem dX4_keep_23 : decode cX4_keep 23 = .ok (.getfield 9, 3) := by decide +kernel
theorem dX4_keep_26 : decode cX4_keep 26 = .ok (.iload_n 1, 1) := by decide +kernel
theorem dX4_keep_27 : decode cX4_keep 27 = .ok (.iload_n 2, 1) := by decide +kernel
theorem dX4_keep_28 : decode cX4_keep 28 = .ok (.iastore, 1) := by decide +kernel
theorem dX4_keep_29 : decode cX4_keep 29 = .ok (.aload_n 0, 1) := by decide +kernel
theorem dX4_keep_30 : decode cX4_keep 30 = .ok (.getfield 15, 3) := by decide +kernel
theorem dX4_keep_33 : decode cX4_keep 33 = .ok (.iload_n 1, 1) := by decide +kernel
theorem dX4_keep_34 : decode cX4_keep 34 = .ok (.iload_n 3, 1) := by decide +kernel
theorem dX4_keep_35 : decode cX4_keep 35 = .ok (.iastore, 1) := by decide +kernel
theorem dX4_keep_36 : decode cX4_keep 36 = .ok (.return_, 1) := by decide +kernel
theorem dX4_at_0 : decode cX4_at 0 = .ok (.iload_n 1, 1) := by decide +kernel
theorem dX4_at_1 : decode cX4_at 1 = .ok (.ifCond .lt 15, 3) := by decide +kernel
theorem dX4_at_4 : decode cX4_at 4 = .ok (.iload_n 1, 1) := by decide +kernel
theorem dX4_at_5 : decode cX4_at 5 = .ok (.aload_n 0, 1) := by decide +kernel
theorem dX4_at_6 : decode cX4_at 6 = .ok (.arraylength, 1) := by decide +kernel
theorem dX4_at_7 : decode cX4_at 7 = .ok (.if_icmp .ge 9, 3) := by decide +kernel
theorem dX4_at_10 : decode cX4_at 10 = .ok (.aload_n 0, 1) := by decide +kernel
theorem dX4_at_11 : decode cX4_at 11 = .ok (.iload_n 1, 1) := by decide +kernel
theorem dX4_at_12 : decode cX4_at 12 = .ok (.iaload, 1) := by decide +kernel
theorem dX4_at_13 : decode cX4_at 13 = .ok (.goto 4, 3) := by decide +kernel
theorem dX4_at_16 : decode cX4_at 16 = .ok (.iconst (-1), 1) := by decide +kernel
theorem dX4_at_17 : decode cX4_at 17 = .ok (.ireturn, 1) := by decide +kernel
theorem dX4_stepAt_0 : decode cX4_stepAt 0 = .ok (.aload_n 0, 1) := by decide +kernel
theorem dX4_stepAt_1 : decode cX4_stepAt 1 = .ok (.getfield 76, 3) := by decide +kernel
theorem dX4_stepAt_4 : decode cX4_stepAt 4 = .ok (.iload_n 1, 1) := by decide +kernel
theorem dX4_stepAt_5 : decode cX4_stepAt 5 = .ok (.invokestatic 79, 3) := by decide +kernel
theorem dX4_stepAt_8 : decode cX4_stepAt 8 = .ok (.iadd, 1) := by decide +kernel
theorem dX4_stepAt_9 : decode cX4_stepAt 9 = .ok (.aload_n 0, 1) := by decide +kernel
theorem dX4_stepAt_10 : decode cX4_stepAt 10 = .ok (.getfield 18, 3) := by decide +kernel
theorem dX4_stepAt_13 : decode cX4_stepAt 13 = .ok (.invokestatic 79, 3) := by decide +kernel
theorem dX4_stepAt_16 : decode cX4_stepAt 16 = .ok (.isub, 1) := by decide +kernel
theorem dX4_stepAt_17 : decode cX4_stepAt 17 = .ok (.ireturn, 1) := by decide +kernel
theorem dX4_allFictions_0 : decode cX4_allFictions 0 = .ok (.iconst 1, 1) := by decide +kernel
theorem dX4_allFictions_1 : decode cX4_allFictions 1 = .ok (.aload_n 0, 1) := by decide +kernel
theorem dX4_allFictions_2 : decode cX4_allFictions 2 = .ok (.getfield 48, 3) := by decide +kernel
theorem dX4_allFictions_5 : decode cX4_allFictions 5 = .ok (.getfield 52, 3) := by decide +kernel
theorem dX4_allFictions_8 : decode cX4_allFictions 8 = .ok (.ishl, 1) := by decide +kernel
theorem dX4_allFictions_9 : decode cX4_allFictions 9 = .ok (.iconst 1, 1) := by decide +kernel
theorem dX4_allFictions_10 : decode cX4_allFictions 10 = .ok (.isub, 1) := by decide +kernel
theorem dX4_allFictions_11 : decode cX4_allFictions 11 = .ok (.ireturn, 1) := by decide +kernel
theorem dX5_init_0 : decode cX5_init 0 = .ok (.aload_n 0, 1) := by decide +kernel
theorem dX5_init_1 : decode cX5_init 1 = .ok (.invokespecial 1, 3) := by decide +kernel
theorem dX5_init_4 : decode cX5_init 4 = .ok (.return_, 1) := by decide +kernel
theorem dX5_cost_0 : decode cX5_cost 0 = .ok (.aload_n 0, 1) := by decide +kernel
theorem dX5_cost_1 : decode cX5_cost 1 = .ok (.iload_n 1, 1) := by decide +kernel
theorem dX5_cost_2 : decode cX5_cost 2 = .ok (.iload_n 2, 1) := by decide +kernel
theorem dX5_cost_3 : decode cX5_cost 3 = .ok (.invokespecial 7, 3) := by decide +kernel
theorem dX5_cost_6 : decode cX5_cost 6 = .ok (.istore_n 3, 1) := by decide +kernel
theorem dX5_cost_7 : decode cX5_cost 7 = .ok (.iload_n 2, 1) := by decide +kernel
theorem dX5_cost_8 : decode cX5_cost 8 = .ok (.iconst 2, 1) := by decide +kernel
theorem dX5_cost_9 : decode cX5_cost 9 = .ok (.if_icmp .lt 11, 3) := by decide +kernel
theorem dX5_cost_12 : decode cX5_cost 12 = .ok (.iload_n 3, 1) := by decide +kernel
theorem dX5_cost_13 : decode cX5_cost 13 = .ok (.iconst 1, 1) := by decide +kernel
theorem dX5_cost_14 : decode cX5_cost 14 = .ok (.iadd, 1) := by decide +kernel
theorem dX5_cost_15 : decode cX5_cost 15 = .ok (.iconst 2, 1) := by decide +kernel
theorem dX5_cost_16 : decode cX5_cost 16 = .ok (.idiv, 1) := by decide +kernel
theorem dX5_cost_17 : decode cX5_cost 17 = .ok (.goto 4, 3) := by decide +kernel
theorem dX5_cost_20 : decode cX5_cost 20 = .ok (.iload_n 3, 1) := by decide +kernel
theorem dX5_cost_21 : decode cX5_cost 21 = .ok (.ireturn, 1) := by decide +kernel
theorem dX5_losesWith_0 : decode cX5_losesWith 0 = .ok (.iload_n 1, 1) := by decide +kernel
theorem dX5_losesWith_1 : decode cX5_losesWith 1 = .ok (.iconst 2, 1) := by decide +kernel
theorem dX5_losesWith_2 : decode cX5_losesWith 2 = .ok (.if_icmp .lt 7, 3) := by decide +kernel
theorem dX5_losesWith_5 : decode cX5_losesWith 5 = .ok (.iconst 1, 1) := by decide +kernel
theorem dX5_losesWith_6 : decode cX5_losesWith 6 = .ok (.goto 4, 3) := by decide +kernel
theorem dX5_losesWith_9 : decode cX5_losesWith 9 = .ok (.iconst 0, 1) := by decide +kernel
theorem dX5_losesWith_10 : decode cX5_losesWith 10 = .ok (.ireturn, 1) := by decide +kernel
theorem dX6_init_0 : decode cX6_init 0 = .ok (.aload_n 0, 1) := by decide +kernel
theorem dX6_init_1 : decode cX6_init 1 = .ok (.invokespecial 1, 3) := by decide +kernel
theorem dX6_init_4 : decode cX6_init 4 = .ok (.return_, 1) := by decide +kernel
theorem dX6_allows_0 : decode cX6_allows 0 = .ok (.iload_n 2, 1) := by decide +kernel
theorem dX6_allows_1 : decode cX6_allows 1 = .ok (.iload_n 1, 1) := by decide +kernel
theorem dX6_allows_2 : decode cX6_allows 2 = .ok (.if_icmp .ne 7, 3) := by decide +kernel
theorem dX6_allows_5 : decode cX6_allows 5 = .ok (.iconst 1, 1) := by decide +kernel
theorem dX6_allows_6 : decode cX6_allows 6 = .ok (.goto 4, 3) := by decide +kernel
theorem dX6_allows_9 : decode cX6_allows 9 = .ok (.iconst 0, 1) := by decide +kernel
theorem dX6_allows_10 : decode cX6_allows 10 = .ok (.ireturn, 1) := by decide +kernel
theorem dX6_cost_0 : decode cX6_cost 0 = .ok (.iload_n 1, 1) := by decide +kernel
theorem dX6_cost_1 : decode cX6_cost 1 = .ok (.ireturn, 1) := by decide +kernel
theorem dX6_losesWith_0 : decode cX6_losesWith 0 = .ok (.iconst 0, 1) := by decide +kernel
theorem dX6_losesWith_1 : decode cX6_losesWith 1 = .ok (.ireturn, 1) := by decide +kernel
theorem dX7_init_0 : decode cX7_init 0 = .ok (.aload_n 0, 1) := by decide +kernel
theorem dX7_init_1 : decode cX7_init 1 = .ok (.invokespecial 1, 3) := by decide +kernel
theorem dX7_init_4 : decode cX7_init 4 = .ok (.aload_n 0, 1) := by decide +kernel
theorem dX7_init_5 : decode cX7_init 5 = .ok (.iload_n 1, 1) := by decide +kernel
theorem dX7_init_6 : decode cX7_init 6 = .ok (.putfield 7, 3) := by decide +kernel
theorem dX7_init_9 : decode cX7_init 9 = .ok (.aload_n 0, 1) := by decide +kernel
theorem dX7_init_10 : decode cX7_init 10 = .ok (.iload_n 2, 1) := by decide +kernel
theorem dX7_init_11 : decode cX7_init 11 = .ok (.putfield 13, 3) := by decide +kernel
theorem dX7_init_14 : decode cX7_init 14 = .ok (.aload_n 0, 1) := by decide +kernel
theorem dX7_init_15 : decode cX7_init 15 = .ok (.iconst 0, 1) := by decide +kernel
theorem dX7_init_16 : decode cX7_init 16 = .ok (.iload_n 1, 1) := by decide +kernel
theorem dX7_init_17 : decode cX7_init 17 = .ok (.iload_n 2, 1) := by decide +kernel
theorem dX7_init_18 : decode cX7_init 18 = .ok (.imul, 1) := by decide +kernel
theorem dX7_init_19 : decode cX7_init 19 = .ok (.invokestatic 16, 3) := by decide +kernel
theorem dX7_init_22 : decode cX7_init 22 = .ok (.newarray .int, 2) := by decide +kernel
theorem dX7_init_24 : decode cX7_init 24 = .ok (.putfield 22, 3) := by decide +kernel
theorem dX7_init_27 : decode cX7_init 27 = .ok (.return_, 1) := by decide +kernel
theorem dX7_isFull_0 : decode cX7_isFull 0 = .ok (.aload_n 0, 1) := by decide +kernel
theorem dX7_isFull_1 : decode cX7_isFull 1 = .ok (.getfield 26, 3) := by decide +kernel
theorem dX7_isFull_4 : decode cX7_isFull 4 = .ok (.aload_n 0, 1) := by decide +kernel
theorem dX7_isFull_5 : decode cX7_isFull 5 = .ok (.getfield 7, 3) := by decide +kernel
theorem dX7_isFull_8 : decode cX7_isFull 8 = .ok (.if_icmp .lt 7, 3) := by decide +kernel
theorem dX7_isFull_11 : decode cX7_isFull 11 = .ok (.iconst 1, 1) := by decide +kernel
theorem dX7_isFull_12 : decode cX7_isFull 12 = .ok (.goto 4, 3) := by decide +kernel
theorem dX7_isFull_15 : decode cX7_isFull 15 = .ok (.iconst 0, 1) := by decide +kernel
theorem dX7_isFull_16 : decode cX7_isFull 16 = .ok (.ireturn, 1) := by decide +kernel
theorem dX7_empty_0 : decode cX7_empty 0 = .ok (.aload_n 0, 1) := by decide +kernel
theorem dX7_empty_1 : decode cX7_empty 1 = .ok (.iconst 0, 1) := by decide +kernel
theorem dX7_empty_2 : decode cX7_empty 2 = .ok (.putfield 26, 3) := by decide +kernel
theorem dX7_empty_5 : decode cX7_empty 5 = .ok (.return_, 1) := by decide +kernel
theorem dX7_cell_0 : decode cX7_cell 0 = .ok (.iload_n 1, 1) := by decide +kernel
theorem dX7_cell_1 : decode cX7_cell 1 = .ok (.aload_n 0, 1) := by decide +kernel
theorem dX7_cell_2 : decode cX7_cell 2 = .ok (.getfield 13, 3) := by decide +kernel
theorem dX7_cell_5 : decode cX7_cell 5 = .ok (.imul, 1) := by decide +kernel
theorem dX7_cell_6 : decode cX7_cell 6 = .ok (.iload_n 2, 1) := by decide +kernel
theorem dX7_cell_7 : decode cX7_cell 7 = .ok (.iadd, 1) := by decide +kernel
theorem dX7_cell_8 : decode cX7_cell 8 = .ok (.istore_n 3, 1) := by decide +kernel
theorem dX7_cell_9 : decode cX7_cell 9 = .ok (.iload_n 3, 1) := by decide +kernel
theorem dX7_cell_10 : decode cX7_cell 10 = .ok (.ifCond .lt 21, 3) := by decide +kernel
theorem dX7_cell_13 : decode cX7_cell 13 = .ok (.iload_n 3, 1) := by decide +kernel
theorem dX7_cell_14 : decode cX7_cell 14 = .ok (.aload_n 0, 1) := by decide +kernel
theorem dX7_cell_15 : decode cX7_cell 15 = .ok (.getfield 22, 3) := by decide +kernel
theorem dX7_cell_18 : decode cX7_cell 18 = .ok (.arraylength, 1) := by decide +kernel
theorem dX7_cell_19 : decode cX7_cell 19 = .ok (.if_icmp .ge 12, 3) := by decide +kernel
theorem dX7_cell_22 : decode cX7_cell 22 = .ok (.aload_n 0, 1) := by decide +kernel
theorem dX7_cell_23 : decode cX7_cell 23 = .ok (.getfield 22, 3) := by decide +kernel
theorem dX7_cell_26 : decode cX7_cell 26 = .ok (.iload_n 3, 1) := by decide +kernel
theorem dX7_cell_27 : decode cX7_cell 27 = .ok (.iaload, 1) := by decide +kernel
theorem dX7_cell_28 : decode cX7_cell 28 = .ok (.goto 4, 3) := by decide +kernel
theorem dX7_cell_31 : decode cX7_cell 31 = .ok (.iconst 0, 1) := by decide +kernel
theorem dX7_cell_32 : decode cX7_cell 32 = .ok (.ireturn, 1) := by decide +kernel
theorem dX7_add_0 : decode cX7_add 0 = .ok (.aload_n 0, 1) := by decide +kernel
theorem dX7_add_1 : decode cX7_add 1 = .ok (.invokevirtual 29, 3) := by decide +kernel
theorem dX7_add_4 : decode cX7_add 4 = .ok (.ifCond .eq 4, 3) := by decide +kernel
theorem dX7_add_7 : decode cX7_add 7 = .ok (.return_, 1) := by decide +kernel
theorem dX7_add_8 : decode cX7_add 8 = .ok (.aload_n 0, 1) := by decide +kernel
theorem dX7_add_9 : decode cX7_add 9 = .ok (.aload_n 0, 1) := by decide +kernel
theorem dX7_add_10 : decode cX7_add 10 = .ok (.getfield 26, 3) := by decide +kernel
theorem dX7_add_13 : decode cX7_add 13 = .ok (.iconst 0, 1) := by decide +kernel
theorem dX7_add_14 : decode cX7_add 14 = .ok (.iload_n 1, 1) := by decide +kernel
theorem dX7_add_15 : decode cX7_add 15 = .ok (.invokevirtual 33, 3) := by decide +kernel
theorem dX7_add_18 : decode cX7_add 18 = .ok (.aload_n 0, 1) := by decide +kernel
theorem dX7_add_19 : decode cX7_add 19 = .ok (.aload_n 0, 1) := by decide +kernel
theorem dX7_add_20 : decode cX7_add 20 = .ok (.getfield 26, 3) := by decide +kernel
theorem dX7_add_23 : decode cX7_add 23 = .ok (.iconst 1, 1) := by decide +kernel
theorem dX7_add_24 : decode cX7_add 24 = .ok (.iload_n 2, 1) := by decide +kernel
theorem dX7_add_25 : decode cX7_add 25 = .ok (.invokevirtual 33, 3) := by decide +kernel
theorem dX7_add_28 : decode cX7_add 28 = .ok (.aload_n 0, 1) := by decide +kernel
theorem dX7_add_29 : decode cX7_add 29 = .ok (.aload_n 0, 1) := by decide +kernel
theorem dX7_add_30 : decode cX7_add 30 = .ok (.getfield 26, 3) := by decide +kernel
theorem dX7_add_33 : decode cX7_add 33 = .ok (.iconst 2, 1) := by decide +kernel
theorem dX7_add_34 : decode cX7_add 34 = .ok (.iload_n 3, 1) := by decide +kernel
theorem dX7_add_35 : decode cX7_add 35 = .ok (.invokevirtual 33, 3) := by decide +kernel
theorem dX7_add_38 : decode cX7_add 38 = .ok (.aload_n 0, 1) := by decide +kernel
theorem dX7_add_39 : decode cX7_add 39 = .ok (.aload_n 0, 1) := by decide +kernel
theorem dX7_add_40 : decode cX7_add 40 = .ok (.getfield 26, 3) := by decide +kernel
theorem dX7_add_43 : decode cX7_add 43 = .ok (.iconst 3, 1) := by decide +kernel
theorem dX7_add_44 : decode cX7_add 44 = .ok (.iload 4, 2) := by decide +kernel
theorem dX7_add_46 : decode cX7_add 46 = .ok (.invokevirtual 33, 3) := by decide +kernel
theorem dX7_add_49 : decode cX7_add 49 = .ok (.aload_n 0, 1) := by decide +kernel
theorem dX7_add_50 : decode cX7_add 50 = .ok (.dup, 1) := by decide +kernel
theorem dX7_add_51 : decode cX7_add 51 = .ok (.getfield 26, 3) := by decide +kernel
theorem dX7_add_54 : decode cX7_add 54 = .ok (.iconst 1, 1) := by decide +kernel
theorem dX7_add_55 : decode cX7_add 55 = .ok (.iadd, 1) := by decide +kernel
theorem dX7_add_56 : decode cX7_add 56 = .ok (.putfield 26, 3) := by decide +kernel
theorem dX7_add_59 : decode cX7_add 59 = .ok (.return_, 1) := by decide +kernel
theorem dX7_dropLast_0 : decode cX7_dropLast 0 = .ok (.aload_n 0, 1) := by decide +kernel
theorem dX7_dropLast_1 : decode cX7_dropLast 1 = .ok (.getfield 26, 3) := by decide +kernel
theorem dX7_dropLast_4 : decode cX7_dropLast 4 = .ok (.ifCond .le 13, 3) := by decide +kernel
theorem dX7_dropLast_7 : decode cX7_dropLast 7 = .ok (.aload_n 0, 1) := by decide +kernel
theorem dX7_dropLast_8 : decode cX7_dropLast 8 = .ok (.dup, 1) := by decide +kernel
theorem dX7_dropLast_9 : decode cX7_dropLast 9 = .ok (.getfield 26, 3) := by decide +kernel
theorem dX7_dropLast_12 : decode cX7_dropLast 12 = .ok (.iconst 1, 1) := by decide +kernel
theorem dX7_dropLast_13 : decode cX7_dropLast 13 = .ok (.isub, 1) := by decide +kernel
theorem dX7_dropLast_14 : decode cX7_dropLast 14 = .ok (.putfield 26, 3) := by decide +kernel
theorem dX7_dropLast_17 : decode cX7_dropLast 17 = .ok (.return_, 1) := by decide +kernel
theorem dX7_dropFirst_0 : decode cX7_dropFirst 0 = .ok (.aload_n 0, 1) := by decide +kernel
theorem dX7_dropFirst_1 : decode cX7_dropFirst 1 = .ok (.getfield 13, 3) := by decide +kernel
theorem dX7_dropFirst_4 : decode cX7_dropFirst 4 = .ok (.istore_n 1, 1) := by decide +kernel
theorem dX7_dropFirst_5 : decode cX7_dropFirst 5 = .ok (.iload_n 1, 1) := by decide +kernel
theorem dX7_dropFirst_6 : decode cX7_dropFirst 6 = .ok (.aload_n 0, 1) := by decide +kernel
theorem dX7_dropFirst_7 : decode cX7_dropFirst 7 = .ok (.getfield 22, 3) := by decide +kernel
theorem dX7_dropFirst_10 : decode cX7_dropFirst 10 = .ok (.arraylength, 1) := by decide +kernel
theorem dX7_dropFirst_11 : decode cX7_dropFirst 11 = .ok (.if_icmp .ge 32, 3) := by decide +kernel
theorem dX7_dropFirst_14 : decode cX7_dropFirst 14 = .ok (.iload_n 1, 1) := by decide +kernel
theorem dX7_dropFirst_15 : decode cX7_dropFirst 15 = .ok (.aload_n 0, 1) := by decide +kernel
theorem dX7_dropFirst_16 : decode cX7_dropFirst 16 = .ok (.getfield 13, 3) := by decide +kernel
theorem dX7_dropFirst_19 : decode cX7_dropFirst 19 = .ok (.isub, 1) := by decide +kernel
theorem dX7_dropFirst_20 : decode cX7_dropFirst 20 = .ok (.istore_n 2, 1) := by decide +kernel
theorem dX7_dropFirst_21 : decode cX7_dropFirst 21 = .ok (.iload_n 2, 1) := by decide +kernel
theorem dX7_dropFirst_22 : decode cX7_dropFirst 22 = .ok (.ifCond .lt 15, 3) := by decide +kernel
theorem dX7_dropFirst_25 : decode cX7_dropFirst 25 = .ok (.aload_n 0, 1) := by decide +kernel
theorem dX7_dropFirst_26 : decode cX7_dropFirst 26 = .ok (.getfield 22, 3) := by decide +kernel
theorem dX7_dropFirst_29 : decode cX7_dropFirst 29 = .ok (.iload_n 2, 1) := by decide +kernel
theorem dX7_dropFirst_30 : decode cX7_dropFirst 30 = .ok (.aload_n 0, 1) := by decide +kernel
theorem dX7_dropFirst_31 : decode cX7_dropFirst 31 = .ok (.getfield 22, 3) := by decide +kernel
theorem dX7_dropFirst_34 : decode cX7_dropFirst 34 = .ok (.iload_n 1, 1) := by decide +kernel
theorem dX7_dropFirst_35 : decode cX7_dropFirst 35 = .ok (.iaload, 1) := by decide +kernel
theorem dX7_dropFirst_36 : decode cX7_dropFirst 36 = .ok (.iastore, 1) := by decide +kernel
theorem dX7_dropFirst_37 : decode cX7_dropFirst 37 = .ok (.iinc 1 1, 3) := by decide +kernel
theorem dX7_dropFirst_40 : decode cX7_dropFirst 40 = .ok (.goto (-35), 3) := by decide +kernel
theorem dX7_dropFirst_43 : decode cX7_dropFirst 43 = .ok (.aload_n 0, 1) := by decide +kernel
theorem dX7_dropFirst_44 : decode cX7_dropFirst 44 = .ok (.invokevirtual 37, 3) := by decide +kernel
theorem dX7_dropFirst_47 : decode cX7_dropFirst 47 = .ok (.return_, 1) := by decide +kernel
theorem dX7_become_0 : decode cX7_become 0 = .ok (.iconst 0, 1) := by decide +kernel
theorem dX7_become_1 : decode cX7_become 1 = .ok (.istore_n 2, 1) := by decide +kernel
theorem dX7_become_2 : decode cX7_become 2 = .ok (.iload_n 2, 1) := by decide +kernel
theorem dX7_become_3 : decode cX7_become 3 = .ok (.aload_n 0, 1) := by decide +kernel
theorem dX7_become_4 : decode cX7_become 4 = .ok (.getfield 22, 3) := by decide +kernel
theorem dX7_become_7 : decode cX7_become 7 = .ok (.arraylength, 1) := by decide +kernel
theorem dX7_become_8 : decode cX7_become 8 = .ok (.if_icmp .ge 30, 3) := by decide +kernel
theorem dX7_become_11 : decode cX7_become 11 = .ok (.iload_n 2, 1) := by decide +kernel
theorem dX7_become_12 : decode cX7_become 12 = .ok (.aload_n 1, 1) := by decide +kernel
theorem dX7_become_13 : decode cX7_become 13 = .ok (.getfield 22, 3) := by decide +kernel
theorem dX7_become_16 : decode cX7_become 16 = .ok (.arraylength, 1) := by decide +kernel
theorem dX7_become_17 : decode cX7_become 17 = .ok (.if_icmp .ge 21, 3) := by decide +kernel
theorem dX7_become_20 : decode cX7_become 20 = .ok (.aload_n 0, 1) := by decide +kernel
theorem dX7_become_21 : decode cX7_become 21 = .ok (.getfield 22, 3) := by decide +kernel
theorem dX7_become_24 : decode cX7_become 24 = .ok (.iload_n 2, 1) := by decide +kernel
theorem dX7_become_25 : decode cX7_become 25 = .ok (.aload_n 1, 1) := by decide +kernel
theorem dX7_become_26 : decode cX7_become 26 = .ok (.getfield 22, 3) := by decide +kernel
theorem dX7_become_29 : decode cX7_become 29 = .ok (.iload_n 2, 1) := by decide +kernel
theorem dX7_become_30 : decode cX7_become 30 = .ok (.iaload, 1) := by decide +kernel
theorem dX7_become_31 : decode cX7_become 31 = .ok (.iastore, 1) := by decide +kernel
theorem dX7_become_32 : decode cX7_become 32 = .ok (.iinc 2 1, 3) := by decide +kernel
theorem dX7_become_35 : decode cX7_become 35 = .ok (.goto (-33), 3) := by decide +kernel
theorem dX7_become_38 : decode cX7_become 38 = .ok (.aload_n 0, 1) := by decide +kernel
theorem dX7_become_39 : decode cX7_become 39 = .ok (.aload_n 1, 1) := by decide +kernel
theorem dX7_become_40 : decode cX7_become 40 = .ok (.getfield 26, 3) := by decide +kernel
theorem dX7_become_43 : decode cX7_become 43 = .ok (.putfield 26, 3) := by decide +kernel
theorem dX7_become_46 : decode cX7_become 46 = .ok (.return_, 1) := by decide +kernel
theorem dX7_digestFrom_0 : decode cX7_digestFrom 0 = .ok (.lload_n 1, 1) := by decide +kernel
theorem dX7_digestFrom_1 : decode cX7_digestFrom 1 = .ok (.lstore_n 3, 1) := by decide +kernel
theorem dX7_digestFrom_2 : decode cX7_digestFrom 2 = .ok (.iconst 0, 1) := by decide +kernel
theorem dX7_digestFrom_3 : decode cX7_digestFrom 3 = .ok (.istore 5, 2) := by decide +kernel
theorem dX7_digestFrom_5 : decode cX7_digestFrom 5 = .ok (.iload 5, 2) := by decide +kernel
theorem dX7_digestFrom_7 : decode cX7_digestFrom 7 = .ok (.aload_n 0, 1) := by decide +kernel
theorem dX7_digestFrom_8 : decode cX7_digestFrom 8 = .ok (.getfield 26, 3) := by decide +kernel
theorem dX7_digestFrom_11 : decode cX7_digestFrom 11 = .ok (.if_icmp .ge 43, 3) := by decide +kernel
theorem dX7_digestFrom_14 : decode cX7_digestFrom 14 = .ok (.iconst 0, 1) := by decide +kernel
theorem dX7_digestFrom_15 : decode cX7_digestFrom 15 = .ok (.istore 6, 2) := by decide +kernel
theorem dX7_digestFrom_17 : decode cX7_digestFrom 17 = .ok (.iload 6, 2) := by decide +kernel
theorem dX7_digestFrom_19 : decode cX7_digestFrom 19 = .ok (.aload_n 0, 1) := by decide +kernel
theorem dX7_digestFrom_20 : decode cX7_digestFrom 20 = .ok (.getfield 13, 3) := by decide +kernel
theorem dX7_digestFrom_23 : decode cX7_digestFrom 23 = .ok (.if_icmp .ge 25, 3) := by decide +kernel
theorem dX7_digestFrom_26 : decode cX7_digestFrom 26 = .ok (.ldc2_w 40, 3) := by decide +kernel
theorem dX7_digestFrom_29 : decode cX7_digestFrom 29 = .ok (.lload_n 3, 1) := by decide +kernel
theorem dX7_digestFrom_30 : decode cX7_digestFrom 30 = .ok (.lmul, 1) := by decide +kernel
theorem dX7_digestFrom_31 : decode cX7_digestFrom 31 = .ok (.aload_n 0, 1) := by decide +kernel
theorem dX7_digestFrom_32 : decode cX7_digestFrom 32 = .ok (.iload 5, 2) := by decide +kernel
theorem dX7_digestFrom_34 : decode cX7_digestFrom 34 = .ok (.iload 6, 2) := by decide +kernel
theorem dX7_digestFrom_36 : decode cX7_digestFrom 36 = .ok (.invokevirtual 42, 3) := by decide +kernel
theorem dX7_digestFrom_39 : decode cX7_digestFrom 39 = .ok (.i2l, 1) := by decide +kernel
theorem dX7_digestFrom_40 : decode cX7_digestFrom 40 = .ok (.ladd, 1) := by decide +kernel
theorem dX7_digestFrom_41 : decode cX7_digestFrom 41 = .ok (.lstore_n 3, 1) := by decide +kernel
theorem dX7_digestFrom_42 : decode cX7_digestFrom 42 = .ok (.iinc 6 1, 3) := by decide +kernel
theorem dX7_digestFrom_45 : decode cX7_digestFrom 45 = .ok (.goto (-28), 3) := by decide +kernel
theorem dX7_digestFrom_48 : decode cX7_digestFrom 48 = .ok (.iinc 5 1, 3) := by decide +kernel
theorem dX7_digestFrom_51 : decode cX7_digestFrom 51 = .ok (.goto (-46), 3) := by decide +kernel
theorem dX7_digestFrom_54 : decode cX7_digestFrom 54 = .ok (.lload_n 3, 1) := by decide +kernel
theorem dX7_digestFrom_55 : decode cX7_digestFrom 55 = .ok (.lreturn, 1) := by decide +kernel
theorem dX7_put_0 : decode cX7_put 0 = .ok (.iload_n 1, 1) := by decide +kernel
theorem dX7_put_1 : decode cX7_put 1 = .ok (.aload_n 0, 1) := by decide +kernel
theorem dX7_put_2 : decode cX7_put 2 = .ok (.getfield 13, 3) := by decide +kernel
theorem dX7_put_5 : decode cX7_put 5 = .ok (.imul, 1) := by decide +kernel
theorem dX7_put_6 : decode cX7_put 6 = .ok (.iload_n 2, 1) := by decide +kernel
theorem dX7_put_7 : decode cX7_put 7 = .ok (.iadd, 1) := by decide +kernel
theorem dX7_put_8 : decode cX7_put 8 = .ok (.istore 4, 2) := by decide +kernel
theorem dX7_put_10 : decode cX7_put 10 = .ok (.iload_n 2, 1) := by decide +kernel
theorem dX7_put_11 : decode cX7_put 11 = .ok (.aload_n 0, 1) := by decide +kernel
theorem dX7_put_12 : decode cX7_put 12 = .ok (.getfield 13, 3) := by decide +kernel
theorem dX7_put_15 : decode cX7_put 15 = .ok (.if_icmp .ge 26, 3) := by decide +kernel
theorem dX7_put_18 : decode cX7_put 18 = .ok (.iload 4, 2) := by decide +kernel
theorem dX7_put_20 : decode cX7_put 20 = .ok (.ifCond .lt 21, 3) := by decide +kernel
theorem dX7_put_23 : decode cX7_put 23 = .ok (.iload 4, 2) := by decide +kernel
theorem dX7_put_25 : decode cX7_put 25 = .ok (.aload_n 0, 1) := by decide +kernel
theorem dX7_put_26 : decode cX7_put 26 = .ok (.getfield 22, 3) := by decide +kernel
theorem dX7_put_29 : decode cX7_put 29 = .ok (.arraylength, 1) := by decide +kernel
theorem dX7_put_30 : decode cX7_put 30 = .ok (.if_icmp .ge 11, 3) := by decide +kernel
theorem dX7_put_33 : decode cX7_put 33 = .ok (.aload_n 0, 1) := by decide +kernel
theorem dX7_put_34 : decode cX7_put 34 = .ok (.getfield 22, 3) := by decide +kernel
theorem dX7_put_37 : decode cX7_put 37 = .ok (.iload 4, 2) := by decide +kernel
theorem dX7_put_39 : decode cX7_put 39 = .ok (.iload_n 3, 1) := by decide +kernel
theorem dX7_put_40 : decode cX7_put 40 = .ok (.iastore, 1) := by decide +kernel
theorem dX7_put_41 : decode cX7_put 41 = .ok (.return_, 1) := by decide +kernel
theorem dX8_init_0 : decode cX8_init 0 = .ok (.aload_n 0, 1) := by decide +kernel
theorem dX8_init_1 : decode cX8_init 1 = .ok (.invokespecial 1, 3) := by decide +kernel
theorem dX8_init_4 : decode cX8_init 4 = .ok (.return_, 1) := by decide +kernel
theorem dX8_cost_0 : decode cX8_cost 0 = .ok (.aload_n 0, 1) := by decide +kernel
theorem dX8_cost_1 : decode cX8_cost 1 = .ok (.iload_n 1, 1) := by decide +kernel
theorem dX8_cost_2 : decode cX8_cost 2 = .ok (.iload_n 2, 1) := by decide +kernel
theorem dX8_cost_3 : decode cX8_cost 3 = .ok (.invokespecial 7, 3) := by decide +kernel
theorem dX8_cost_6 : decode cX8_cost 6 = .ok (.iload_n 2, 1) := by decide +kernel
theorem dX8_cost_7 : decode cX8_cost 7 = .ok (.iadd, 1) := by decide +kernel
theorem dX8_cost_8 : decode cX8_cost 8 = .ok (.ireturn, 1) := by decide +kernel
theorem dX8_losesWith_0 : decode cX8_losesWith 0 = .ok (.iload_n 1, 1) := by decide +kernel
theorem dX8_losesWith_1 : decode cX8_losesWith 1 = .ok (.iconst 3, 1) := by decide +kernel
theorem dX8_losesWith_2 : decode cX8_losesWith 2 = .ok (.if_icmp .lt 7, 3) := by decide +kernel
theorem dX8_losesWith_5 : decode cX8_losesWith 5 = .ok (.iconst 1, 1) := by decide +kernel
theorem dX8_losesWith_6 : decode cX8_losesWith 6 = .ok (.goto 4, 3) := by decide +kernel
theorem dX8_losesWith_9 : decode cX8_losesWith 9 = .ok (.iconst 0, 1) := by decide +kernel
theorem dX8_losesWith_10 : decode cX8_losesWith 10 = .ok (.ireturn, 1) := by decide +kernel
theorem dX9_init_0 : decode cX9_init 0 = .ok (.aload_n 0, 1) := by decide +kernel
theorem dX9_init_1 : decode cX9_init 1 = .ok (.invokespecial 1, 3) := by decide +kernel
theorem dX9_init_4 : decode cX9_init 4 = .ok (.return_, 1) := by decide +kernel
theorem dX9_allows_0 : decode cX9_allows 0 = .ok (.iload_n 3, 1) := by decide +kernel
theorem dX9_allows_1 : decode cX9_allows 1 = .ok (.iconst 1, 1) := by decide +kernel
theorem dX9_allows_2 : decode cX9_allows 2 = .ok (.iand, 1) := by decide +kernel
theorem dX9_allows_3 : decode cX9_allows 3 = .ok (.iconst 1, 1) := by decide +kernel
theorem dX9_allows_4 : decode cX9_allows 4 = .ok (.if_icmp .ne 17, 3) := by decide +kernel
theorem dX9_allows_7 : decode cX9_allows 7 = .ok (.aload_n 0, 1) := by decide +kernel
theorem dX9_allows_8 : decode cX9_allows 8 = .ok (.iload_n 1, 1) := by decide +kernel
theorem dX9_allows_9 : decode cX9_allows 9 = .ok (.iload_n 2, 1) := by decide +kernel
theorem dX9_allows_10 : decode cX9_allows 10 = .ok (.iload_n 3, 1) := by decide +kernel
theorem dX9_allows_11 : decode cX9_allows 11 = .ok (.invokespecial 7, 3) := by decide +kernel
theorem dX9_allows_14 : decode cX9_allows 14 = .ok (.ifCond .eq 7, 3) := by decide +kernel
theorem dX9_allows_17 : decode cX9_allows 17 = .ok (.iconst 1, 1) := by decide +kernel
theorem dX9_allows_18 : decode cX9_allows 18 = .ok (.goto 4, 3) := by decide +kernel
theorem dX9_allows_21 : decode cX9_allows 21 = .ok (.iconst 0, 1) := by decide +kernel
theorem dX9_allows_22 : decode cX9_allows 22 = .ok (.ireturn, 1) := by decide +kernel
theorem dX9_losesWith_0 : decode cX9_losesWith 0 = .ok (.iload_n 1, 1) := by decide +kernel
theorem dX9_losesWith_1 : decode cX9_losesWith 1 = .ok (.iconst 1, 1) := by decide +kernel
theorem dX9_losesWith_2 : decode cX9_losesWith 2 = .ok (.if_icmp .lt 7, 3) := by decide +kernel
theorem dX9_losesWith_5 : decode cX9_losesWith 5 = .ok (.iconst 1, 1) := by decide +kernel
theorem dX9_losesWith_6 : decode cX9_losesWith 6 = .ok (.goto 4, 3) := by decide +kernel
theorem dX9_losesWith_9 : decode cX9_losesWith 9 = .ok (.iconst 0, 1) := by decide +kernel
theorem dX9_losesWith_10 : decode cX9_losesWith 10 = .ok (.ireturn, 1) := by decide +kernel
theorem dX10_init_0 : decode cX10_init 0 = .ok (.aload_n 0, 1) := by decide +kernel
theorem dX10_init_1 : decode cX10_init 1 = .ok (.invokespecial 1, 3) := by decide +kernel
theorem dX10_init_4 : decode cX10_init 4 = .ok (.bipush 6, 2) := by decide +kernel
theorem dX10_init_6 : decode cX10_init 6 = .ok (.anewarray 7, 3) := by decide +kernel
theorem dX10_init_9 : decode cX10_init 9 = .ok (.dup, 1) := by decide +kernel
theorem dX10_init_10 : decode cX10_init 10 = .ok (.iconst 0, 1) := by decide +kernel
theorem dX10_init_11 : decode cX10_init 11 = .ok (.new 7, 3) := by decide +kernel
theorem dX10_init_14 : decode cX10_init 14 = .ok (.dup, 1) := by decide +kernel
theorem dX10_init_15 : decode cX10_init 15 = .ok (.invokespecial 9, 3) := by decide +kernel
theorem dX10_init_18 : decode cX10_init 18 = .ok (.aastore, 1) := by decide +kernel
theorem dX10_init_19 : decode cX10_init 19 = .ok (.dup, 1) := by decide +kernel
theorem dX10_init_20 : decode cX10_init 20 = .ok (.iconst 1, 1) := by decide +kernel
theorem dX10_init_21 : decode cX10_init 21 = .ok (.new 10, 3) := by decide +kernel
theorem dX10_init_24 : decode cX10_init 24 = .ok (.dup, 1) := by decide +kernel
theorem dX10_init_25 : decode cX10_init 25 = .ok (.invokespecial 12, 3) := by decide +kernel
theorem dX10_init_28 : decode cX10_init 28 = .ok (.aastore, 1) := by decide +kernel
theorem dX10_init_29 : decode cX10_init 29 = .ok (.dup, 1) := by decide +kernel
theorem dX10_init_30 : decode cX10_init 30 = .ok (.iconst 2, 1) := by decide +kernel
theorem dX10_init_31 : decode cX10_init 31 = .ok (.new 13, 3) := by decide +kernel
theorem dX10_init_34 : decode cX10_init 34 = .ok (.dup, 1) := by decide +kernel
theorem dX10_init_35 : decode cX10_init 35 = .ok (.invokespecial 15, 3) := by decide +kernel
theorem dX10_init_38 : decode cX10_init 38 = .ok (.aastore, 1) := by decide +kernel
theorem dX10_init_39 : decode cX10_init 39 = .ok (.dup, 1) := by decide +kernel
theorem dX10_init_40 : decode cX10_init 40 = .ok (.iconst 3, 1) := by decide +kernel
theorem dX10_init_41 : decode cX10_init 41 = .ok (.new 16, 3) := by decide +kernel
theorem dX10_init_44 : decode cX10_init 44 = .ok (.dup, 1) := by decide +kernel
theorem dX10_init_45 : decode cX10_init 45 = .ok (.invokespecial 18, 3) := by decide +kernel
theorem dX10_init_48 : decode cX10_init 48 = .ok (.aastore, 1) := by decide +kernel
theorem dX10_init_49 : decode cX10_init 49 = .ok (.dup, 1) := by decide +kernel
theorem dX10_init_50 : decode cX10_init 50 = .ok (.iconst 4, 1) := by decide +kernel
theorem dX10_init_51 : decode cX10_init 51 = .ok (.new 19, 3) := by decide +kernel
theorem dX10_init_54 : decode cX10_init 54 = .ok (.dup, 1) := by decide +kernel
theorem dX10_init_55 : decode cX10_init 55 = .ok (.invokespecial 21, 3) := by decide +kernel
theorem dX10_init_58 : decode cX10_init 58 = .ok (.aastore, 1) := by decide +kernel
theorem dX10_init_59 : decode cX10_init 59 = .ok (.dup, 1) := by decide +kernel
theorem dX10_init_60 : decode cX10_init 60 = .ok (.iconst 5, 1) := by decide +kernel
theorem dX10_init_61 : decode cX10_init 61 = .ok (.new 22, 3) := by decide +kernel
theorem dX10_init_64 : decode cX10_init 64 = .ok (.dup, 1) := by decide +kernel
theorem dX10_init_65 : decode cX10_init 65 = .ok (.invokespecial 24, 3) := by decide +kernel
theorem dX10_init_68 : decode cX10_init 68 = .ok (.aastore, 1) := by decide +kernel
theorem dX10_init_69 : decode cX10_init 69 = .ok (.astore_n 1, 1) := by decide +kernel
theorem dX10_init_70 : decode cX10_init 70 = .ok (.aload_n 0, 1) := by decide +kernel
theorem dX10_init_71 : decode cX10_init 71 = .ok (.new 25, 3) := by decide +kernel
theorem dX10_init_74 : decode cX10_init 74 = .ok (.dup, 1) := by decide +kernel
theorem dX10_init_75 : decode cX10_init 75 = .ok (.aload_n 1, 1) := by decide +kernel
theorem dX10_init_76 : decode cX10_init 76 = .ok (.invokespecial 27, 3) := by decide +kernel
theorem dX10_init_79 : decode cX10_init 79 = .ok (.putfield 30, 3) := by decide +kernel
theorem dX10_init_82 : decode cX10_init 82 = .ok (.aload_n 0, 1) := by decide +kernel
theorem dX10_init_83 : decode cX10_init 83 = .ok (.new 25, 3) := by decide +kernel
theorem dX10_init_86 : decode cX10_init 86 = .ok (.dup, 1) := by decide +kernel
theorem dX10_init_87 : decode cX10_init 87 = .ok (.aload_n 1, 1) := by decide +kernel
theorem dX10_init_88 : decode cX10_init 88 = .ok (.invokespecial 27, 3) := by decide +kernel
theorem dX10_init_91 : decode cX10_init 91 = .ok (.putfield 36, 3) := by decide +kernel
theorem dX10_init_94 : decode cX10_init 94 = .ok (.aload_n 0, 1) := by decide +kernel
theorem dX10_init_95 : decode cX10_init 95 = .ok (.new 25, 3) := by decide +kernel
theorem dX10_init_98 : decode cX10_init 98 = .ok (.dup, 1) := by decide +kernel
theorem dX10_init_99 : decode cX10_init 99 = .ok (.aload_n 1, 1) := by decide +kernel
theorem dX10_init_100 : decode cX10_init 100 = .ok (.invokespecial 27, 3) := by decide +kernel
theorem dX10_init_103 : decode cX10_init 103 = .ok (.putfield 39, 3) := by decide +kernel
theorem dX10_init_106 : decode cX10_init 106 = .ok (.aload_n 0, 1) := by decide +kernel
theorem dX10_init_107 : decode cX10_init 107 = .ok (.new 25, 3) := by decide +kernel
theorem dX10_init_110 : decode cX10_init 110 = .ok (.dup, 1) := by decide +kernel
theorem dX10_init_111 : decode cX10_init 111 = .ok (.aload_n 1, 1) := by decide +kernel
theorem dX10_init_112 : decode cX10_init 112 = .ok (.invokespecial 27, 3) := by decide +kernel
theorem dX10_init_115 : decode cX10_init 115 = .ok (.putfield 42, 3) := by decide +kernel
theorem dX10_init_118 : decode cX10_init 118 = .ok (.aload_n 0, 1) := by decide +kernel
theorem dX10_init_119 : decode cX10_init 119 = .ok (.new 45, 3) := by decide +kernel
theorem dX10_init_122 : decode cX10_init 122 = .ok (.dup, 1) := by decide +kernel
theorem dX10_init_123 : decode cX10_init 123 = .ok (.invokespecial 47, 3) := by decide +kernel
theorem dX10_init_126 : decode cX10_init 126 = .ok (.putfield 48, 3) := by decide +kernel
theorem dX10_init_129 : decode cX10_init 129 = .ok (.aload_n 0, 1) := by decide +kernel
theorem dX10_init_130 : decode cX10_init 130 = .ok (.new 52, 3) := by decide +kernel
theorem dX10_init_133 : decode cX10_init 133 = .ok (.dup, 1) := by decide +kernel
theorem dX10_init_134 : decode cX10_init 134 = .ok (.invokespecial 54, 3) := by decide +kernel
theorem dX10_init_137 : decode cX10_init 137 = .ok (.putfield 55, 3) := by decide +kernel
theorem dX10_init_140 : decode cX10_init 140 = .ok (.aload_n 0, 1) := by decide +kernel
theorem dX10_init_141 : decode cX10_init 141 = .ok (.lconst 0, 1) := by decide +kernel
theorem dX10_init_142 : decode cX10_init 142 = .ok (.putfield 59, 3) := by decide +kernel
theorem dX10_init_145 : decode cX10_init 145 = .ok (.aload_n 0, 1) := by decide +kernel
theorem dX10_init_146 : decode cX10_init 146 = .ok (.lconst 1, 1) := by decide +kernel
theorem dX10_init_147 : decode cX10_init 147 = .ok (.putfield 63, 3) := by decide +kernel
theorem dX10_init_150 : decode cX10_init 150 = .ok (.return_, 1) := by decide +kernel
theorem dX10_book_0 : decode cX10_book 0 = .ok (.iload_n 1, 1) := by decide +kernel
theorem dX10_book_1 : decode cX10_book 1 = .ok (.iconst 0, 1) := by decide +kernel
theorem dX10_book_2 : decode cX10_book 2 = .ok (.sipush 255, 3) := by decide +kernel
theorem dX10_book_5 : decode cX10_book 5 = .ok (.invokestatic 66, 3) := by decide +kernel
theorem dX10_book_8 : decode cX10_book 8 = .ok (.ifCond .ne 8, 3) := by decide +kernel
theorem dX10_book_11 : decode cX10_book 11 = .ok (.aload_n 0, 1) := by decide +kernel
theorem dX10_book_12 : decode cX10_book 12 = .ok (.invokevirtual 70, 3) := by decide +kernel
theorem dX10_book_15 : decode cX10_book 15 = .ok (.ireturn, 1) := by decide +kernel
theorem dX10_book_16 : decode cX10_book 16 = .ok (.aload_n 0, 1) := by decide +kernel
theorem dX10_book_17 : decode cX10_book 17 = .ok (.getfield 30, 3) := by decide +kernel
theorem dX10_book_20 : decode cX10_book 20 = .ok (.getfield 74, 3) := by decide +kernel
theorem dX10_book_23 : decode cX10_book 23 = .ok (.getfield 78, 3) := by decide +kernel
theorem dX10_book_26 : decode cX10_book 26 = .ok (.istore_n 2, 1) := by decide +kernel
theorem dX10_book_27 : decode cX10_book 27 = .ok (.aload_n 0, 1) := by decide +kernel
theorem dX10_book_28 : decode cX10_book 28 = .ok (.getfield 30, 3) := by decide +kernel
theorem dX10_book_31 : decode cX10_book 31 = .ok (.iload_n 1, 1) := by decide +kernel
theorem dX10_book_32 : decode cX10_book 32 = .ok (.invokevirtual 84, 3) := by decide +kernel
theorem dX10_book_35 : decode cX10_book 35 = .ok (.iload_n 2, 1) := by decide +kernel
theorem dX10_book_36 : decode cX10_book 36 = .ok (.ireturn, 1) := by decide +kernel
theorem dX10_fiction_0 : decode cX10_fiction 0 = .ok (.iload_n 1, 1) := by decide +kernel
theorem dX10_fiction_1 : decode cX10_fiction 1 = .ok (.iconst 0, 1) := by decide +kernel
theorem dX10_fiction_2 : decode cX10_fiction 2 = .ok (.iconst 5, 1) := by decide +kernel
theorem dX10_fiction_3 : decode cX10_fiction 3 = .ok (.invokestatic 66, 3) := by decide +kernel
theorem dX10_fiction_6 : decode cX10_fiction 6 = .ok (.ifCond .eq 35, 3) := by decide +kernel
theorem dX10_fiction_9 : decode cX10_fiction 9 = .ok (.iload_n 2, 1) := by decide +kernel
theorem dX10_fiction_10 : decode cX10_fiction 10 = .ok (.iconst 0, 1) := by decide +kernel
theorem dX10_fiction_11 : decode cX10_fiction 11 = .ok (.sipush 255, 3) := by decide +kernel
theorem dX10_fiction_14 : decode cX10_fiction 14 = .ok (.invokestatic 66, 3) := by decide +kernel
theorem dX10_fiction_17 : decode cX10_fiction 17 = .ok (.ifCond .eq 24, 3) := by decide +kernel
theorem dX10_fiction_20 : decode cX10_fiction 20 = .ok (.iload_n 3, 1) := by decide +kernel
theorem dX10_fiction_21 : decode cX10_fiction 21 = .ok (.iconst 0, 1) := by decide +kernel
theorem dX10_fiction_22 : decode cX10_fiction 22 = .ok (.bipush 7, 2) := by decide +kernel
theorem dX10_fiction_24 : decode cX10_fiction 24 = .ok (.invokestatic 66, 3) := by decide +kernel
theorem dX10_fiction_27 : decode cX10_fiction 27 = .ok (.ifCond .eq 14, 3) := by decide +kernel
theorem dX10_fiction_30 : decode cX10_fiction 30 = .ok (.iload 4, 2) := by decide +kernel
theorem dX10_fiction_32 : decode cX10_fiction 32 = .ok (.iconst 0, 1) := by decide +kernel
theorem dX10_fiction_33 : decode cX10_fiction 33 = .ok (.bipush 20, 2) := by decide +kernel
theorem dX10_fiction_35 : decode cX10_fiction 35 = .ok (.invokestatic 66, 3) := by decide +kernel
theorem dX10_fiction_38 : decode cX10_fiction 38 = .ok (.ifCond .ne 8, 3) := by decide +kernel
theorem dX10_fiction_41 : decode cX10_fiction 41 = .ok (.aload_n 0, 1) := by decide +kernel
theorem dX10_fiction_42 : decode cX10_fiction 42 = .ok (.invokevirtual 70, 3) := by decide +kernel
theorem dX10_fiction_45 : decode cX10_fiction 45 = .ok (.ireturn, 1) := by decide +kernel
theorem dX10_fiction_46 : decode cX10_fiction 46 = .ok (.aload_n 0, 1) := by decide +kernel
theorem dX10_fiction_47 : decode cX10_fiction 47 = .ok (.getfield 30, 3) := by decide +kernel
theorem dX10_fiction_50 : decode cX10_fiction 50 = .ok (.getfield 74, 3) := by decide +kernel
theorem dX10_fiction_53 : decode cX10_fiction 53 = .ok (.invokevirtual 88, 3) := by decide +kernel
theorem dX10_fiction_56 : decode cX10_fiction 56 = .ok (.ifCond .eq 8, 3) := by decide +kernel
theorem dX10_fiction_59 : decode cX10_fiction 59 = .ok (.aload_n 0, 1) := by decide +kernel
theorem dX10_fiction_60 : decode cX10_fiction 60 = .ok (.invokevirtual 92, 3) := by decide +kernel
theorem dX10_fiction_63 : decode cX10_fiction 63 = .ok (.ireturn, 1) := by decide +kernel
theorem dX10_fiction_64 : decode cX10_fiction 64 = .ok (.aload_n 0, 1) := by decide +kernel
theorem dX10_fiction_65 : decode cX10_fiction 65 = .ok (.getfield 30, 3) := by decide +kernel
theorem dX10_fiction_68 : decode cX10_fiction 68 = .ok (.getfield 74, 3) := by decide +kernel
theorem dX10_fiction_71 : decode cX10_fiction 71 = .ok (.iload_n 1, 1) := by decide +kernel
theorem dX10_fiction_72 : decode cX10_fiction 72 = .ok (.iload_n 2, 1) := by decide +kernel
theorem dX10_fiction_73 : decode cX10_fiction 73 = .ok (.iload_n 3, 1) := by decide +kernel
theorem dX10_fiction_74 : decode cX10_fiction 74 = .ok (.iload 4, 2) := by decide +kernel
theorem dX10_fiction_76 : decode cX10_fiction 76 = .ok (.invokevirtual 95, 3) := by decide +kernel
theorem dX10_fiction_79 : decode cX10_fiction 79 = .ok (.aload_n 0, 1) := by decide +kernel
theorem dX10_fiction_80 : decode cX10_fiction 80 = .ok (.getfield 30, 3) := by decide +kernel
theorem dX10_fiction_83 : decode cX10_fiction 83 = .ok (.getfield 99, 3) := by decide +kernel
theorem dX10_fiction_86 : decode cX10_fiction 86 = .ok (.invokevirtual 102, 3) := by decide +kernel
theorem dX10_fiction_89 : decode cX10_fiction 89 = .ok (.aload_n 0, 1) := by decide +kernel
theorem dX10_fiction_90 : decode cX10_fiction 90 = .ok (.getfield 30, 3) := by decide +kernel
theorem dX10_fiction_93 : decode cX10_fiction 93 = .ok (.getfield 74, 3) := by decide +kernel
theorem dX10_fiction_96 : decode cX10_fiction 96 = .ok (.getfield 78, 3) := by decide +kernel
theorem dX10_fiction_99 : decode cX10_fiction 99 = .ok (.iconst 1, 1) := by decide +kernel
theorem dX10_fiction_100 : decode cX10_fiction 100 = .ok (.isub, 1) := by decide +kernel
theorem dX10_fiction_101 : decode cX10_fiction 101 = .ok (.ireturn, 1) := by decide +kernel
theorem dX10_court_0 : decode cX10_court 0 = .ok (.iload_n 1, 1) := by decide +kernel
theorem dX10_court_1 : decode cX10_court 1 = .ok (.iconst 0, 1) := by decide +kernel
theorem dX10_court_2 : decode cX10_court 2 = .ok (.sipush 255, 3) := by decide +kernel
theorem dX10_court_5 : decode cX10_court 5 = .ok (.invokestatic 66, 3) := by decide +kernel
theorem dX10_court_8 : decode cX10_court 8 = .ok (.ifCond .eq 13, 3) := by decide +kernel
theorem dX10_court_11 : decode cX10_court 11 = .ok (.iload_n 2, 1) := by decide +kernel
theorem dX10_court_12 : decode cX10_court 12 = .ok (.iconst 0, 1) := by decide +kernel
theorem dX10_court_13 : decode cX10_court 13 = .ok (.bipush 20, 2) := by decide +kernel
theorem dX10_court_15 : decode cX10_court 15 = .ok (.invokestatic 66, 3) := by decide +kernel
theorem dX10_court_18 : decode cX10_court 18 = .ok (.ifCond .ne 8, 3) := by decide +kernel
theorem dX10_court_21 : decode cX10_court 21 = .ok (.aload_n 0, 1) := by decide +kernel
theorem dX10_court_22 : decode cX10_court 22 = .ok (.invokevirtual 70, 3) := by decide +kernel
theorem dX10_court_25 : decode cX10_court 25 = .ok (.ireturn, 1) := by decide +kernel
theorem dX10_court_26 : decode cX10_court 26 = .ok (.aload_n 0, 1) := by decide +kernel
theorem dX10_court_27 : decode cX10_court 27 = .ok (.getfield 30, 3) := by decide +kernel
theorem dX10_court_30 : decode cX10_court 30 = .ok (.getfield 105, 3) := by decide +kernel
theorem dX10_court_33 : decode cX10_court 33 = .ok (.invokevirtual 88, 3) := by decide +kernel
theorem dX10_court_36 : decode cX10_court 36 = .ok (.ifCond .eq 8, 3) := by decide +kernel
theorem dX10_court_39 : decode cX10_court 39 = .ok (.aload_n 0, 1) := by decide +kernel
theorem dX10_court_40 : decode cX10_court 40 = .ok (.invokevirtual 92, 3) := by decide +kernel
theorem dX10_court_43 : decode cX10_court 43 = .ok (.ireturn, 1) := by decide +kernel
theorem dX10_court_44 : decode cX10_court 44 = .ok (.aload_n 0, 1) := by decide +kernel
theorem dX10_court_45 : decode cX10_court 45 = .ok (.getfield 30, 3) := by decide +kernel
theorem dX10_court_48 : decode cX10_court 48 = .ok (.getfield 105, 3) := by decide +kernel
theorem dX10_court_51 : decode cX10_court 51 = .ok (.iload_n 1, 1) := by decide +kernel
theorem dX10_court_52 : decode cX10_court 52 = .ok (.iload_n 2, 1) := by decide +kernel
theorem dX10_court_53 : decode cX10_court 53 = .ok (.iconst 0, 1) := by decide +kernel
theorem dX10_court_54 : decode cX10_court 54 = .ok (.iconst 0, 1) := by decide +kernel
theorem dX10_court_55 : decode cX10_court 55 = .ok (.invokevirtual 95, 3) := by decide +kernel
theorem dX10_court_58 : decode cX10_court 58 = .ok (.aload_n 0, 1) := by decide +kernel
theorem dX10_court_59 : decode cX10_court 59 = .ok (.getfield 30, 3) := by decide +kernel
theorem dX10_court_62 : decode cX10_court 62 = .ok (.getfield 99, 3) := by decide +kernel
theorem dX10_court_65 : decode cX10_court 65 = .ok (.invokevirtual 102, 3) := by decide +kernel
theorem dX10_court_68 : decode cX10_court 68 = .ok (.aload_n 0, 1) := by decide +kernel
theorem dX10_court_69 : decode cX10_court 69 = .ok (.getfield 30, 3) := by decide +kernel
theorem dX10_court_72 : decode cX10_court 72 = .ok (.getfield 105, 3) := by decide +kernel
theorem dX10_court_75 : decode cX10_court 75 = .ok (.getfield 78, 3) := by decide +kernel
theorem dX10_court_78 : decode cX10_court 78 = .ok (.iconst 1, 1) := by decide +kernel
theorem dX10_court_79 : decode cX10_court 79 = .ok (.isub, 1) := by decide +kernel
theorem dX10_court_80 : decode cX10_court 80 = .ok (.ireturn, 1) := by decide +kernel
theorem dX10_type_0 : decode cX10_type 0 = .ok (.iload_n 1, 1) := by decide +kernel
theorem dX10_type_1 : decode cX10_type 1 = .ok (.iconst 0, 1) := by decide +kernel
theorem dX10_type_2 : decode cX10_type 2 = .ok (.bipush 127, 2) := by decide +kernel
theorem dX10_type_4 : decode cX10_type 4 = .ok (.invokestatic 66, 3) := by decide +kernel
theorem dX10_type_7 : decode cX10_type 7 = .ok (.ifCond .ne 8, 3) := by decide +kernel
theorem dX10_type_10 : decode cX10_type 10 = .ok (.aload_n 0, 1) := by decide +kernel
theorem dX10_type_11 : decode cX10_type 11 = .ok (.invokevirtual 70, 3) := by decide +kernel
theorem dX10_type_14 : decode cX10_type 14 = .ok (.ireturn, 1) := by decide +kernel
theorem dX10_type_15 : decode cX10_type 15 = .ok (.aload_n 0, 1) := by decide +kernel
theorem dX10_type_16 : decode cX10_type 16 = .ok (.getfield 48, 3) := by decide +kernel
theorem dX10_type_19 : decode cX10_type 19 = .ok (.invokevirtual 108, 3) := by decide +kernel
theorem dX10_type_22 : decode cX10_type 22 = .ok (.ifCond .eq 8, 3) := by decide +kernel
theorem dX10_type_25 : decode cX10_type 25 = .ok (.aload_n 0, 1) := by decide +kernel
theorem dX10_type_26 : decode cX10_type 26 = .ok (.invokevirtual 92, 3) := by decide +kernel
theorem dX10_type_29 : decode cX10_type 29 = .ok (.ireturn, 1) := by decide +kernel
theorem dX10_type_30 : decode cX10_type 30 = .ok (.aload_n 0, 1) := by decide +kernel
theorem dX10_type_31 : decode cX10_type 31 = .ok (.getfield 48, 3) := by decide +kernel
theorem dX10_type_34 : decode cX10_type 34 = .ok (.iload_n 1, 1) := by decide +kernel
theorem dX10_type_35 : decode cX10_type 35 = .ok (.invokevirtual 109, 3) := by decide +kernel
theorem dX10_type_38 : decode cX10_type 38 = .ok (.aload_n 0, 1) := by decide +kernel
theorem dX10_type_39 : decode cX10_type 39 = .ok (.getfield 48, 3) := by decide +kernel
theorem dX10_type_42 : decode cX10_type 42 = .ok (.getfield 111, 3) := by decide +kernel
theorem dX10_type_45 : decode cX10_type 45 = .ok (.ireturn, 1) := by decide +kernel
theorem dX10_clear_0 : decode cX10_clear 0 = .ok (.aload_n 0, 1) := by decide +kernel
theorem dX10_clear_1 : decode cX10_clear 1 = .ok (.getfield 48, 3) := by decide +kernel
theorem dX10_clear_4 : decode cX10_clear 4 = .ok (.getfield 111, 3) := by decide +kernel
theorem dX10_clear_7 : decode cX10_clear 7 = .ok (.istore_n 1, 1) := by decide +kernel
theorem dX10_clear_8 : decode cX10_clear 8 = .ok (.aload_n 0, 1) := by decide +kernel
theorem dX10_clear_9 : decode cX10_clear 9 = .ok (.getfield 48, 3) := by decide +kernel
theorem dX10_clear_12 : decode cX10_clear 12 = .ok (.iconst 0, 1) := by decide +kernel
theorem dX10_clear_13 : decode cX10_clear 13 = .ok (.putfield 111, 3) := by decide +kernel
theorem dX10_clear_16 : decode cX10_clear 16 = .ok (.iload_n 1, 1) := by decide +kernel
theorem dX10_clear_17 : decode cX10_clear 17 = .ok (.ireturn, 1) := by decide +kernel
theorem dX10_read_0 : decode cX10_read 0 = .ok (.aload_n 0, 1) := by decide +kernel
theorem dX10_read_1 : decode cX10_read 1 = .ok (.getfield 48, 3) := by decide +kernel
theorem dX10_read_4 : decode cX10_read 4 = .ok (.aload_n 0, 1) := by decide +kernel
theorem dX10_read_5 : decode cX10_read 5 = .ok (.getfield 36, 3) := by decide +kernel
theorem dX10_read_8 : decode cX10_read 8 = .ok (.invokevirtual 114, 3) := by decide +kernel
theorem dX10_read_11 : decode cX10_read 11 = .ok (.istore_n 1, 1) := by decide +kernel
theorem dX10_read_12 : decode cX10_read 12 = .ok (.iload_n 1, 1) := by decide +kernel
theorem dX10_read_13 : decode cX10_read 13 = .ok (.ifCond .le 14, 3) := by decide +kernel
theorem dX10_read_16 : decode cX10_read 16 = .ok (.aload_n 0, 1) := by decide +kernel
theorem dX10_read_17 : decode cX10_read 17 = .ok (.getfield 30, 3) := by decide +kernel
theorem dX10_read_20 : decode cX10_read 20 = .ok (.aload_n 0, 1) := by decide +kernel
theorem dX10_read_21 : decode cX10_read 21 = .ok (.getfield 36, 3) := by decide +kernel
theorem dX10_read_24 : decode cX10_read 24 = .ok (.invokevirtual 118, 3) := by decide +kernel
theorem dX10_read_27 : decode cX10_read 27 = .ok (.iload_n 1, 1) := by decide +kernel
theorem dX10_read_28 : decode cX10_read 28 = .ok (.ireturn, 1) := by decide +kernel
theorem dX10_suit_0 : decode cX10_suit 0 = .ok (.aload_n 0, 1) := by decide +kernel
theorem dX10_suit_1 : decode cX10_suit 1 = .ok (.getfield 30, 3) := by decide +kernel
theorem dX10_suit_4 : decode cX10_suit 4 = .ok (.getfield 122, 3) := by decide +kernel
theorem dX10_suit_7 : decode cX10_suit 7 = .ok (.invokestatic 125, 3) := by decide +kernel
theorem dX10_suit_10 : decode cX10_suit 10 = .ok (.istore_n 1, 1) := by decide +kernel
theorem dX10_suit_11 : decode cX10_suit 11 = .ok (.aload_n 0, 1) := by decide +kernel
theorem dX10_suit_12 : decode cX10_suit 12 = .ok (.getfield 30, 3) := by decide +kernel
theorem dX10_suit_15 : decode cX10_suit 15 = .ok (.invokevirtual 131, 3) := by decide +kernel
theorem dX10_suit_18 : decode cX10_suit 18 = .ok (.iload_n 1, 1) := by decide +kernel
theorem dX10_suit_19 : decode cX10_suit 19 = .ok (.ireturn, 1) := by decide +kernel
theorem dX10_plead_0 : decode cX10_plead 0 = .ok (.aload_n 0, 1) := by decide +kernel
theorem dX10_plead_1 : decode cX10_plead 1 = .ok (.iload_n 1, 1) := by decide +kernel
theorem dX10_plead_2 : decode cX10_plead 2 = .ok (.invokevirtual 134, 3) := by decide +kernel
theorem dX10_plead_5 : decode cX10_plead 5 = .ok (.ifCond .ne 8, 3) := by decide +kernel
theorem dX10_plead_8 : decode cX10_plead 8 = .ok (.aload_n 0, 1) := by decide +kernel
theorem dX10_plead_9 : decode cX10_plead 9 = .ok (.invokevirtual 70, 3) := by decide +kernel
theorem dX10_plead_12 : decode cX10_plead 12 = .ok (.ireturn, 1) := by decide +kernel
theorem dX10_plead_13 : decode cX10_plead 13 = .ok (.aload_n 0, 1) := by decide +kernel
theorem dX10_plead_14 : decode cX10_plead 14 = .ok (.iload_n 1, 1) := by decide +kernel
theorem dX10_plead_15 : decode cX10_plead 15 = .ok (.invokevirtual 138, 3) := by decide +kernel
theorem dX10_plead_18 : decode cX10_plead 18 = .ok (.ifCond .ne 8, 3) := by decide +kernel
theorem dX10_plead_21 : decode cX10_plead 21 = .ok (.aload_n 0, 1) := by decide +kernel
theorem dX10_plead_22 : decode cX10_plead 22 = .ok (.invokevirtual 141, 3) := by decide +kernel
theorem dX10_plead_25 : decode cX10_plead 25 = .ok (.ireturn, 1) := by decide +kernel
theorem dX10_plead_26 : decode cX10_plead 26 = .ok (.aload_n 0, 1) := by decide +kernel
theorem dX10_plead_27 : decode cX10_plead 27 = .ok (.getfield 30, 3) := by decide +kernel
theorem dX10_plead_30 : decode cX10_plead 30 = .ok (.iload_n 1, 1) := by decide +kernel
theorem dX10_plead_31 : decode cX10_plead 31 = .ok (.aload_n 0, 1) := by decide +kernel
theorem dX10_plead_32 : decode cX10_plead 32 = .ok (.getfield 30, 3) := by decide +kernel
theorem dX10_plead_35 : decode cX10_plead 35 = .ok (.getfield 144, 3) := by decide +kernel
theorem dX10_plead_38 : decode cX10_plead 38 = .ok (.invokevirtual 147, 3) := by decide +kernel
theorem dX10_plead_41 : decode cX10_plead 41 = .ok (.istore_n 2, 1) := by decide +kernel
theorem dX10_plead_42 : decode cX10_plead 42 = .ok (.aload_n 0, 1) := by decide +kernel
theorem dX10_plead_43 : decode cX10_plead 43 = .ok (.getfield 30, 3) := by decide +kernel
theorem dX10_plead_46 : decode cX10_plead 46 = .ok (.invokevirtual 151, 3) := by decide +kernel
theorem dX10_plead_49 : decode cX10_plead 49 = .ok (.aload_n 0, 1) := by decide +kernel
theorem dX10_plead_50 : decode cX10_plead 50 = .ok (.getfield 30, 3) := by decide +kernel
theorem dX10_plead_53 : decode cX10_plead 53 = .ok (.dup, 1) := by decide +kernel
theorem dX10_plead_54 : decode cX10_plead 54 = .ok (.getfield 122, 3) := by decide +kernel
theorem dX10_plead_57 : decode cX10_plead 57 = .ok (.iconst 1, 1) := by decide +kernel
theorem dX10_plead_58 : decode cX10_plead 58 = .ok (.iload_n 1, 1) := by decide +kernel
theorem dX10_plead_59 : decode cX10_plead 59 = .ok (.ishl, 1) := by decide +kernel
theorem dX10_plead_60 : decode cX10_plead 60 = .ok (.ior, 1) := by decide +kernel
theorem dX10_plead_61 : decode cX10_plead 61 = .ok (.putfield 122, 3) := by decide +kernel
theorem dX10_plead_64 : decode cX10_plead 64 = .ok (.aload_n 0, 1) := by decide +kernel
theorem dX10_plead_65 : decode cX10_plead 65 = .ok (.getfield 30, 3) := by decide +kernel
theorem dX10_plead_68 : decode cX10_plead 68 = .ok (.dup, 1) := by decide +kernel
theorem dX10_plead_69 : decode cX10_plead 69 = .ok (.getfield 154, 3) := by decide +kernel
theorem dX10_plead_72 : decode cX10_plead 72 = .ok (.iload_n 2, 1) := by decide +kernel
theorem dX10_plead_73 : decode cX10_plead 73 = .ok (.iadd, 1) := by decide +kernel
theorem dX10_plead_74 : decode cX10_plead 74 = .ok (.putfield 154, 3) := by decide +kernel
theorem dX10_plead_77 : decode cX10_plead 77 = .ok (.aload_n 0, 1) := by decide +kernel
theorem dX10_plead_78 : decode cX10_plead 78 = .ok (.getfield 30, 3) := by decide +kernel
theorem dX10_plead_81 : decode cX10_plead 81 = .ok (.dup, 1) := by decide +kernel
theorem dX10_plead_82 : decode cX10_plead 82 = .ok (.getfield 144, 3) := by decide +kernel
theorem dX10_plead_85 : decode cX10_plead 85 = .ok (.iconst 1, 1) := by decide +kernel
theorem dX10_plead_86 : decode cX10_plead 86 = .ok (.iadd, 1) := by decide +kernel
theorem dX10_plead_87 : decode cX10_plead 87 = .ok (.putfield 144, 3) := by decide +kernel
theorem dX10_plead_90 : decode cX10_plead 90 = .ok (.iload_n 2, 1) := by decide +kernel
theorem dX10_plead_91 : decode cX10_plead 91 = .ok (.ireturn, 1) := by decide +kernel
theorem dX10_deny_0 : decode cX10_deny 0 = .ok (.aload_n 0, 1) := by decide +kernel
theorem dX10_deny_1 : decode cX10_deny 1 = .ok (.iload_n 1, 1) := by decide +kernel
theorem dX10_deny_2 : decode cX10_deny 2 = .ok (.invokevirtual 134, 3) := by decide +kernel
theorem dX10_deny_5 : decode cX10_deny 5 = .ok (.ifCond .ne 8, 3) := by decide +kernel
theorem dX10_deny_8 : decode cX10_deny 8 = .ok (.aload_n 0, 1) := by decide +kernel
theorem dX10_deny_9 : decode cX10_deny 9 = .ok (.invokevirtual 70, 3) := by decide +kernel
theorem dX10_deny_12 : decode cX10_deny 12 = .ok (.ireturn, 1) := by decide +kernel
theorem dX10_deny_13 : decode cX10_deny 13 = .ok (.aload_n 0, 1) := by decide +kernel
theorem dX10_deny_14 : decode cX10_deny 14 = .ok (.iload_n 1, 1) := by decide +kernel
theorem dX10_deny_15 : decode cX10_deny 15 = .ok (.invokevirtual 157, 3) := by decide +kernel
theorem dX10_deny_18 : decode cX10_deny 18 = .ok (.ifCond .ne 8, 3) := by decide +kernel
theorem dX10_deny_21 : decode cX10_deny 21 = .ok (.aload_n 0, 1) := by decide +kernel
theorem dX10_deny_22 : decode cX10_deny 22 = .ok (.invokevirtual 141, 3) := by decide +kernel
theorem dX10_deny_25 : decode cX10_deny 25 = .ok (.ireturn, 1) := by decide +kernel
theorem dX10_deny_26 : decode cX10_deny 26 = .ok (.aload_n 0, 1) := by decide +kernel
theorem dX10_deny_27 : decode cX10_deny 27 = .ok (.getfield 30, 3) := by decide +kernel
theorem dX10_deny_30 : decode cX10_deny 30 = .ok (.invokevirtual 151, 3) := by decide +kernel
theorem dX10_deny_33 : decode cX10_deny 33 = .ok (.aload_n 0, 1) := by decide +kernel
theorem dX10_deny_34 : decode cX10_deny 34 = .ok (.getfield 30, 3) := by decide +kernel
theorem dX10_deny_37 : decode cX10_deny 37 = .ok (.iload_n 1, 1) := by decide +kernel
theorem dX10_deny_38 : decode cX10_deny 38 = .ok (.invokevirtual 160, 3) := by decide +kernel
theorem dX10_deny_41 : decode cX10_deny 41 = .ok (.ifCond .ne 5, 3) := by decide +kernel
theorem dX10_deny_44 : decode cX10_deny 44 = .ok (.iconst 0, 1) := by decide +kernel
theorem dX10_deny_45 : decode cX10_deny 45 = .ok (.ireturn, 1) := by decide +kernel
theorem dX10_deny_46 : decode cX10_deny 46 = .ok (.aload_n 0, 1) := by decide +kernel
theorem dX10_deny_47 : decode cX10_deny 47 = .ok (.getfield 30, 3) := by decide +kernel
theorem dX10_deny_50 : decode cX10_deny 50 = .ok (.dup, 1) := by decide +kernel
theorem dX10_deny_51 : decode cX10_deny 51 = .ok (.getfield 122, 3) := by decide +kernel
theorem dX10_deny_54 : decode cX10_deny 54 = .ok (.iconst 1, 1) := by decide +kernel
theorem dX10_deny_55 : decode cX10_deny 55 = .ok (.iload_n 1, 1) := by decide +kernel
theorem dX10_deny_56 : decode cX10_deny 56 = .ok (.ishl, 1) := by decide +kernel
theorem dX10_deny_57 : decode cX10_deny 57 = .ok (.iconst (-1), 1) := by decide +kernel
theorem dX10_deny_58 : decode cX10_deny 58 = .ok (.ixor, 1) := by decide +kernel
theorem dX10_deny_59 : decode cX10_deny 59 = .ok (.iand, 1) := by decide +kernel
theorem dX10_deny_60 : decode cX10_deny 60 = .ok (.putfield 122, 3) := by decide +kernel
theorem dX10_deny_63 : decode cX10_deny 63 = .ok (.iconst 1, 1) := by decide +kernel
theorem dX10_deny_64 : decode cX10_deny 64 = .ok (.ireturn, 1) := by decide +kernel
theorem dX10_undo_0 : decode cX10_undo 0 = .ok (.aload_n 0, 1) := by decide +kernel
theorem dX10_undo_1 : decode cX10_undo 1 = .ok (.getfield 30, 3) := by decide +kernel
theorem dX10_undo_4 : decode cX10_undo 4 = .ok (.getfield 99, 3) := by decide +kernel
theorem dX10_undo_7 : decode cX10_undo 7 = .ok (.getfield 78, 3) := by decide +kernel
theorem dX10_undo_10 : decode cX10_undo 10 = .ok (.ifCond .ne 8, 3) := by decide +kernel
theorem dX10_undo_13 : decode cX10_undo 13 = .ok (.aload_n 0, 1) := by decide +kernel
theorem dX10_undo_14 : decode cX10_undo 14 = .ok (.invokevirtual 141, 3) := by decide +kernel
theorem dX10_undo_17 : decode cX10_undo 17 = .ok (.ireturn, 1) := by decide +kernel
theorem dX10_undo_18 : decode cX10_undo 18 = .ok (.aload_n 0, 1) := by decide +kernel
theorem dX10_undo_19 : decode cX10_undo 19 = .ok (.getfield 30, 3) := by decide +kernel
theorem dX10_undo_22 : decode cX10_undo 22 = .ok (.invokevirtual 163, 3) := by decide +kernel
theorem dX10_undo_25 : decode cX10_undo 25 = .ok (.aload_n 0, 1) := by decide +kernel
theorem dX10_undo_26 : decode cX10_undo 26 = .ok (.getfield 30, 3) := by decide +kernel
theorem dX10_undo_29 : decode cX10_undo 29 = .ok (.getfield 144, 3) := by decide +kernel
theorem dX10_undo_32 : decode cX10_undo 32 = .ok (.ireturn, 1) := by decide +kernel
theorem dX10_of_0 : decode cX10_of 0 = .ok (.aload_n 0, 1) := by decide +kernel
theorem dX10_of_1 : decode cX10_of 1 = .ok (.iload_n 1, 1) := by decide +kernel
theorem dX10_of_2 : decode cX10_of 2 = .ok (.invokevirtual 134, 3) := by decide +kernel
theorem dX10_of_5 : decode cX10_of 5 = .ok (.ifCond .eq 13, 3) := by decide +kernel
theorem dX10_of_8 : decode cX10_of 8 = .ok (.iload_n 2, 1) := by decide +kernel
theorem dX10_of_9 : decode cX10_of 9 = .ok (.iconst 0, 1) := by decide +kernel
theorem dX10_of_10 : decode cX10_of 10 = .ok (.bipush 7, 2) := by decide +kernel
theorem dX10_of_12 : decode cX10_of 12 = .ok (.invokestatic 66, 3) := by decide +kernel
theorem dX10_of_15 : decode cX10_of 15 = .ok (.ifCond .ne 8, 3) := by decide +kernel
theorem dX10_of_18 : decode cX10_of 18 = .ok (.aload_n 0, 1) := by decide +kernel
theorem dX10_of_19 : decode cX10_of 19 = .ok (.invokevirtual 70, 3) := by decide +kernel
theorem dX10_of_22 : decode cX10_of 22 = .ok (.ireturn, 1) := by decide +kernel
theorem dX10_of_23 : decode cX10_of 23 = .ok (.iload_n 2, 1) := by decide +kernel
theorem dX10_of_24 : decode cX10_of 24 = .ok (.tableswitch 93 4 7 #[32, 46, 60, 76], 32) := by decide +kernel
theorem dX10_of_56 : decode cX10_of 56 = .ok (.aload_n 0, 1) := by decide +kernel
theorem dX10_of_57 : decode cX10_of 57 = .ok (.iload_n 1, 1) := by decide +kernel
theorem dX10_of_58 : decode cX10_of 58 = .ok (.invokevirtual 157, 3) := by decide +kernel
theorem dX10_of_61 : decode cX10_of 61 = .ok (.ifCond .eq 7, 3) := by decide +kernel
theorem dX10_of_64 : decode cX10_of 64 = .ok (.iconst 1, 1) := by decide +kernel
theorem dX10_of_65 : decode cX10_of 65 = .ok (.goto 4, 3) := by decide +kernel
theorem dX10_of_68 : decode cX10_of 68 = .ok (.iconst 0, 1) := by decide +kernel
theorem dX10_of_69 : decode cX10_of 69 = .ok (.ireturn, 1) := by decide +kernel
theorem dX10_of_70 : decode cX10_of 70 = .ok (.aload_n 0, 1) := by decide +kernel
theorem dX10_of_71 : decode cX10_of 71 = .ok (.iload_n 1, 1) := by decide +kernel
theorem dX10_of_72 : decode cX10_of 72 = .ok (.invokevirtual 138, 3) := by decide +kernel
theorem dX10_of_75 : decode cX10_of 75 = .ok (.ifCond .eq 7, 3) := by decide +kernel
theorem dX10_of_78 : decode cX10_of 78 = .ok (.iconst 1, 1) := by decide +kernel
theorem dX10_of_79 : decode cX10_of 79 = .ok (.goto 4, 3) := by decide +kernel
theorem dX10_of_82 : decode cX10_of 82 = .ok (.iconst 0, 1) := by decide +kernel
theorem dX10_of_83 : decode cX10_of 83 = .ok (.ireturn, 1) := by decide +kernel
theorem dX10_of_84 : decode cX10_of 84 = .ok (.aload_n 0, 1) := by decide +kernel
theorem dX10_of_85 : decode cX10_of 85 = .ok (.getfield 30, 3) := by decide +kernel
theorem dX10_of_88 : decode cX10_of 88 = .ok (.iload_n 1, 1) := by decide +kernel
theorem dX10_of_89 : decode cX10_of 89 = .ok (.aload_n 0, 1) := by decide +kernel
theorem dX10_of_90 : decode cX10_of 90 = .ok (.getfield 30, 3) := by decide +kernel
theorem dX10_of_93 : decode cX10_of 93 = .ok (.getfield 144, 3) := by decide +kernel
theorem dX10_of_96 : decode cX10_of 96 = .ok (.invokevirtual 147, 3) := by decide +kernel
theorem dX10_of_99 : decode cX10_of 99 = .ok (.ireturn, 1) := by decide +kernel
theorem dX10_of_100 : decode cX10_of 100 = .ok (.aload_n 0, 1) := by decide +kernel
theorem dX10_of_101 : decode cX10_of 101 = .ok (.getfield 30, 3) := by decide +kernel
theorem dX10_of_104 : decode cX10_of 104 = .ok (.iload_n 1, 1) := by decide +kernel
theorem dX10_of_105 : decode cX10_of 105 = .ok (.invokevirtual 160, 3) := by decide +kernel
theorem dX10_of_108 : decode cX10_of 108 = .ok (.ifCond .eq 7, 3) := by decide +kernel
theorem dX10_of_111 : decode cX10_of 111 = .ok (.iconst 1, 1) := by decide +kernel
theorem dX10_of_112 : decode cX10_of 112 = .ok (.goto 4, 3) := by decide +kernel
theorem dX10_of_115 : decode cX10_of 115 = .ok (.iconst 0, 1) := by decide +kernel
theorem dX10_of_116 : decode cX10_of 116 = .ok (.ireturn, 1) := by decide +kernel
theorem dX10_of_117 : decode cX10_of 117 = .ok (.aload_n 0, 1) := by decide +kernel
theorem dX10_of_118 : decode cX10_of 118 = .ok (.getfield 30, 3) := by decide +kernel
theorem dX10_of_121 : decode cX10_of 121 = .ok (.getfield 74, 3) := by decide +kernel
theorem dX10_of_124 : decode cX10_of 124 = .ok (.iload_n 1, 1) := by decide +kernel
theorem dX10_of_125 : decode cX10_of 125 = .ok (.iload_n 2, 1) := by decide +kernel
theorem dX10_of_126 : decode cX10_of 126 = .ok (.invokevirtual 166, 3) := by decide +kernel
theorem dX10_of_129 : decode cX10_of 129 = .ok (.ireturn, 1) := by decide +kernel
theorem dX10_now_0 : decode cX10_now 0 = .ok (.iload_n 1, 1) := by decide +kernel
theorem dX10_now_1 : decode cX10_now 1 = .ok (.tableswitch 72 0 4 #[35, 40, 48, 56, 64], 35) := by decide +kernel
theorem dX10_now_36 : decode cX10_now 36 = .ok (.aload_n 0, 1) := by decide +kernel
theorem dX10_now_37 : decode cX10_now 37 = .ok (.invokevirtual 169, 3) := by decide +kernel
theorem dX10_now_40 : decode cX10_now 40 = .ok (.ireturn, 1) := by decide +kernel
theorem dX10_now_41 : decode cX10_now 41 = .ok (.aload_n 0, 1) := by decide +kernel
theorem dX10_now_42 : decode cX10_now 42 = .ok (.getfield 30, 3) := by decide +kernel
theorem dX10_now_45 : decode cX10_now 45 = .ok (.getfield 122, 3) := by decide +kernel
theorem dX10_now_48 : decode cX10_now 48 = .ok (.ireturn, 1) := by decide +kernel
theorem dX10_now_49 : decode cX10_now 49 = .ok (.aload_n 0, 1) := by decide +kernel
theorem dX10_now_50 : decode cX10_now 50 = .ok (.getfield 30, 3) := by decide +kernel
theorem dX10_now_53 : decode cX10_now 53 = .ok (.getfield 144, 3) := by decide +kernel
theorem dX10_now_56 : decode cX10_now 56 = .ok (.ireturn, 1) := by decide +kernel
theorem dX10_now_57 : decode cX10_now 57 = .ok (.aload_n 0, 1) := by decide +kernel
theorem dX10_now_58 : decode cX10_now 58 = .ok (.getfield 30, 3) := by decide +kernel
theorem dX10_now_61 : decode cX10_now 61 = .ok (.getfield 154, 3) := by decide +kernel
theorem dX10_now_64 : decode cX10_now 64 = .ok (.ireturn, 1) := by decide +kernel
theorem dX10_now_65 : decode cX10_now 65 = .ok (.aload_n 0, 1) := by decide +kernel
theorem dX10_now_66 : decode cX10_now 66 = .ok (.getfield 30, 3) := by decide +kernel
theorem dX10_now_69 : decode cX10_now 69 = .ok (.getfield 172, 3) := by decide +kernel
theorem dX10_now_72 : decode cX10_now 72 = .ok (.ireturn, 1) := by decide +kernel
theorem dX10_now_73 : decode cX10_now 73 = .ok (.aload_n 0, 1) := by decide +kernel
theorem dX10_now_74 : decode cX10_now 74 = .ok (.invokevirtual 70, 3) := by decide +kernel
theorem dX10_now_77 : decode cX10_now 77 = .ok (.ireturn, 1) := by decide +kernel
theorem dX10_may_0 : decode cX10_may 0 = .ok (.iconst 0, 1) := by decide +kernel
theorem dX10_may_1 : decode cX10_may 1 = .ok (.istore_n 1, 1) := by decide +kernel
theorem dX10_may_2 : decode cX10_may 2 = .ok (.iconst 0, 1) := by decide +kernel
theorem dX10_may_3 : decode cX10_may 3 = .ok (.istore_n 2, 1) := by decide +kernel
theorem dX10_may_4 : decode cX10_may 4 = .ok (.iload_n 2, 1) := by decide +kernel
theorem dX10_may_5 : decode cX10_may 5 = .ok (.bipush 6, 2) := by decide +kernel
theorem dX10_may_7 : decode cX10_may 7 = .ok (.if_icmp .ge 31, 3) := by decide +kernel
theorem dX10_may_10 : decode cX10_may 10 = .ok (.aload_n 0, 1) := by decide +kernel
theorem dX10_may_11 : decode cX10_may 11 = .ok (.iload_n 2, 1) := by decide +kernel
theorem dX10_may_12 : decode cX10_may 12 = .ok (.invokevirtual 134, 3) := by decide +kernel
theorem dX10_may_15 : decode cX10_may 15 = .ok (.ifCond .eq 17, 3) := by decide +kernel
theorem dX10_may_18 : decode cX10_may 18 = .ok (.aload_n 0, 1) := by decide +kernel
theorem dX10_may_19 : decode cX10_may 19 = .ok (.iload_n 2, 1) := by decide +kernel
theorem dX10_may_20 : decode cX10_may 20 = .ok (.invokevirtual 138, 3) := by decide +kernel
theorem dX10_may_23 : decode cX10_may 23 = .ok (.ifCond .eq 9, 3) := by decide +kernel
theorem dX10_may_26 : decode cX10_may 26 = .ok (.iload_n 1, 1) := by decide +kernel
theorem dX10_may_27 : decode cX10_may 27 = .ok (.iconst 1, 1) := by decide +kernel
theorem dX10_may_28 : decode cX10_may 28 = .ok (.iload_n 2, 1) := by decide +kernel
theorem dX10_may_29 : decode cX10_may 29 = .ok (.ishl, 1) := by decide +kernel
theorem dX10_may_30 : decode cX10_may 30 = .ok (.ior, 1) := by decide +kernel
theorem dX10_may_31 : decode cX10_may 31 = .ok (.istore_n 1, 1) := by decide +kernel
theorem dX10_may_32 : decode cX10_may 32 = .ok (.iinc 2 1, 3) := by decide +kernel
theorem dX10_may_35 : decode cX10_may 35 = .ok (.goto (-31), 3) := by decide +kernel
theorem dX10_may_38 : decode cX10_may 38 = .ok (.iload_n 1, 1) := by decide +kernel
theorem dX10_may_39 : decode cX10_may 39 = .ok (.ireturn, 1) := by decide +kernel
theorem dX10_hear_0 : decode cX10_hear 0 = .ok (.aload_n 0, 1) := by decide +kernel
theorem dX10_hear_1 : decode cX10_hear 1 = .ok (.getfield 30, 3) := by decide +kernel
theorem dX10_hear_4 : decode cX10_hear 4 = .ok (.aload_n 0, 1) := by decide +kernel
theorem dX10_hear_5 : decode cX10_hear 5 = .ok (.invokevirtual 169, 3) := by decide +kernel
theorem dX10_hear_8 : decode cX10_hear 8 = .ok (.invokevirtual 175, 3) := by decide +kernel
theorem dX10_hear_11 : decode cX10_hear 11 = .ok (.ireturn, 1) := by decide +kernel
theorem dX10_least_0 : decode cX10_least 0 = .ok (.aload_n 0, 1) := by decide +kernel
theorem dX10_least_1 : decode cX10_least 1 = .ok (.iload_n 1, 1) := by decide +kernel
theorem dX10_least_2 : decode cX10_least 2 = .ok (.invokevirtual 178, 3) := by decide +kernel
theorem dX10_least_5 : decode cX10_least 5 = .ok (.ifCond .eq 17, 3) := by decide +kernel
theorem dX10_least_8 : decode cX10_least 8 = .ok (.iload_n 2, 1) := by decide +kernel
theorem dX10_least_9 : decode cX10_least 9 = .ok (.iconst 0, 1) := by decide +kernel
theorem dX10_least_10 : decode cX10_least 10 = .ok (.iconst 1, 1) := by decide +kernel
theorem dX10_least_11 : decode cX10_least 11 = .ok (.invokestatic 66, 3) := by decide +kernel
theorem dX10_least_14 : decode cX10_least 14 = .ok (.ifCond .eq 8, 3) := by decide +kernel
theorem dX10_least_17 : decode cX10_least 17 = .ok (.iload_n 3, 1) := by decide +kernel
theorem dX10_least_18 : decode cX10_least 18 = .ok (.iconst (-1), 1) := by decide +kernel
theorem dX10_least_19 : decode cX10_least 19 = .ok (.if_icmp .ge 11, 3) := by decide +kernel
theorem dX10_least_22 : decode cX10_least 22 = .ok (.aload_n 0, 1) := by decide +kernel
theorem dX10_least_23 : decode cX10_least 23 = .ok (.invokevirtual 70, 3) := by decide +kernel
theorem dX10_least_26 : decode cX10_least 26 = .ok (.pop, 1) := by decide +kernel
theorem dX10_least_27 : decode cX10_least 27 = .ok (.bipush (-10), 2) := by decide +kernel
theorem dX10_least_29 : decode cX10_least 29 = .ok (.ireturn, 1) := by decide +kernel
theorem dX10_least_30 : decode cX10_least 30 = .ok (.aload_n 0, 1) := by decide +kernel
theorem dX10_least_31 : decode cX10_least 31 = .ok (.getfield 55, 3) := by decide +kernel
theorem dX10_least_34 : decode cX10_least 34 = .ok (.aload_n 0, 1) := by decide +kernel
theorem dX10_least_35 : decode cX10_least 35 = .ok (.getfield 30, 3) := by decide +kernel
theorem dX10_least_38 : decode cX10_least 38 = .ok (.iload_n 1, 1) := by decide +kernel
theorem dX10_least_39 : decode cX10_least 39 = .ok (.iload_n 2, 1) := by decide +kernel
theorem dX10_least_40 : decode cX10_least 40 = .ok (.invokevirtual 181, 3) := by decide +kernel
theorem dX10_least_43 : decode cX10_least 43 = .ok (.istore 4, 2) := by decide +kernel
theorem dX10_least_45 : decode cX10_least 45 = .ok (.iload 4, 2) := by decide +kernel
theorem dX10_least_47 : decode cX10_least 47 = .ok (.iconst (-1), 1) := by decide +kernel
theorem dX10_least_48 : decode cX10_least 48 = .ok (.if_icmp .ne 5, 3) := by decide +kernel
theorem dX10_least_51 : decode cX10_least 51 = .ok (.iconst (-1), 1) := by decide +kernel
theorem dX10_least_52 : decode cX10_least 52 = .ok (.ireturn, 1) := by decide +kernel
theorem dX10_least_53 : decode cX10_least 53 = .ok (.iload_n 3, 1) := by decide +kernel
theorem dX10_least_54 : decode cX10_least 54 = .ok (.iconst (-1), 1) := by decide +kernel
theorem dX10_least_55 : decode cX10_least 55 = .ok (.if_icmp .ne 29, 3) := by decide +kernel
theorem dX10_least_58 : decode cX10_least 58 = .ok (.iload_n 2, 1) := by decide +kernel
theorem dX10_least_59 : decode cX10_least 59 = .ok (.iconst 1, 1) := by decide +kernel
theorem dX10_least_60 : decode cX10_least 60 = .ok (.if_icmp .ne 21, 3) := by decide +kernel
theorem dX10_least_63 : decode cX10_least 63 = .ok (.iload 4, 2) := by decide +kernel
theorem dX10_least_65 : decode cX10_least 65 = .ok (.aload_n 0, 1) := by decide +kernel
theorem dX10_least_66 : decode cX10_least 66 = .ok (.getfield 30, 3) := by decide +kernel
theorem dX10_least_69 : decode cX10_least 69 = .ok (.getfield 105, 3) := by decide +kernel
theorem dX10_least_72 : decode cX10_least 72 = .ok (.iload_n 1, 1) := by decide +kernel
theorem dX10_least_73 : decode cX10_least 73 = .ok (.iconst 1, 1) := by decide +kernel
theorem dX10_least_74 : decode cX10_least 74 = .ok (.invokevirtual 166, 3) := by decide +kernel
theorem dX10_least_77 : decode cX10_least 77 = .ok (.iadd, 1) := by decide +kernel
theorem dX10_least_78 : decode cX10_least 78 = .ok (.goto 5, 3) := by decide +kernel
theorem dX10_least_81 : decode cX10_least 81 = .ok (.iload 4, 2) := by decide +kernel
theorem dX10_least_83 : decode cX10_least 83 = .ok (.ireturn, 1) := by decide +kernel
theorem dX10_least_84 : decode cX10_least 84 = .ok (.aload_n 0, 1) := by decide +kernel
theorem dX10_least_85 : decode cX10_least 85 = .ok (.getfield 55, 3) := by decide +kernel
theorem dX10_least_88 : decode cX10_least 88 = .ok (.aload_n 0, 1) := by decide +kernel
theorem dX10_least_89 : decode cX10_least 89 = .ok (.getfield 30, 3) := by decide +kernel
theorem dX10_least_92 : decode cX10_least 92 = .ok (.iload_n 3, 1) := by decide +kernel
theorem dX10_least_93 : decode cX10_least 93 = .ok (.invokevirtual 185, 3) := by decide +kernel
theorem dX10_least_96 : decode cX10_least 96 = .ok (.ireturn, 1) := by decide +kernel
theorem dX10_ever_0 : decode cX10_ever 0 = .ok (.aload_n 0, 1) := by decide +kernel
theorem dX10_ever_1 : decode cX10_ever 1 = .ok (.getfield 55, 3) := by decide +kernel
theorem dX10_ever_4 : decode cX10_ever 4 = .ok (.aload_n 0, 1) := by decide +kernel
theorem dX10_ever_5 : decode cX10_ever 5 = .ok (.getfield 30, 3) := by decide +kernel
theorem dX10_ever_8 : decode cX10_ever 8 = .ok (.invokevirtual 189, 3) := by decide +kernel
theorem dX10_ever_11 : decode cX10_ever 11 = .ok (.ireturn, 1) := by decide +kernel
theorem dX10_contradict_0 : decode cX10_contradict 0 = .ok (.aload_n 0, 1) := by decide +kernel
theorem dX10_contradict_1 : decode cX10_contradict 1 = .ok (.invokevirtual 169, 3) := by decide +kernel
theorem dX10_contradict_4 : decode cX10_contradict 4 = .ok (.invokestatic 192, 3) := by decide +kernel
theorem dX10_contradict_7 : decode cX10_contradict 7 = .ok (.ireturn, 1) := by decide +kernel
theorem dX10_giveUp_0 : decode cX10_giveUp 0 = .ok (.iconst (-1), 1) := by decide +kernel
theorem dX10_giveUp_1 : decode cX10_giveUp 1 = .ok (.istore_n 1, 1) := by decide +kernel
theorem dX10_giveUp_2 : decode cX10_giveUp 2 = .ok (.iconst 0, 1) := by decide +kernel
theorem dX10_giveUp_3 : decode cX10_giveUp 3 = .ok (.istore_n 2, 1) := by decide +kernel
theorem dX10_giveUp_4 : decode cX10_giveUp 4 = .ok (.iload_n 2, 1) := by decide +kernel
theorem dX10_giveUp_5 : decode cX10_giveUp 5 = .ok (.bipush 64, 2) := by decide +kernel
theorem dX10_giveUp_7 : decode cX10_giveUp 7 = .ok (.if_icmp .ge 57, 3) := by decide +kernel
theorem dX10_giveUp_10 : decode cX10_giveUp 10 = .ok (.iload_n 2, 1) := by decide +kernel
theorem dX10_giveUp_11 : decode cX10_giveUp 11 = .ok (.aload_n 0, 1) := by decide +kernel
theorem dX10_giveUp_12 : decode cX10_giveUp 12 = .ok (.getfield 30, 3) := by decide +kernel
theorem dX10_giveUp_15 : decode cX10_giveUp 15 = .ok (.getfield 122, 3) := by decide +kernel
theorem dX10_giveUp_18 : decode cX10_giveUp 18 = .ok (.iconst (-1), 1) := by decide +kernel
theorem dX10_giveUp_19 : decode cX10_giveUp 19 = .ok (.ixor, 1) := by decide +kernel
theorem dX10_giveUp_20 : decode cX10_giveUp 20 = .ok (.iand, 1) := by decide +kernel
theorem dX10_giveUp_21 : decode cX10_giveUp 21 = .ok (.ifCond .ne 37, 3) := by decide +kernel
theorem dX10_giveUp_24 : decode cX10_giveUp 24 = .ok (.iload_n 2, 1) := by decide +kernel
theorem dX10_giveUp_25 : decode cX10_giveUp 25 = .ok (.iload_n 1, 1) := by decide +kernel
theorem dX10_giveUp_26 : decode cX10_giveUp 26 = .ok (.invokestatic 195, 3) := by decide +kernel
theorem dX10_giveUp_29 : decode cX10_giveUp 29 = .ok (.ifCond .eq 29, 3) := by decide +kernel
theorem dX10_giveUp_32 : decode cX10_giveUp 32 = .ok (.aload_n 0, 1) := by decide +kernel
theorem dX10_giveUp_33 : decode cX10_giveUp 33 = .ok (.getfield 30, 3) := by decide +kernel
theorem dX10_giveUp_36 : decode cX10_giveUp 36 = .ok (.aload_n 0, 1) := by decide +kernel
theorem dX10_giveUp_37 : decode cX10_giveUp 37 = .ok (.getfield 30, 3) := by decide +kernel
theorem dX10_giveUp_40 : decode cX10_giveUp 40 = .ok (.getfield 122, 3) := by decide +kernel
theorem dX10_giveUp_43 : decode cX10_giveUp 43 = .ok (.iload_n 2, 1) := by decide +kernel
theorem dX10_giveUp_44 : decode cX10_giveUp 44 = .ok (.iconst (-1), 1) := by decide +kernel
theorem dX10_giveUp_45 : decode cX10_giveUp 45 = .ok (.ixor, 1) := by decide +kernel
theorem dX10_giveUp_46 : decode cX10_giveUp 46 = .ok (.iand, 1) := by decide +kernel
theorem dX10_giveUp_47 : decode cX10_giveUp 47 = .ok (.invokevirtual 199, 3) := by decide +kernel
theorem dX10_giveUp_50 : decode cX10_giveUp 50 = .ok (.invokestatic 202, 3) := by decide +kernel
theorem dX10_giveUp_53 : decode cX10_giveUp 53 = .ok (.ifCond .ne 5, 3) := by decide +kernel
theorem dX10_giveUp_56 : decode cX10_giveUp 56 = .ok (.iload_n 2, 1) := by decide +kernel
theorem dX10_giveUp_57 : decode cX10_giveUp 57 = .ok (.istore_n 1, 1) := by decide +kernel
theorem dX10_giveUp_58 : decode cX10_giveUp 58 = .ok (.iinc 2 1, 3) := by decide +kernel
theorem dX10_giveUp_61 : decode cX10_giveUp 61 = .ok (.goto (-57), 3) := by decide +kernel
theorem dX10_giveUp_64 : decode cX10_giveUp 64 = .ok (.iload_n 1, 1) := by decide +kernel
theorem dX10_giveUp_65 : decode cX10_giveUp 65 = .ok (.ireturn, 1) := by decide +kernel
theorem dX10_denial_0 : decode cX10_denial 0 = .ok (.aload_n 0, 1) := by decide +kernel
theorem dX10_denial_1 : decode cX10_denial 1 = .ok (.iload_n 1, 1) := by decide +kernel
theorem dX10_denial_2 : decode cX10_denial 2 = .ok (.invokevirtual 134, 3) := by decide +kernel
theorem dX10_denial_5 : decode cX10_denial 5 = .ok (.ifCond .ne 8, 3) := by decide +kernel
theorem dX10_denial_8 : decode cX10_denial 8 = .ok (.aload_n 0, 1) := by decide +kernel
theorem dX10_denial_9 : decode cX10_denial 9 = .ok (.invokevirtual 70, 3) := by decide +kernel
theorem dX10_denial_12 : decode cX10_denial 12 = .ok (.ireturn, 1) := by decide +kernel
theorem dX10_denial_13 : decode cX10_denial 13 = .ok (.aload_n 0, 1) := by decide +kernel
theorem dX10_denial_14 : decode cX10_denial 14 = .ok (.iload_n 1, 1) := by decide +kernel
theorem dX10_denial_15 : decode cX10_denial 15 = .ok (.invokevirtual 157, 3) := by decide +kernel
theorem dX10_denial_18 : decode cX10_denial 18 = .ok (.ifCond .ne 8, 3) := by decide +kernel
theorem dX10_denial_21 : decode cX10_denial 21 = .ok (.aload_n 0, 1) := by decide +kernel
theorem dX10_denial_22 : decode cX10_denial 22 = .ok (.invokevirtual 141, 3) := by decide +kernel
theorem dX10_denial_25 : decode cX10_denial 25 = .ok (.ireturn, 1) := by decide +kernel
theorem dX10_denial_26 : decode cX10_denial 26 = .ok (.aload_n 0, 1) := by decide +kernel
theorem dX10_denial_27 : decode cX10_denial 27 = .ok (.getfield 30, 3) := by decide +kernel
theorem dX10_denial_30 : decode cX10_denial 30 = .ok (.iload_n 1, 1) := by decide +kernel
theorem dX10_denial_31 : decode cX10_denial 31 = .ok (.invokevirtual 160, 3) := by decide +kernel
theorem dX10_denial_34 : decode cX10_denial 34 = .ok (.istore_n 2, 1) := by decide +kernel
theorem dX10_denial_35 : decode cX10_denial 35 = .ok (.iconst 0, 1) := by decide +kernel
theorem dX10_denial_36 : decode cX10_denial 36 = .ok (.istore_n 3, 1) := by decide +kernel
theorem dX10_denial_37 : decode cX10_denial 37 = .ok (.iconst 0, 1) := by decide +kernel
theorem dX10_denial_38 : decode cX10_denial 38 = .ok (.istore 4, 2) := by decide +kernel
theorem dX10_denial_40 : decode cX10_denial 40 = .ok (.iload 4, 2) := by decide +kernel
theorem dX10_denial_42 : decode cX10_denial 42 = .ok (.iconst 4, 1) := by decide +kernel
theorem dX10_denial_43 : decode cX10_denial 43 = .ok (.if_icmp .ge 70, 3) := by decide +kernel
theorem dX10_denial_46 : decode cX10_denial 46 = .ok (.iload 4, 2) := by decide +kernel
theorem dX10_denial_48 : decode cX10_denial 48 = .ok (.iconst 1, 1) := by decide +kernel
theorem dX10_denial_49 : decode cX10_denial 49 = .ok (.iand, 1) := by decide +kernel
theorem dX10_denial_50 : decode cX10_denial 50 = .ok (.istore 5, 2) := by decide +kernel
theorem dX10_denial_52 : decode cX10_denial 52 = .ok (.iload 4, 2) := by decide +kernel
theorem dX10_denial_54 : decode cX10_denial 54 = .ok (.iconst 1, 1) := by decide +kernel
theorem dX10_denial_55 : decode cX10_denial 55 = .ok (.ishr, 1) := by decide +kernel
theorem dX10_denial_56 : decode cX10_denial 56 = .ok (.istore 6, 2) := by decide +kernel
theorem dX10_denial_58 : decode cX10_denial 58 = .ok (.iload 5, 2) := by decide +kernel
theorem dX10_denial_60 : decode cX10_denial 60 = .ok (.iload 6, 2) := by decide +kernel
theorem dX10_denial_62 : decode cX10_denial 62 = .ok (.iload_n 2, 1) := by decide +kernel
theorem dX10_denial_63 : decode cX10_denial 63 = .ok (.invokestatic 205, 3) := by decide +kernel
theorem dX10_denial_66 : decode cX10_denial 66 = .ok (.iconst 1, 1) := by decide +kernel
theorem dX10_denial_67 : decode cX10_denial 67 = .ok (.iload 5, 2) := by decide +kernel
theorem dX10_denial_69 : decode cX10_denial 69 = .ok (.isub, 1) := by decide +kernel
theorem dX10_denial_70 : decode cX10_denial 70 = .ok (.iload 6, 2) := by decide +kernel
theorem dX10_denial_72 : decode cX10_denial 72 = .ok (.iload_n 2, 1) := by decide +kernel
theorem dX10_denial_73 : decode cX10_denial 73 = .ok (.invokestatic 205, 3) := by decide +kernel
theorem dX10_denial_76 : decode cX10_denial 76 = .ok (.if_icmp .lt 31, 3) := by decide +kernel
theorem dX10_denial_79 : decode cX10_denial 79 = .ok (.iload 5, 2) := by decide +kernel
theorem dX10_denial_81 : decode cX10_denial 81 = .ok (.iload 6, 2) := by decide +kernel
theorem dX10_denial_83 : decode cX10_denial 83 = .ok (.iload_n 2, 1) := by decide +kernel
theorem dX10_denial_84 : decode cX10_denial 84 = .ok (.invokestatic 209, 3) := by decide +kernel
theorem dX10_denial_87 : decode cX10_denial 87 = .ok (.iload 5, 2) := by decide +kernel
theorem dX10_denial_89 : decode cX10_denial 89 = .ok (.iconst 1, 1) := by decide +kernel
theorem dX10_denial_90 : decode cX10_denial 90 = .ok (.iload 6, 2) := by decide +kernel
theorem dX10_denial_92 : decode cX10_denial 92 = .ok (.isub, 1) := by decide +kernel
theorem dX10_denial_93 : decode cX10_denial 93 = .ok (.iload_n 2, 1) := by decide +kernel
theorem dX10_denial_94 : decode cX10_denial 94 = .ok (.invokestatic 209, 3) := by decide +kernel
theorem dX10_denial_97 : decode cX10_denial 97 = .ok (.if_icmp .lt 10, 3) := by decide +kernel
theorem dX10_denial_100 : decode cX10_denial 100 = .ok (.iload_n 3, 1) := by decide +kernel
theorem dX10_denial_101 : decode cX10_denial 101 = .ok (.iconst 1, 1) := by decide +kernel
theorem dX10_denial_102 : decode cX10_denial 102 = .ok (.iload 4, 2) := by decide +kernel
theorem dX10_denial_104 : decode cX10_denial 104 = .ok (.ishl, 1) := by decide +kernel
theorem dX10_denial_105 : decode cX10_denial 105 = .ok (.ior, 1) := by decide +kernel
theorem dX10_denial_106 : decode cX10_denial 106 = .ok (.istore_n 3, 1) := by decide +kernel
theorem dX10_denial_107 : decode cX10_denial 107 = .ok (.iinc 4 1, 3) := by decide +kernel
theorem dX10_denial_110 : decode cX10_denial 110 = .ok (.goto (-70), 3) := by decide +kernel
theorem dX10_denial_113 : decode cX10_denial 113 = .ok (.iload_n 3, 1) := by decide +kernel
theorem dX10_denial_114 : decode cX10_denial 114 = .ok (.ireturn, 1) := by decide +kernel
theorem dX10_fees_0 : decode cX10_fees 0 = .ok (.iload_n 1, 1) := by decide +kernel
theorem dX10_fees_1 : decode cX10_fees 1 = .ok (.iconst 0, 1) := by decide +kernel
theorem dX10_fees_2 : decode cX10_fees 2 = .ok (.iconst 1, 1) := by decide +kernel
theorem dX10_fees_3 : decode cX10_fees 3 = .ok (.invokestatic 66, 3) := by decide +kernel
theorem dX10_fees_6 : decode cX10_fees 6 = .ok (.ifCond .ne 8, 3) := by decide +kernel
theorem dX10_fees_9 : decode cX10_fees 9 = .ok (.aload_n 0, 1) := by decide +kernel
theorem dX10_fees_10 : decode cX10_fees 10 = .ok (.invokevirtual 70, 3) := by decide +kernel
theorem dX10_fees_13 : decode cX10_fees 13 = .ok (.ireturn, 1) := by decide +kernel
theorem dX10_fees_14 : decode cX10_fees 14 = .ok (.iconst (-1), 1) := by decide +kernel
theorem dX10_fees_15 : decode cX10_fees 15 = .ok (.istore_n 2, 1) := by decide +kernel
theorem dX10_fees_16 : decode cX10_fees 16 = .ok (.iconst (-1), 1) := by decide +kernel
theorem dX10_fees_17 : decode cX10_fees 17 = .ok (.istore_n 3, 1) := by decide +kernel
theorem dX10_fees_18 : decode cX10_fees 18 = .ok (.iconst 0, 1) := by decide +kernel
theorem dX10_fees_19 : decode cX10_fees 19 = .ok (.istore 4, 2) := by decide +kernel
theorem dX10_fees_21 : decode cX10_fees 21 = .ok (.iload 4, 2) := by decide +kernel
theorem dX10_fees_23 : decode cX10_fees 23 = .ok (.aload_n 0, 1) := by decide +kernel
theorem dX10_fees_24 : decode cX10_fees 24 = .ok (.getfield 30, 3) := by decide +kernel
theorem dX10_fees_27 : decode cX10_fees 27 = .ok (.getfield 105, 3) := by decide +kernel
theorem dX10_fees_30 : decode cX10_fees 30 = .ok (.getfield 78, 3) := by decide +kernel
theorem dX10_fees_33 : decode cX10_fees 33 = .ok (.if_icmp .ge 66, 3) := by decide +kernel
theorem dX10_fees_36 : decode cX10_fees 36 = .ok (.aload_n 0, 1) := by decide +kernel
theorem dX10_fees_37 : decode cX10_fees 37 = .ok (.getfield 55, 3) := by decide +kernel
theorem dX10_fees_40 : decode cX10_fees 40 = .ok (.aload_n 0, 1) := by decide +kernel
theorem dX10_fees_41 : decode cX10_fees 41 = .ok (.getfield 30, 3) := by decide +kernel
theorem dX10_fees_44 : decode cX10_fees 44 = .ok (.iload 4, 2) := by decide +kernel
theorem dX10_fees_46 : decode cX10_fees 46 = .ok (.iconst 1, 1) := by decide +kernel
theorem dX10_fees_47 : decode cX10_fees 47 = .ok (.invokevirtual 181, 3) := by decide +kernel
theorem dX10_fees_50 : decode cX10_fees 50 = .ok (.istore 5, 2) := by decide +kernel
theorem dX10_fees_52 : decode cX10_fees 52 = .ok (.iload 5, 2) := by decide +kernel
theorem dX10_fees_54 : decode cX10_fees 54 = .ok (.aload_n 0, 1) := by decide +kernel
theorem dX10_fees_55 : decode cX10_fees 55 = .ok (.getfield 30, 3) := by decide +kernel
theorem dX10_fees_58 : decode cX10_fees 58 = .ok (.getfield 105, 3) := by decide +kernel
theorem dX10_fees_61 : decode cX10_fees 61 = .ok (.iload 4, 2) := by decide +kernel
theorem dX10_fees_63 : decode cX10_fees 63 = .ok (.iconst 1, 1) := by decide +kernel
theorem dX10_fees_64 : decode cX10_fees 64 = .ok (.invokevirtual 166, 3) := by decide +kernel
theorem dX10_fees_67 : decode cX10_fees 67 = .ok (.iadd, 1) := by decide +kernel
theorem dX10_fees_68 : decode cX10_fees 68 = .ok (.istore 6, 2) := by decide +kernel
theorem dX10_fees_70 : decode cX10_fees 70 = .ok (.iload 5, 2) := by decide +kernel
theorem dX10_fees_72 : decode cX10_fees 72 = .ok (.iconst (-1), 1) := by decide +kernel
theorem dX10_fees_73 : decode cX10_fees 73 = .ok (.if_icmp .eq 20, 3) := by decide +kernel
theorem dX10_fees_76 : decode cX10_fees 76 = .ok (.iload_n 2, 1) := by decide +kernel
theorem dX10_fees_77 : decode cX10_fees 77 = .ok (.iconst (-1), 1) := by decide +kernel
theorem dX10_fees_78 : decode cX10_fees 78 = .ok (.if_icmp .eq 9, 3) := by decide +kernel
theorem dX10_fees_81 : decode cX10_fees 81 = .ok (.iload 6, 2) := by decide +kernel
theorem dX10_fees_83 : decode cX10_fees 83 = .ok (.iload_n 3, 1) := by decide +kernel
theorem dX10_fees_84 : decode cX10_fees 84 = .ok (.if_icmp .ge 9, 3) := by decide +kernel
theorem dX10_fees_87 : decode cX10_fees 87 = .ok (.iload 4, 2) := by decide +kernel
theorem dX10_fees_89 : decode cX10_fees 89 = .ok (.istore_n 2, 1) := by decide +kernel
theorem dX10_fees_90 : decode cX10_fees 90 = .ok (.iload 6, 2) := by decide +kernel
theorem dX10_fees_92 : decode cX10_fees 92 = .ok (.istore_n 3, 1) := by decide +kernel
theorem dX10_fees_93 : decode cX10_fees 93 = .ok (.iinc 4 1, 3) := by decide +kernel
theorem dX10_fees_96 : decode cX10_fees 96 = .ok (.goto (-75), 3) := by decide +kernel
theorem dX10_fees_99 : decode cX10_fees 99 = .ok (.iload_n 1, 1) := by decide +kernel
theorem dX10_fees_100 : decode cX10_fees 100 = .ok (.ifCond .ne 7, 3) := by decide +kernel
theorem dX10_fees_103 : decode cX10_fees 103 = .ok (.iload_n 2, 1) := by decide +kernel
theorem dX10_fees_104 : decode cX10_fees 104 = .ok (.goto 4, 3) := by decide +kernel
theorem dX10_fees_107 : decode cX10_fees 107 = .ok (.iload_n 3, 1) := by decide +kernel
theorem dX10_fees_108 : decode cX10_fees 108 = .ok (.ireturn, 1) := by decide +kernel
theorem dX10_rule_0 : decode cX10_rule 0 = .ok (.aload_n 0, 1) := by decide +kernel
theorem dX10_rule_1 : decode cX10_rule 1 = .ok (.iload_n 1, 1) := by decide +kernel
theorem dX10_rule_2 : decode cX10_rule 2 = .ok (.invokevirtual 178, 3) := by decide +kernel
theorem dX10_rule_5 : decode cX10_rule 5 = .ok (.ifCond .ne 8, 3) := by decide +kernel
theorem dX10_rule_8 : decode cX10_rule 8 = .ok (.aload_n 0, 1) := by decide +kernel
theorem dX10_rule_9 : decode cX10_rule 9 = .ok (.invokevirtual 70, 3) := by decide +kernel
theorem dX10_rule_12 : decode cX10_rule 12 = .ok (.ireturn, 1) := by decide +kernel
theorem dX10_rule_13 : decode cX10_rule 13 = .ok (.aload_n 0, 1) := by decide +kernel
theorem dX10_rule_14 : decode cX10_rule 14 = .ok (.getfield 30, 3) := by decide +kernel
theorem dX10_rule_17 : decode cX10_rule 17 = .ok (.getfield 105, 3) := by decide +kernel
theorem dX10_rule_20 : decode cX10_rule 20 = .ok (.iload_n 1, 1) := by decide +kernel
theorem dX10_rule_21 : decode cX10_rule 21 = .ok (.iconst 0, 1) := by decide +kernel
theorem dX10_rule_22 : decode cX10_rule 22 = .ok (.invokevirtual 166, 3) := by decide +kernel
theorem dX10_rule_25 : decode cX10_rule 25 = .ok (.aload_n 0, 1) := by decide +kernel
theorem dX10_rule_26 : decode cX10_rule 26 = .ok (.invokevirtual 169, 3) := by decide +kernel
theorem dX10_rule_29 : decode cX10_rule 29 = .ok (.iconst (-1), 1) := by decide +kernel
theorem dX10_rule_30 : decode cX10_rule 30 = .ok (.ixor, 1) := by decide +kernel
theorem dX10_rule_31 : decode cX10_rule 31 = .ok (.iand, 1) := by decide +kernel
theorem dX10_rule_32 : decode cX10_rule 32 = .ok (.ireturn, 1) := by decide +kernel
theorem dX10_note_0 : decode cX10_note 0 = .ok (.aload_n 0, 1) := by decide +kernel
theorem dX10_note_1 : decode cX10_note 1 = .ok (.iload_n 1, 1) := by decide +kernel
theorem dX10_note_2 : decode cX10_note 2 = .ok (.invokevirtual 134, 3) := by decide +kernel
theorem dX10_note_5 : decode cX10_note 5 = .ok (.ifCond .eq 23, 3) := by decide +kernel
theorem dX10_note_8 : decode cX10_note 8 = .ok (.iload_n 2, 1) := by decide +kernel
theorem dX10_note_9 : decode cX10_note 9 = .ok (.iconst 0, 1) := by decide +kernel
theorem dX10_note_10 : decode cX10_note 10 = .ok (.bipush 20, 2) := by decide +kernel
theorem dX10_note_12 : decode cX10_note 12 = .ok (.invokestatic 66, 3) := by decide +kernel
theorem dX10_note_15 : decode cX10_note 15 = .ok (.ifCond .eq 13, 3) := by decide +kernel
theorem dX10_note_18 : decode cX10_note 18 = .ok (.iload_n 3, 1) := by decide +kernel
theorem dX10_note_19 : decode cX10_note 19 = .ok (.iconst 0, 1) := by decide +kernel
theorem dX10_note_20 : decode cX10_note 20 = .ok (.bipush 60, 2) := by decide +kernel
theorem dX10_note_22 : decode cX10_note 22 = .ok (.invokestatic 66, 3) := by decide +kernel
theorem dX10_note_25 : decode cX10_note 25 = .ok (.ifCond .ne 8, 3) := by decide +kernel
theorem dX10_note_28 : decode cX10_note 28 = .ok (.aload_n 0, 1) := by decide +kernel
theorem dX10_note_29 : decode cX10_note 29 = .ok (.invokevirtual 70, 3) := by decide +kernel
theorem dX10_note_32 : decode cX10_note 32 = .ok (.ireturn, 1) := by decide +kernel
theorem dX10_note_33 : decode cX10_note 33 = .ok (.aload_n 0, 1) := by decide +kernel
theorem dX10_note_34 : decode cX10_note 34 = .ok (.getfield 30, 3) := by decide +kernel
theorem dX10_note_37 : decode cX10_note 37 = .ok (.getfield 212, 3) := by decide +kernel
theorem dX10_note_40 : decode cX10_note 40 = .ok (.invokevirtual 88, 3) := by decide +kernel
theorem dX10_note_43 : decode cX10_note 43 = .ok (.ifCond .eq 8, 3) := by decide +kernel
theorem dX10_note_46 : decode cX10_note 46 = .ok (.aload_n 0, 1) := by decide +kernel
theorem dX10_note_47 : decode cX10_note 47 = .ok (.invokevirtual 92, 3) := by decide +kernel
theorem dX10_note_50 : decode cX10_note 50 = .ok (.ireturn, 1) := by decide +kernel
theorem dX10_note_51 : decode cX10_note 51 = .ok (.aload_n 0, 1) := by decide +kernel
theorem dX10_note_52 : decode cX10_note 52 = .ok (.getfield 30, 3) := by decide +kernel
theorem dX10_note_55 : decode cX10_note 55 = .ok (.getfield 212, 3) := by decide +kernel
theorem dX10_note_58 : decode cX10_note 58 = .ok (.iload_n 1, 1) := by decide +kernel
theorem dX10_note_59 : decode cX10_note 59 = .ok (.iload_n 2, 1) := by decide +kernel
theorem dX10_note_60 : decode cX10_note 60 = .ok (.iload_n 3, 1) := by decide +kernel
theorem dX10_note_61 : decode cX10_note 61 = .ok (.iconst 0, 1) := by decide +kernel
theorem dX10_note_62 : decode cX10_note 62 = .ok (.invokevirtual 95, 3) := by decide +kernel
theorem dX10_note_65 : decode cX10_note 65 = .ok (.aload_n 0, 1) := by decide +kernel
theorem dX10_note_66 : decode cX10_note 66 = .ok (.getfield 30, 3) := by decide +kernel
theorem dX10_note_69 : decode cX10_note 69 = .ok (.getfield 212, 3) := by decide +kernel
theorem dX10_note_72 : decode cX10_note 72 = .ok (.getfield 78, 3) := by decide +kernel
theorem dX10_note_75 : decode cX10_note 75 = .ok (.ireturn, 1) := by decide +kernel
theorem dX10_heard_0 : decode cX10_heard 0 = .ok (.aload_n 0, 1) := by decide +kernel
theorem dX10_heard_1 : decode cX10_heard 1 = .ok (.iload_n 1, 1) := by decide +kernel
theorem dX10_heard_2 : decode cX10_heard 2 = .ok (.invokevirtual 178, 3) := by decide +kernel
theorem dX10_heard_5 : decode cX10_heard 5 = .ok (.ifCond .eq 12, 3) := by decide +kernel
theorem dX10_heard_8 : decode cX10_heard 8 = .ok (.iload_n 2, 1) := by decide +kernel
theorem dX10_heard_9 : decode cX10_heard 9 = .ok (.iconst 0, 1) := by decide +kernel
theorem dX10_heard_10 : decode cX10_heard 10 = .ok (.iconst 1, 1) := by decide +kernel
theorem dX10_heard_11 : decode cX10_heard 11 = .ok (.invokestatic 66, 3) := by decide +kernel
theorem dX10_heard_14 : decode cX10_heard 14 = .ok (.ifCond .ne 8, 3) := by decide +kernel
theorem dX10_heard_17 : decode cX10_heard 17 = .ok (.aload_n 0, 1) := by decide +kernel
theorem dX10_heard_18 : decode cX10_heard 18 = .ok (.invokevirtual 70, 3) := by decide +kernel
theorem dX10_heard_21 : decode cX10_heard 21 = .ok (.ireturn, 1) := by decide +kernel
theorem dX10_heard_22 : decode cX10_heard 22 = .ok (.aload_n 0, 1) := by decide +kernel
theorem dX10_heard_23 : decode cX10_heard 23 = .ok (.getfield 30, 3) := by decide +kernel
theorem dX10_heard_26 : decode cX10_heard 26 = .ok (.getfield 215, 3) := by decide +kernel
theorem dX10_heard_29 : decode cX10_heard 29 = .ok (.invokevirtual 88, 3) := by decide +kernel
theorem dX10_heard_32 : decode cX10_heard 32 = .ok (.ifCond .eq 8, 3) := by decide +kernel
theorem dX10_heard_35 : decode cX10_heard 35 = .ok (.aload_n 0, 1) := by decide +kernel
theorem dX10_heard_36 : decode cX10_heard 36 = .ok (.invokevirtual 92, 3) := by decide +kernel
theorem dX10_heard_39 : decode cX10_heard 39 = .ok (.ireturn, 1) := by decide +kernel
theorem dX10_heard_40 : decode cX10_heard 40 = .ok (.aload_n 0, 1) := by decide +kernel
theorem dX10_heard_41 : decode cX10_heard 41 = .ok (.getfield 30, 3) := by decide +kernel
theorem dX10_heard_44 : decode cX10_heard 44 = .ok (.getfield 215, 3) := by decide +kernel
theorem dX10_heard_47 : decode cX10_heard 47 = .ok (.iload_n 1, 1) := by decide +kernel
theorem dX10_heard_48 : decode cX10_heard 48 = .ok (.iload_n 2, 1) := by decide +kernel
theorem dX10_heard_49 : decode cX10_heard 49 = .ok (.iconst 0, 1) := by decide +kernel
theorem dX10_heard_50 : decode cX10_heard 50 = .ok (.iconst 0, 1) := by decide +kernel
theorem dX10_heard_51 : decode cX10_heard 51 = .ok (.invokevirtual 95, 3) := by decide +kernel
theorem dX10_heard_54 : decode cX10_heard 54 = .ok (.aload_n 0, 1) := by decide +kernel
theorem dX10_heard_55 : decode cX10_heard 55 = .ok (.getfield 30, 3) := by decide +kernel
theorem dX10_heard_58 : decode cX10_heard 58 = .ok (.getfield 215, 3) := by decide +kernel
theorem dX10_heard_61 : decode cX10_heard 61 = .ok (.getfield 78, 3) := by decide +kernel
theorem dX10_heard_64 : decode cX10_heard 64 = .ok (.ireturn, 1) := by decide +kernel
theorem dX10_forget_0 : decode cX10_forget 0 = .ok (.iload_n 1, 1) := by decide +kernel
theorem dX10_forget_1 : decode cX10_forget 1 = .ok (.iconst 0, 1) := by decide +kernel
theorem dX10_forget_2 : decode cX10_forget 2 = .ok (.iconst 1, 1) := by decide +kernel
theorem dX10_forget_3 : decode cX10_forget 3 = .ok (.invokestatic 66, 3) := by decide +kernel
theorem dX10_forget_6 : decode cX10_forget 6 = .ok (.ifCond .ne 8, 3) := by decide +kernel
theorem dX10_forget_9 : decode cX10_forget 9 = .ok (.aload_n 0, 1) := by decide +kernel
theorem dX10_forget_10 : decode cX10_forget 10 = .ok (.invokevirtual 70, 3) := by decide +kernel
theorem dX10_forget_13 : decode cX10_forget 13 = .ok (.ireturn, 1) := by decide +kernel
theorem dX10_forget_14 : decode cX10_forget 14 = .ok (.iload_n 1, 1) := by decide +kernel
theorem dX10_forget_15 : decode cX10_forget 15 = .ok (.ifCond .ne 13, 3) := by decide +kernel
theorem dX10_forget_18 : decode cX10_forget 18 = .ok (.aload_n 0, 1) := by decide +kernel
theorem dX10_forget_19 : decode cX10_forget 19 = .ok (.getfield 30, 3) := by decide +kernel
theorem dX10_forget_22 : decode cX10_forget 22 = .ok (.getfield 212, 3) := by decide +kernel
theorem dX10_forget_25 : decode cX10_forget 25 = .ok (.goto 10, 3) := by decide +kernel
theorem dX10_forget_28 : decode cX10_forget 28 = .ok (.aload_n 0, 1) := by decide +kernel
theorem dX10_forget_29 : decode cX10_forget 29 = .ok (.getfield 30, 3) := by decide +kernel
theorem dX10_forget_32 : decode cX10_forget 32 = .ok (.getfield 215, 3) := by decide +kernel
theorem dX10_forget_35 : decode cX10_forget 35 = .ok (.astore_n 2, 1) := by decide +kernel
theorem dX10_forget_36 : decode cX10_forget 36 = .ok (.aload_n 2, 1) := by decide +kernel
theorem dX10_forget_37 : decode cX10_forget 37 = .ok (.getfield 78, 3) := by decide +kernel
theorem dX10_forget_40 : decode cX10_forget 40 = .ok (.istore_n 3, 1) := by decide +kernel
theorem dX10_forget_41 : decode cX10_forget 41 = .ok (.aload_n 2, 1) := by decide +kernel
theorem dX10_forget_42 : decode cX10_forget 42 = .ok (.invokevirtual 102, 3) := by decide +kernel
theorem dX10_forget_45 : decode cX10_forget 45 = .ok (.iload_n 3, 1) := by decide +kernel
theorem dX10_forget_46 : decode cX10_forget 46 = .ok (.ireturn, 1) := by decide +kernel
theorem dX10_is_0 : decode cX10_is 0 = .ok (.aload_n 0, 1) := by decide +kernel
theorem dX10_is_1 : decode cX10_is 1 = .ok (.iload_n 1, 1) := by decide +kernel
theorem dX10_is_2 : decode cX10_is 2 = .ok (.invokevirtual 134, 3) := by decide +kernel
theorem dX10_is_5 : decode cX10_is 5 = .ok (.ifCond .ne 8, 3) := by decide +kernel
theorem dX10_is_8 : decode cX10_is 8 = .ok (.aload_n 0, 1) := by decide +kernel
theorem dX10_is_9 : decode cX10_is 9 = .ok (.invokevirtual 70, 3) := by decide +kernel
theorem dX10_is_12 : decode cX10_is 12 = .ok (.ireturn, 1) := by decide +kernel
theorem dX10_is_13 : decode cX10_is 13 = .ok (.aload_n 0, 1) := by decide +kernel
theorem dX10_is_14 : decode cX10_is 14 = .ok (.getfield 30, 3) := by decide +kernel
theorem dX10_is_17 : decode cX10_is 17 = .ok (.iload_n 1, 1) := by decide +kernel
theorem dX10_is_18 : decode cX10_is 18 = .ok (.invokevirtual 218, 3) := by decide +kernel
theorem dX10_is_21 : decode cX10_is 21 = .ok (.ireturn, 1) := by decide +kernel
theorem dX10_look_0 : decode cX10_look 0 = .ok (.aload_n 0, 1) := by decide +kernel
theorem dX10_look_1 : decode cX10_look 1 = .ok (.iload_n 1, 1) := by decide +kernel
theorem dX10_look_2 : decode cX10_look 2 = .ok (.invokevirtual 134, 3) := by decide +kernel
theorem dX10_look_5 : decode cX10_look 5 = .ok (.ifCond .ne 8, 3) := by decide +kernel
theorem dX10_look_8 : decode cX10_look 8 = .ok (.aload_n 0, 1) := by decide +kernel
theorem dX10_look_9 : decode cX10_look 9 = .ok (.invokevirtual 70, 3) := by decide +kernel
theorem dX10_look_12 : decode cX10_look 12 = .ok (.ireturn, 1) := by decide +kernel
theorem dX10_look_13 : decode cX10_look 13 = .ok (.aload_n 0, 1) := by decide +kernel
theorem dX10_look_14 : decode cX10_look 14 = .ok (.getfield 30, 3) := by decide +kernel
theorem dX10_look_17 : decode cX10_look 17 = .ok (.iload_n 1, 1) := by decide +kernel
theorem dX10_look_18 : decode cX10_look 18 = .ok (.invokevirtual 218, 3) := by decide +kernel
theorem dX10_look_21 : decode cX10_look 21 = .ok (.istore_n 2, 1) := by decide +kernel
theorem dX10_look_22 : decode cX10_look 22 = .ok (.iconst (-1), 1) := by decide +kernel
theorem dX10_look_23 : decode cX10_look 23 = .ok (.istore_n 3, 1) := by decide +kernel
theorem dX10_look_24 : decode cX10_look 24 = .ok (.bipush 7, 2) := by decide +kernel
theorem dX10_look_26 : decode cX10_look 26 = .ok (.istore 4, 2) := by decide +kernel
theorem dX10_look_28 : decode cX10_look 28 = .ok (.iconst 0, 1) := by decide +kernel
theorem dX10_look_29 : decode cX10_look 29 = .ok (.istore 5, 2) := by decide +kernel
theorem dX10_look_31 : decode cX10_look 31 = .ok (.iload 5, 2) := by decide +kernel
theorem dX10_look_33 : decode cX10_look 33 = .ok (.bipush 9, 2) := by decide +kernel
theorem dX10_look_35 : decode cX10_look 35 = .ok (.if_icmp .gt 40, 3) := by decide +kernel
theorem dX10_look_38 : decode cX10_look 38 = .ok (.iload_n 2, 1) := by decide +kernel
theorem dX10_look_39 : decode cX10_look 39 = .ok (.ifCond .eq 36, 3) := by decide +kernel
theorem dX10_look_42 : decode cX10_look 42 = .ok (.aload_n 0, 1) := by decide +kernel
theorem dX10_look_43 : decode cX10_look 43 = .ok (.getfield 30, 3) := by decide +kernel
theorem dX10_look_46 : decode cX10_look 46 = .ok (.iload_n 1, 1) := by decide +kernel
theorem dX10_look_47 : decode cX10_look 47 = .ok (.iload_n 2, 1) := by decide +kernel
theorem dX10_look_48 : decode cX10_look 48 = .ok (.iload 5, 2) := by decide +kernel
theorem dX10_look_50 : decode cX10_look 50 = .ok (.invokevirtual 221, 3) := by decide +kernel
theorem dX10_look_53 : decode cX10_look 53 = .ok (.istore 6, 2) := by decide +kernel
theorem dX10_look_55 : decode cX10_look 55 = .ok (.iload 6, 2) := by decide +kernel
theorem dX10_look_57 : decode cX10_look 57 = .ok (.iload 4, 2) := by decide +kernel
theorem dX10_look_59 : decode cX10_look 59 = .ok (.if_icmp .ge 10, 3) := by decide +kernel
theorem dX10_look_62 : decode cX10_look 62 = .ok (.iload 6, 2) := by decide +kernel
theorem dX10_look_64 : decode cX10_look 64 = .ok (.istore 4, 2) := by decide +kernel
theorem dX10_look_66 : decode cX10_look 66 = .ok (.iload 5, 2) := by decide +kernel
theorem dX10_look_68 : decode cX10_look 68 = .ok (.istore_n 3, 1) := by decide +kernel
theorem dX10_look_69 : decode cX10_look 69 = .ok (.iinc 5 1, 3) := by decide +kernel
theorem dX10_look_72 : decode cX10_look 72 = .ok (.goto (-41), 3) := by decide +kernel
theorem dX10_look_75 : decode cX10_look 75 = .ok (.iload_n 3, 1) := by decide +kernel
theorem dX10_look_76 : decode cX10_look 76 = .ok (.ireturn, 1) := by decide +kernel
theorem dX10_truth_0 : decode cX10_truth 0 = .ok (.iload_n 1, 1) := by decide +kernel
theorem dX10_truth_1 : decode cX10_truth 1 = .ok (.iconst 0, 1) := by decide +kernel
theorem dX10_truth_2 : decode cX10_truth 2 = .ok (.iconst 2, 1) := by decide +kernel
theorem dX10_truth_3 : decode cX10_truth 3 = .ok (.invokestatic 66, 3) := by decide +kernel
theorem dX10_truth_6 : decode cX10_truth 6 = .ok (.ifCond .ne 8, 3) := by decide +kernel
theorem dX10_truth_9 : decode cX10_truth 9 = .ok (.aload_n 0, 1) := by decide +kernel
theorem dX10_truth_10 : decode cX10_truth 10 = .ok (.invokevirtual 70, 3) := by decide +kernel
theorem dX10_truth_13 : decode cX10_truth 13 = .ok (.ireturn, 1) := by decide +kernel
theorem dX10_truth_14 : decode cX10_truth 14 = .ok (.iconst 0, 1) := by decide +kernel
theorem dX10_truth_15 : decode cX10_truth 15 = .ok (.istore_n 2, 1) := by decide +kernel
theorem dX10_truth_16 : decode cX10_truth 16 = .ok (.sipush 255, 3) := by decide +kernel
theorem dX10_truth_19 : decode cX10_truth 19 = .ok (.istore_n 3, 1) := by decide +kernel
theorem dX10_truth_20 : decode cX10_truth 20 = .ok (.iconst 0, 1) := by decide +kernel
theorem dX10_truth_21 : decode cX10_truth 21 = .ok (.istore 4, 2) := by decide +kernel
theorem dX10_truth_23 : decode cX10_truth 23 = .ok (.iconst 0, 1) := by decide +kernel
theorem dX10_truth_24 : decode cX10_truth 24 = .ok (.istore 5, 2) := by decide +kernel
theorem dX10_truth_26 : decode cX10_truth 26 = .ok (.iload 5, 2) := by decide +kernel
theorem dX10_truth_28 : decode cX10_truth 28 = .ok (.sipush 255, 3) := by decide +kernel
theorem dX10_truth_31 : decode cX10_truth 31 = .ok (.if_icmp .gt 44, 3) := by decide +kernel
theorem dX10_truth_34 : decode cX10_truth 34 = .ok (.iload 5, 2) := by decide +kernel
theorem dX10_truth_36 : decode cX10_truth 36 = .ok (.invokestatic 202, 3) := by decide +kernel
theorem dX10_truth_39 : decode cX10_truth 39 = .ok (.ifCond .ne 30, 3) := by decide +kernel
theorem dX10_truth_42 : decode cX10_truth 42 = .ok (.aload_n 0, 1) := by decide +kernel
theorem dX10_truth_43 : decode cX10_truth 43 = .ok (.getfield 30, 3) := by decide +kernel
theorem dX10_truth_46 : decode cX10_truth 46 = .ok (.iload 5, 2) := by decide +kernel
theorem dX10_truth_48 : decode cX10_truth 48 = .ok (.invokevirtual 225, 3) := by decide +kernel
theorem dX10_truth_51 : decode cX10_truth 51 = .ok (.ifCond .eq 18, 3) := by decide +kernel
theorem dX10_truth_54 : decode cX10_truth 54 = .ok (.iinc 2 1, 3) := by decide +kernel
theorem dX10_truth_57 : decode cX10_truth 57 = .ok (.iload_n 3, 1) := by decide +kernel
theorem dX10_truth_58 : decode cX10_truth 58 = .ok (.iload 5, 2) := by decide +kernel
theorem dX10_truth_60 : decode cX10_truth 60 = .ok (.iand, 1) := by decide +kernel
theorem dX10_truth_61 : decode cX10_truth 61 = .ok (.istore_n 3, 1) := by decide +kernel
theorem dX10_truth_62 : decode cX10_truth 62 = .ok (.iload 4, 2) := by decide +kernel
theorem dX10_truth_64 : decode cX10_truth 64 = .ok (.iload 5, 2) := by decide +kernel
theorem dX10_truth_66 : decode cX10_truth 66 = .ok (.ior, 1) := by decide +kernel
theorem dX10_truth_67 : decode cX10_truth 67 = .ok (.istore 4, 2) := by decide +kernel
theorem dX10_truth_69 : decode cX10_truth 69 = .ok (.iinc 5 1, 3) := by decide +kernel
theorem dX10_truth_72 : decode cX10_truth 72 = .ok (.goto (-46), 3) := by decide +kernel
theorem dX10_truth_75 : decode cX10_truth 75 = .ok (.iload_n 1, 1) := by decide +kernel
theorem dX10_truth_76 : decode cX10_truth 76 = .ok (.ifCond .ne 5, 3) := by decide +kernel
theorem dX10_truth_79 : decode cX10_truth 79 = .ok (.iload_n 2, 1) := by decide +kernel
theorem dX10_truth_80 : decode cX10_truth 80 = .ok (.ireturn, 1) := by decide +kernel
theorem dX10_truth_81 : decode cX10_truth 81 = .ok (.iload_n 1, 1) := by decide +kernel
theorem dX10_truth_82 : decode cX10_truth 82 = .ok (.iconst 2, 1) := by decide +kernel
theorem dX10_truth_83 : decode cX10_truth 83 = .ok (.if_icmp .ne 6, 3) := by decide +kernel
theorem dX10_truth_86 : decode cX10_truth 86 = .ok (.iload 4, 2) := by decide +kernel
theorem dX10_truth_88 : decode cX10_truth 88 = .ok (.ireturn, 1) := by decide +kernel
theorem dX10_truth_89 : decode cX10_truth 89 = .ok (.iload_n 2, 1) := by decide +kernel
theorem dX10_truth_90 : decode cX10_truth 90 = .ok (.ifCond .ne 7, 3) := by decide +kernel
theorem dX10_truth_93 : decode cX10_truth 93 = .ok (.iconst (-1), 1) := by decide +kernel
theorem dX10_truth_94 : decode cX10_truth 94 = .ok (.goto 4, 3) := by decide +kernel
theorem dX10_truth_97 : decode cX10_truth 97 = .ok (.iload_n 3, 1) := by decide +kernel
theorem dX10_truth_98 : decode cX10_truth 98 = .ok (.ireturn, 1) := by decide +kernel
theorem dX10_odds_0 : decode cX10_odds 0 = .ok (.aload_n 0, 1) := by decide +kernel
theorem dX10_odds_1 : decode cX10_odds 1 = .ok (.iload_n 1, 1) := by decide +kernel
theorem dX10_odds_2 : decode cX10_odds 2 = .ok (.invokevirtual 178, 3) := by decide +kernel
theorem dX10_odds_5 : decode cX10_odds 5 = .ok (.ifCond .eq 13, 3) := by decide +kernel
theorem dX10_odds_8 : decode cX10_odds 8 = .ok (.iload_n 2, 1) := by decide +kernel
theorem dX10_odds_9 : decode cX10_odds 9 = .ok (.iconst 0, 1) := by decide +kernel
theorem dX10_odds_10 : decode cX10_odds 10 = .ok (.bipush 10, 2) := by decide +kernel
theorem dX10_odds_12 : decode cX10_odds 12 = .ok (.invokestatic 66, 3) := by decide +kernel
theorem dX10_odds_15 : decode cX10_odds 15 = .ok (.ifCond .ne 8, 3) := by decide +kernel
theorem dX10_odds_18 : decode cX10_odds 18 = .ok (.aload_n 0, 1) := by decide +kernel
theorem dX10_odds_19 : decode cX10_odds 19 = .ok (.invokevirtual 70, 3) := by decide +kernel
theorem dX10_odds_22 : decode cX10_odds 22 = .ok (.ireturn, 1) := by decide +kernel
theorem dX10_odds_23 : decode cX10_odds 23 = .ok (.aload_n 0, 1) := by decide +kernel
theorem dX10_odds_24 : decode cX10_odds 24 = .ok (.getfield 30, 3) := by decide +kernel
theorem dX10_odds_27 : decode cX10_odds 27 = .ok (.invokevirtual 228, 3) := by decide +kernel
theorem dX10_odds_30 : decode cX10_odds 30 = .ok (.istore_n 3, 1) := by decide +kernel
theorem dX10_odds_31 : decode cX10_odds 31 = .ok (.iload_n 3, 1) := by decide +kernel
theorem dX10_odds_32 : decode cX10_odds 32 = .ok (.invokestatic 125, 3) := by decide +kernel
theorem dX10_odds_35 : decode cX10_odds 35 = .ok (.istore 4, 2) := by decide +kernel
theorem dX10_odds_37 : decode cX10_odds 37 = .ok (.lconst 0, 1) := by decide +kernel
theorem dX10_odds_38 : decode cX10_odds 38 = .ok (.lstore 5, 2) := by decide +kernel
theorem dX10_odds_40 : decode cX10_odds 40 = .ok (.iconst 0, 1) := by decide +kernel
theorem dX10_odds_41 : decode cX10_odds 41 = .ok (.istore 7, 2) := by decide +kernel
theorem dX10_odds_43 : decode cX10_odds 43 = .ok (.iload 7, 2) := by decide +kernel
theorem dX10_odds_45 : decode cX10_odds 45 = .ok (.bipush 64, 2) := by decide +kernel
theorem dX10_odds_47 : decode cX10_odds 47 = .ok (.if_icmp .ge 79, 3) := by decide +kernel
theorem dX10_odds_50 : decode cX10_odds 50 = .ok (.iload 7, 2) := by decide +kernel
theorem dX10_odds_52 : decode cX10_odds 52 = .ok (.iload_n 3, 1) := by decide +kernel
theorem dX10_odds_53 : decode cX10_odds 53 = .ok (.iconst (-1), 1) := by decide +kernel
theorem dX10_odds_54 : decode cX10_odds 54 = .ok (.ixor, 1) := by decide +kernel
theorem dX10_odds_55 : decode cX10_odds 55 = .ok (.iand, 1) := by decide +kernel
theorem dX10_odds_56 : decode cX10_odds 56 = .ok (.ifCond .ne 64, 3) := by decide +kernel
theorem dX10_odds_59 : decode cX10_odds 59 = .ok (.aload_n 0, 1) := by decide +kernel
theorem dX10_odds_60 : decode cX10_odds 60 = .ok (.getfield 30, 3) := by decide +kernel
theorem dX10_odds_63 : decode cX10_odds 63 = .ok (.iload_n 1, 1) := by decide +kernel
theorem dX10_odds_64 : decode cX10_odds 64 = .ok (.aload_n 0, 1) := by decide +kernel
theorem dX10_odds_65 : decode cX10_odds 65 = .ok (.getfield 30, 3) := by decide +kernel
theorem dX10_odds_68 : decode cX10_odds 68 = .ok (.aload_n 0, 1) := by decide +kernel
theorem dX10_odds_69 : decode cX10_odds 69 = .ok (.getfield 30, 3) := by decide +kernel
theorem dX10_odds_72 : decode cX10_odds 72 = .ok (.getfield 122, 3) := by decide +kernel
theorem dX10_odds_75 : decode cX10_odds 75 = .ok (.iload 7, 2) := by decide +kernel
theorem dX10_odds_77 : decode cX10_odds 77 = .ok (.iconst (-1), 1) := by decide +kernel
theorem dX10_odds_78 : decode cX10_odds 78 = .ok (.ixor, 1) := by decide +kernel
theorem dX10_odds_79 : decode cX10_odds 79 = .ok (.iand, 1) := by decide +kernel
theorem dX10_odds_80 : decode cX10_odds 80 = .ok (.invokevirtual 199, 3) := by decide +kernel
theorem dX10_odds_83 : decode cX10_odds 83 = .ok (.invokevirtual 231, 3) := by decide +kernel
theorem dX10_odds_86 : decode cX10_odds 86 = .ok (.ifCond .eq 34, 3) := by decide +kernel
theorem dX10_odds_89 : decode cX10_odds 89 = .ok (.iload 7, 2) := by decide +kernel
theorem dX10_odds_91 : decode cX10_odds 91 = .ok (.invokestatic 125, 3) := by decide +kernel
theorem dX10_odds_94 : decode cX10_odds 94 = .ok (.istore 8, 2) := by decide +kernel
theorem dX10_odds_96 : decode cX10_odds 96 = .ok (.lload 5, 2) := by decide +kernel
theorem dX10_odds_98 : decode cX10_odds 98 = .ok (.iload_n 2, 1) := by decide +kernel
theorem dX10_odds_99 : decode cX10_odds 99 = .ok (.iload 8, 2) := by decide +kernel
theorem dX10_odds_101 : decode cX10_odds 101 = .ok (.invokestatic 234, 3) := by decide +kernel
theorem dX10_odds_104 : decode cX10_odds 104 = .ok (.bipush 10, 2) := by decide +kernel
theorem dX10_odds_106 : decode cX10_odds 106 = .ok (.iload_n 2, 1) := by decide +kernel
theorem dX10_odds_107 : decode cX10_odds 107 = .ok (.isub, 1) := by decide +kernel
theorem dX10_odds_108 : decode cX10_odds 108 = .ok (.iload 4, 2) := by decide +kernel
theorem dX10_odds_110 : decode cX10_odds 110 = .ok (.iload 8, 2) := by decide +kernel
theorem dX10_odds_112 : decode cX10_odds 112 = .ok (.isub, 1) := by decide +kernel
theorem dX10_odds_113 : decode cX10_odds 113 = .ok (.invokestatic 234, 3) := by decide +kernel
theorem dX10_odds_116 : decode cX10_odds 116 = .ok (.lmul, 1) := by decide +kernel
theorem dX10_odds_117 : decode cX10_odds 117 = .ok (.ladd, 1) := by decide +kernel
theorem dX10_odds_118 : decode cX10_odds 118 = .ok (.lstore 5, 2) := by decide +kernel
theorem dX10_odds_120 : decode cX10_odds 120 = .ok (.iinc 7 1, 3) := by decide +kernel
theorem dX10_odds_123 : decode cX10_odds 123 = .ok (.goto (-80), 3) := by decide +kernel
theorem dX10_odds_126 : decode cX10_odds 126 = .ok (.aload_n 0, 1) := by decide +kernel
theorem dX10_odds_127 : decode cX10_odds 127 = .ok (.lload 5, 2) := by decide +kernel
theorem dX10_odds_129 : decode cX10_odds 129 = .ok (.bipush 10, 2) := by decide +kernel
theorem dX10_odds_131 : decode cX10_odds 131 = .ok (.iload 4, 2) := by decide +kernel
theorem dX10_odds_133 : decode cX10_odds 133 = .ok (.invokestatic 234, 3) := by decide +kernel
theorem dX10_odds_136 : decode cX10_odds 136 = .ok (.invokevirtual 238, 3) := by decide +kernel
theorem dX10_odds_139 : decode cX10_odds 139 = .ok (.iconst 1, 1) := by decide +kernel
theorem dX10_odds_140 : decode cX10_odds 140 = .ok (.ireturn, 1) := by decide +kernel
theorem dX10_terms_0 : decode cX10_terms 0 = .ok (.iload_n 1, 1) := by decide +kernel
theorem dX10_terms_1 : decode cX10_terms 1 = .ok (.iconst 0, 1) := by decide +kernel
theorem dX10_terms_2 : decode cX10_terms 2 = .ok (.ldc 242, 2) := by decide +kernel
theorem dX10_terms_4 : decode cX10_terms 4 = .ok (.invokestatic 66, 3) := by decide +kernel
theorem dX10_terms_7 : decode cX10_terms 7 = .ok (.ifCond .eq 13, 3) := by decide +kernel
theorem dX10_terms_10 : decode cX10_terms 10 = .ok (.iload_n 2, 1) := by decide +kernel
theorem dX10_terms_11 : decode cX10_terms 11 = .ok (.iconst 0, 1) := by decide +kernel
theorem dX10_terms_12 : decode cX10_terms 12 = .ok (.bipush 60, 2) := by decide +kernel
theorem dX10_terms_14 : decode cX10_terms 14 = .ok (.invokestatic 66, 3) := by decide +kernel
theorem dX10_terms_17 : decode cX10_terms 17 = .ok (.ifCond .ne 8, 3) := by decide +kernel
theorem dX10_terms_20 : decode cX10_terms 20 = .ok (.aload_n 0, 1) := by decide +kernel
theorem dX10_terms_21 : decode cX10_terms 21 = .ok (.invokevirtual 70, 3) := by decide +kernel
theorem dX10_terms_24 : decode cX10_terms 24 = .ok (.ireturn, 1) := by decide +kernel
theorem dX10_terms_25 : decode cX10_terms 25 = .ok (.iload_n 1, 1) := by decide +kernel
theorem dX10_terms_26 : decode cX10_terms 26 = .ok (.i2l, 1) := by decide +kernel
theorem dX10_terms_27 : decode cX10_terms 27 = .ok (.lstore_n 3, 1) := by decide +kernel
theorem dX10_terms_28 : decode cX10_terms 28 = .ok (.aload_n 0, 1) := by decide +kernel
theorem dX10_terms_29 : decode cX10_terms 29 = .ok (.getfield 30, 3) := by decide +kernel
theorem dX10_terms_32 : decode cX10_terms 32 = .ok (.getfield 122, 3) := by decide +kernel
theorem dX10_terms_35 : decode cX10_terms 35 = .ok (.istore 5, 2) := by decide +kernel
theorem dX10_terms_37 : decode cX10_terms 37 = .ok (.aload_n 0, 1) := by decide +kernel
theorem dX10_terms_38 : decode cX10_terms 38 = .ok (.getfield 30, 3) := by decide +kernel
theorem dX10_terms_41 : decode cX10_terms 41 = .ok (.getfield 144, 3) := by decide +kernel
theorem dX10_terms_44 : decode cX10_terms 44 = .ok (.istore 6, 2) := by decide +kernel
theorem dX10_terms_46 : decode cX10_terms 46 = .ok (.iconst 0, 1) := by decide +kernel
theorem dX10_terms_47 : decode cX10_terms 47 = .ok (.istore 7, 2) := by decide +kernel
theorem dX10_terms_49 : decode cX10_terms 49 = .ok (.iload 7, 2) := by decide +kernel
theorem dX10_terms_51 : decode cX10_terms 51 = .ok (.iload_n 2, 1) := by decide +kernel
theorem dX10_terms_52 : decode cX10_terms 52 = .ok (.if_icmp .ge 64, 3) := by decide +kernel
theorem dX10_terms_55 : decode cX10_terms 55 = .ok (.lload_n 3, 1) := by decide +kernel
theorem dX10_terms_56 : decode cX10_terms 56 = .ok (.ldc2_w 243, 3) := by decide +kernel
theorem dX10_terms_59 : decode cX10_terms 59 = .ok (.lmul, 1) := by decide +kernel
theorem dX10_terms_60 : decode cX10_terms 60 = .ok (.ldc2_w 245, 3) := by decide +kernel
theorem dX10_terms_63 : decode cX10_terms 63 = .ok (.ladd, 1) := by decide +kernel
theorem dX10_terms_64 : decode cX10_terms 64 = .ok (.ldc2_w 247, 3) := by decide +kernel
theorem dX10_terms_67 : decode cX10_terms 67 = .ok (.lrem, 1) := by decide +kernel
theorem dX10_terms_68 : decode cX10_terms 68 = .ok (.lstore_n 3, 1) := by decide +kernel
theorem dX10_terms_69 : decode cX10_terms 69 = .ok (.lload_n 3, 1) := by decide +kernel
theorem dX10_terms_70 : decode cX10_terms 70 = .ok (.ldc2_w 249, 3) := by decide +kernel
theorem dX10_terms_73 : decode cX10_terms 73 = .ok (.ldiv, 1) := by decide +kernel
theorem dX10_terms_74 : decode cX10_terms 74 = .ok (.ldc2_w 251, 3) := by decide +kernel
theorem dX10_terms_77 : decode cX10_terms 77 = .ok (.lrem, 1) := by decide +kernel
theorem dX10_terms_78 : decode cX10_terms 78 = .ok (.l2i, 1) := by decide +kernel
theorem dX10_terms_79 : decode cX10_terms 79 = .ok (.istore 8, 2) := by decide +kernel
theorem dX10_terms_81 : decode cX10_terms 81 = .ok (.aload_n 0, 1) := by decide +kernel
theorem dX10_terms_82 : decode cX10_terms 82 = .ok (.getfield 30, 3) := by decide +kernel
theorem dX10_terms_85 : decode cX10_terms 85 = .ok (.iload 8, 2) := by decide +kernel
theorem dX10_terms_87 : decode cX10_terms 87 = .ok (.iload 5, 2) := by decide +kernel
theorem dX10_terms_89 : decode cX10_terms 89 = .ok (.iload 6, 2) := by decide +kernel
theorem dX10_terms_91 : decode cX10_terms 91 = .ok (.invokevirtual 253, 3) := by decide +kernel
theorem dX10_terms_94 : decode cX10_terms 94 = .ok (.istore 9, 2) := by decide +kernel
theorem dX10_terms_96 : decode cX10_terms 96 = .ok (.iload 9, 2) := by decide +kernel
theorem dX10_terms_98 : decode cX10_terms 98 = .ok (.iload 5, 2) := by decide +kernel
theorem dX10_terms_100 : decode cX10_terms 100 = .ok (.if_icmp .le 6, 3) := by decide +kernel
theorem dX10_terms_103 : decode cX10_terms 103 = .ok (.iinc 6 1, 3) := by decide +kernel
theorem dX10_terms_106 : decode cX10_terms 106 = .ok (.iload 9, 2) := by decide +kernel
theorem dX10_terms_108 : decode cX10_terms 108 = .ok (.istore 5, 2) := by decide +kernel
theorem dX10_terms_110 : decode cX10_terms 110 = .ok (.iinc 7 1, 3) := by decide +kernel
theorem dX10_terms_113 : decode cX10_terms 113 = .ok (.goto (-64), 3) := by decide +kernel
theorem dX10_terms_116 : decode cX10_terms 116 = .ok (.aload_n 0, 1) := by decide +kernel
theorem dX10_terms_117 : decode cX10_terms 117 = .ok (.getfield 30, 3) := by decide +kernel
theorem dX10_terms_120 : decode cX10_terms 120 = .ok (.aload_n 0, 1) := by decide +kernel
theorem dX10_terms_121 : decode cX10_terms 121 = .ok (.getfield 30, 3) := by decide +kernel
theorem dX10_terms_124 : decode cX10_terms 124 = .ok (.iload 5, 2) := by decide +kernel
theorem dX10_terms_126 : decode cX10_terms 126 = .ok (.invokevirtual 199, 3) := by decide +kernel
theorem dX10_terms_129 : decode cX10_terms 129 = .ok (.invokevirtual 175, 3) := by decide +kernel
theorem dX10_terms_132 : decode cX10_terms 132 = .ok (.invokestatic 125, 3) := by decide +kernel
theorem dX10_terms_135 : decode cX10_terms 135 = .ok (.ireturn, 1) := by decide +kernel
theorem dX10_part_0 : decode cX10_part 0 = .ok (.iload_n 1, 1) := by decide +kernel
theorem dX10_part_1 : decode cX10_part 1 = .ok (.iconst 0, 1) := by decide +kernel
theorem dX10_part_2 : decode cX10_part 2 = .ok (.iconst 1, 1) := by decide +kernel
theorem dX10_part_3 : decode cX10_part 3 = .ok (.invokestatic 66, 3) := by decide +kernel
theorem dX10_part_6 : decode cX10_part 6 = .ok (.ifCond .ne 9, 3) := by decide +kernel
theorem dX10_part_9 : decode cX10_part 9 = .ok (.aload_n 0, 1) := by decide +kernel
theorem dX10_part_10 : decode cX10_part 10 = .ok (.invokevirtual 70, 3) := by decide +kernel
theorem dX10_part_13 : decode cX10_part 13 = .ok (.i2l, 1) := by decide +kernel
theorem dX10_part_14 : decode cX10_part 14 = .ok (.lreturn, 1) := by decide +kernel
theorem dX10_part_15 : decode cX10_part 15 = .ok (.iload_n 1, 1) := by decide +kernel
theorem dX10_part_16 : decode cX10_part 16 = .ok (.ifCond .ne 10, 3) := by decide +kernel
theorem dX10_part_19 : decode cX10_part 19 = .ok (.aload_n 0, 1) := by decide +kernel
theorem dX10_part_20 : decode cX10_part 20 = .ok (.getfield 59, 3) := by decide +kernel
theorem dX10_part_23 : decode cX10_part 23 = .ok (.goto 7, 3) := by decide +kernel
theorem dX10_part_26 : decode cX10_part 26 = .ok (.aload_n 0, 1) := by decide +kernel
theorem dX10_part_27 : decode cX10_part 27 = .ok (.getfield 63, 3) := by decide +kernel
theorem dX10_part_30 : decode cX10_part 30 = .ok (.lreturn, 1) := by decide +kernel
theorem dX10_image_0 : decode cX10_image 0 = .ok (.iload_n 1, 1) := by decide +kernel
theorem dX10_image_1 : decode cX10_image 1 = .ok (.iconst 0, 1) := by decide +kernel
theorem dX10_image_2 : decode cX10_image 2 = .ok (.iconst 1, 1) := by decide +kernel
theorem dX10_image_3 : decode cX10_image 3 = .ok (.invokestatic 66, 3) := by decide +kernel
theorem dX10_image_6 : decode cX10_image 6 = .ok (.ifCond .ne 8, 3) := by decide +kernel
theorem dX10_image_9 : decode cX10_image 9 = .ok (.aload_n 0, 1) := by decide +kernel
theorem dX10_image_10 : decode cX10_image 10 = .ok (.invokevirtual 70, 3) := by decide +kernel
theorem dX10_image_13 : decode cX10_image 13 = .ok (.ireturn, 1) := by decide +kernel
theorem dX10_image_14 : decode cX10_image 14 = .ok (.iload_n 1, 1) := by decide +kernel
theorem dX10_image_15 : decode cX10_image 15 = .ok (.ifCond .ne 22, 3) := by decide +kernel
theorem dX10_image_18 : decode cX10_image 18 = .ok (.aload_n 0, 1) := by decide +kernel
theorem dX10_image_19 : decode cX10_image 19 = .ok (.getfield 39, 3) := by decide +kernel
theorem dX10_image_22 : decode cX10_image 22 = .ok (.aload_n 0, 1) := by decide +kernel
theorem dX10_image_23 : decode cX10_image 23 = .ok (.getfield 30, 3) := by decide +kernel
theorem dX10_image_26 : decode cX10_image 26 = .ok (.invokevirtual 118, 3) := by decide +kernel
theorem dX10_image_29 : decode cX10_image 29 = .ok (.aload_n 0, 1) := by decide +kernel
theorem dX10_image_30 : decode cX10_image 30 = .ok (.iconst 1, 1) := by decide +kernel
theorem dX10_image_31 : decode cX10_image 31 = .ok (.putfield 256, 3) := by decide +kernel
theorem dX10_image_34 : decode cX10_image 34 = .ok (.goto 19, 3) := by decide +kernel
theorem dX10_image_37 : decode cX10_image 37 = .ok (.aload_n 0, 1) := by decide +kernel
theorem dX10_image_38 : decode cX10_image 38 = .ok (.getfield 42, 3) := by decide +kernel
theorem dX10_image_41 : decode cX10_image 41 = .ok (.aload_n 0, 1) := by decide +kernel
theorem dX10_image_42 : decode cX10_image 42 = .ok (.getfield 30, 3) := by decide +kernel
theorem dX10_image_45 : decode cX10_image 45 = .ok (.invokevirtual 118, 3) := by decide +kernel
theorem dX10_image_48 : decode cX10_image 48 = .ok (.aload_n 0, 1) := by decide +kernel
theorem dX10_image_49 : decode cX10_image 49 = .ok (.iconst 1, 1) := by decide +kernel
theorem dX10_image_50 : decode cX10_image 50 = .ok (.putfield 260, 3) := by decide +kernel
theorem dX10_image_53 : decode cX10_image 53 = .ok (.iconst 1, 1) := by decide +kernel
theorem dX10_image_54 : decode cX10_image 54 = .ok (.ireturn, 1) := by decide +kernel
theorem dX10_from_0 : decode cX10_from 0 = .ok (.iload_n 1, 1) := by decide +kernel
theorem dX10_from_1 : decode cX10_from 1 = .ok (.iconst 0, 1) := by decide +kernel
theorem dX10_from_2 : decode cX10_from 2 = .ok (.iconst 1, 1) := by decide +kernel
theorem dX10_from_3 : decode cX10_from 3 = .ok (.invokestatic 66, 3) := by decide +kernel
theorem dX10_from_6 : decode cX10_from 6 = .ok (.ifCond .ne 8, 3) := by decide +kernel
theorem dX10_from_9 : decode cX10_from 9 = .ok (.aload_n 0, 1) := by decide +kernel
theorem dX10_from_10 : decode cX10_from 10 = .ok (.invokevirtual 70, 3) := by decide +kernel
theorem dX10_from_13 : decode cX10_from 13 = .ok (.ireturn, 1) := by decide +kernel
theorem dX10_from_14 : decode cX10_from 14 = .ok (.iload_n 1, 1) := by decide +kernel
theorem dX10_from_15 : decode cX10_from 15 = .ok (.ifCond .ne 13, 3) := by decide +kernel
theorem dX10_from_18 : decode cX10_from 18 = .ok (.aload_n 0, 1) := by decide +kernel
theorem dX10_from_19 : decode cX10_from 19 = .ok (.getfield 256, 3) := by decide +kernel
theorem dX10_from_22 : decode cX10_from 22 = .ok (.ifCond .ne 18, 3) := by decide +kernel
theorem dX10_from_25 : decode cX10_from 25 = .ok (.goto 10, 3) := by decide +kernel
theorem dX10_from_28 : decode cX10_from 28 = .ok (.aload_n 0, 1) := by decide +kernel
theorem dX10_from_29 : decode cX10_from 29 = .ok (.getfield 260, 3) := by decide +kernel
theorem dX10_from_32 : decode cX10_from 32 = .ok (.ifCond .ne 8, 3) := by decide +kernel
theorem dX10_from_35 : decode cX10_from 35 = .ok (.aload_n 0, 1) := by decide +kernel
theorem dX10_from_36 : decode cX10_from 36 = .ok (.invokevirtual 141, 3) := by decide +kernel
theorem dX10_from_39 : decode cX10_from 39 = .ok (.ireturn, 1) := by decide +kernel
theorem dX10_from_40 : decode cX10_from 40 = .ok (.aload_n 0, 1) := by decide +kernel
theorem dX10_from_41 : decode cX10_from 41 = .ok (.getfield 30, 3) := by decide +kernel
theorem dX10_from_44 : decode cX10_from 44 = .ok (.iload_n 1, 1) := by decide +kernel
theorem dX10_from_45 : decode cX10_from 45 = .ok (.ifCond .ne 10, 3) := by decide +kernel
theorem dX10_from_48 : decode cX10_from 48 = .ok (.aload_n 0, 1) := by decide +kernel
theorem dX10_from_49 : decode cX10_from 49 = .ok (.getfield 39, 3) := by decide +kernel
theorem dX10_from_52 : decode cX10_from 52 = .ok (.goto 7, 3) := by decide +kernel
theorem dX10_from_55 : decode cX10_from 55 = .ok (.aload_n 0, 1) := by decide +kernel
theorem dX10_from_56 : decode cX10_from 56 = .ok (.getfield 42, 3) := by decide +kernel
theorem dX10_from_59 : decode cX10_from 59 = .ok (.invokevirtual 118, 3) := by decide +kernel
theorem dX10_from_62 : decode cX10_from 62 = .ok (.iconst 1, 1) := by decide +kernel
theorem dX10_from_63 : decode cX10_from 63 = .ok (.ireturn, 1) := by decide +kernel
theorem dX10_status_0 : decode cX10_status 0 = .ok (.iload_n 1, 1) := by decide +kernel
theorem dX10_status_1 : decode cX10_status 1 = .ok (.tableswitch 42 0 2 #[27, 32, 37], 27) := by decide +kernel
theorem dX10_status_28 : decode cX10_status 28 = .ok (.aload_n 0, 1) := by decide +kernel
theorem dX10_status_29 : decode cX10_status 29 = .ok (.getfield 263, 3) := by decide +kernel
theorem dX10_status_32 : decode cX10_status 32 = .ok (.ireturn, 1) := by decide +kernel
theorem dX10_status_33 : decode cX10_status 33 = .ok (.aload_n 0, 1) := by decide +kernel
theorem dX10_status_34 : decode cX10_status 34 = .ok (.getfield 266, 3) := by decide +kernel
theorem dX10_status_37 : decode cX10_status 37 = .ok (.ireturn, 1) := by decide +kernel
theorem dX10_status_38 : decode cX10_status 38 = .ok (.aload_n 0, 1) := by decide +kernel
theorem dX10_status_39 : decode cX10_status 39 = .ok (.getfield 269, 3) := by decide +kernel
theorem dX10_status_42 : decode cX10_status 42 = .ok (.ireturn, 1) := by decide +kernel
theorem dX10_status_43 : decode cX10_status 43 = .ok (.aload_n 0, 1) := by decide +kernel
theorem dX10_status_44 : decode cX10_status 44 = .ok (.invokevirtual 70, 3) := by decide +kernel
theorem dX10_status_47 : decode cX10_status 47 = .ok (.pop, 1) := by decide +kernel
theorem dX10_status_48 : decode cX10_status 48 = .ok (.iconst (-1), 1) := by decide +kernel
theorem dX10_status_49 : decode cX10_status 49 = .ok (.ireturn, 1) := by decide +kernel
theorem dX10_count_0 : decode cX10_count 0 = .ok (.iload_n 1, 1) := by decide +kernel
theorem dX10_count_1 : decode cX10_count 1 = .ok (.tableswitch 129 0 7 #[47, 58, 69, 77, 88, 99, 110, 121], 47) := by decide +kernel
theorem dX10_count_48 : decode cX10_count 48 = .ok (.aload_n 0, 1) := by decide +kernel
theorem dX10_count_49 : decode cX10_count 49 = .ok (.getfield 30, 3) := by decide +kernel
theorem dX10_count_52 : decode cX10_count 52 = .ok (.getfield 74, 3) := by decide +kernel
theorem dX10_count_55 : decode cX10_count 55 = .ok (.getfield 78, 3) := by decide +kernel
theorem dX10_count_58 : decode cX10_count 58 = .ok (.ireturn, 1) := by decide +kernel
theorem dX10_count_59 : decode cX10_count 59 = .ok (.aload_n 0, 1) := by decide +kernel
theorem dX10_count_60 : decode cX10_count 60 = .ok (.getfield 30, 3) := by decide +kernel
theorem dX10_count_63 : decode cX10_count 63 = .ok (.getfield 105, 3) := by decide +kernel
theorem dX10_count_66 : decode cX10_count 66 = .ok (.getfield 78, 3) := by decide +kernel
theorem dX10_count_69 : decode cX10_count 69 = .ok (.ireturn, 1) := by decide +kernel
theorem dX10_count_70 : decode cX10_count 70 = .ok (.aload_n 0, 1) := by decide +kernel
theorem dX10_count_71 : decode cX10_count 71 = .ok (.invokevirtual 169, 3) := by decide +kernel
theorem dX10_count_74 : decode cX10_count 74 = .ok (.invokestatic 125, 3) := by decide +kernel
theorem dX10_count_77 : decode cX10_count 77 = .ok (.ireturn, 1) := by decide +kernel
theorem dX10_count_78 : decode cX10_count 78 = .ok (.aload_n 0, 1) := by decide +kernel
theorem dX10_count_79 : decode cX10_count 79 = .ok (.getfield 30, 3) := by decide +kernel
theorem dX10_count_82 : decode cX10_count 82 = .ok (.getfield 122, 3) := by decide +kernel
theorem dX10_count_85 : decode cX10_count 85 = .ok (.invokestatic 125, 3) := by decide +kernel
theorem dX10_count_88 : decode cX10_count 88 = .ok (.ireturn, 1) := by decide +kernel
theorem dX10_count_89 : decode cX10_count 89 = .ok (.aload_n 0, 1) := by decide +kernel
theorem dX10_count_90 : decode cX10_count 90 = .ok (.getfield 30, 3) := by decide +kernel
theorem dX10_count_93 : decode cX10_count 93 = .ok (.getfield 212, 3) := by decide +kernel
theorem dX10_count_96 : decode cX10_count 96 = .ok (.getfield 78, 3) := by decide +kernel
theorem dX10_count_99 : decode cX10_count 99 = .ok (.ireturn, 1) := by decide +kernel
theorem dX10_count_100 : decode cX10_count 100 = .ok (.aload_n 0, 1) := by decide +kernel
theorem dX10_count_101 : decode cX10_count 101 = .ok (.getfield 30, 3) := by decide +kernel
theorem dX10_count_104 : decode cX10_count 104 = .ok (.getfield 215, 3) := by decide +kernel
theorem dX10_count_107 : decode cX10_count 107 = .ok (.getfield 78, 3) := by decide +kernel
theorem dX10_count_110 : decode cX10_count 110 = .ok (.ireturn, 1) := by decide +kernel
theorem dX10_count_111 : decode cX10_count 111 = .ok (.aload_n 0, 1) := by decide +kernel
theorem dX10_count_112 : decode cX10_count 112 = .ok (.getfield 30, 3) := by decide +kernel
theorem dX10_count_115 : decode cX10_count 115 = .ok (.getfield 99, 3) := by decide +kernel
theorem dX10_count_118 : decode cX10_count 118 = .ok (.getfield 78, 3) := by decide +kernel
theorem dX10_count_121 : decode cX10_count 121 = .ok (.ireturn, 1) := by decide +kernel
theorem dX10_count_122 : decode cX10_count 122 = .ok (.aload_n 0, 1) := by decide +kernel
theorem dX10_count_123 : decode cX10_count 123 = .ok (.getfield 48, 3) := by decide +kernel
theorem dX10_count_126 : decode cX10_count 126 = .ok (.getfield 111, 3) := by decide +kernel
theorem dX10_count_129 : decode cX10_count 129 = .ok (.ireturn, 1) := by decide +kernel
theorem dX10_count_130 : decode cX10_count 130 = .ok (.aload_n 0, 1) := by decide +kernel
theorem dX10_count_131 : decode cX10_count 131 = .ok (.invokevirtual 70, 3) := by decide +kernel
theorem dX10_count_134 : decode cX10_count 134 = .ok (.ireturn, 1) := by decide +kernel
theorem dX10_digest_0 : decode cX10_digest 0 = .ok (.ldc2_w 272, 3) := by decide +kernel
theorem dX10_digest_3 : decode cX10_digest 3 = .ok (.lstore_n 1, 1) := by decide +kernel
theorem dX10_digest_4 : decode cX10_digest 4 = .ok (.iconst 0, 1) := by decide +kernel
theorem dX10_digest_5 : decode cX10_digest 5 = .ok (.istore_n 3, 1) := by decide +kernel
theorem dX10_digest_6 : decode cX10_digest 6 = .ok (.iload_n 3, 1) := by decide +kernel
theorem dX10_digest_7 : decode cX10_digest 7 = .ok (.bipush 7, 2) := by decide +kernel
theorem dX10_digest_9 : decode cX10_digest 9 = .ok (.if_icmp .gt 22, 3) := by decide +kernel
theorem dX10_digest_12 : decode cX10_digest 12 = .ok (.ldc2_w 274, 3) := by decide +kernel
theorem dX10_digest_15 : decode cX10_digest 15 = .ok (.lload_n 1, 1) := by decide +kernel
theorem dX10_digest_16 : decode cX10_digest 16 = .ok (.lmul, 1) := by decide +kernel
theorem dX10_digest_17 : decode cX10_digest 17 = .ok (.aload_n 0, 1) := by decide +kernel
theorem dX10_digest_18 : decode cX10_digest 18 = .ok (.iload_n 3, 1) := by decide +kernel
theorem dX10_digest_19 : decode cX10_digest 19 = .ok (.invokevirtual 276, 3) := by decide +kernel
theorem dX10_digest_22 : decode cX10_digest 22 = .ok (.i2l, 1) := by decide +kernel
theorem dX10_digest_23 : decode cX10_digest 23 = .ok (.ladd, 1) := by decide +kernel
theorem dX10_digest_24 : decode cX10_digest 24 = .ok (.lstore_n 1, 1) := by decide +kernel
theorem dX10_digest_25 : decode cX10_digest 25 = .ok (.iinc 3 1, 3) := by decide +kernel
theorem dX10_digest_28 : decode cX10_digest 28 = .ok (.goto (-22), 3) := by decide +kernel
theorem dX10_digest_31 : decode cX10_digest 31 = .ok (.iconst 0, 1) := by decide +kernel
theorem dX10_digest_32 : decode cX10_digest 32 = .ok (.istore_n 3, 1) := by decide +kernel
theorem dX10_digest_33 : decode cX10_digest 33 = .ok (.iload_n 3, 1) := by decide +kernel
theorem dX10_digest_34 : decode cX10_digest 34 = .ok (.iconst 4, 1) := by decide +kernel
theorem dX10_digest_35 : decode cX10_digest 35 = .ok (.if_icmp .gt 22, 3) := by decide +kernel
theorem dX10_digest_38 : decode cX10_digest 38 = .ok (.ldc2_w 274, 3) := by decide +kernel
theorem dX10_digest_41 : decode cX10_digest 41 = .ok (.lload_n 1, 1) := by decide +kernel
theorem dX10_digest_42 : decode cX10_digest 42 = .ok (.lmul, 1) := by decide +kernel
theorem dX10_digest_43 : decode cX10_digest 43 = .ok (.aload_n 0, 1) := by decide +kernel
theorem dX10_digest_44 : decode cX10_digest 44 = .ok (.iload_n 3, 1) := by decide +kernel
theorem dX10_digest_45 : decode cX10_digest 45 = .ok (.invokevirtual 279, 3) := by decide +kernel
theorem dX10_digest_48 : decode cX10_digest 48 = .ok (.i2l, 1) := by decide +kernel
theorem dX10_digest_49 : decode cX10_digest 49 = .ok (.ladd, 1) := by decide +kernel
theorem dX10_digest_50 : decode cX10_digest 50 = .ok (.lstore_n 1, 1) := by decide +kernel
theorem dX10_digest_51 : decode cX10_digest 51 = .ok (.iinc 3 1, 3) := by decide +kernel
theorem dX10_digest_54 : decode cX10_digest 54 = .ok (.goto (-21), 3) := by decide +kernel
theorem dX10_digest_57 : decode cX10_digest 57 = .ok (.aload_n 0, 1) := by decide +kernel
theorem dX10_digest_58 : decode cX10_digest 58 = .ok (.getfield 30, 3) := by decide +kernel
theorem dX10_digest_61 : decode cX10_digest 61 = .ok (.getfield 74, 3) := by decide +kernel
theorem dX10_digest_64 : decode cX10_digest 64 = .ok (.lload_n 1, 1) := by decide +kernel
theorem dX10_digest_65 : decode cX10_digest 65 = .ok (.invokevirtual 282, 3) := by decide +kernel
theorem dX10_digest_68 : decode cX10_digest 68 = .ok (.lstore_n 1, 1) := by decide +kernel
theorem dX10_digest_69 : decode cX10_digest 69 = .ok (.aload_n 0, 1) := by decide +kernel
theorem dX10_digest_70 : decode cX10_digest 70 = .ok (.getfield 30, 3) := by decide +kernel
theorem dX10_digest_73 : decode cX10_digest 73 = .ok (.getfield 105, 3) := by decide +kernel
theorem dX10_digest_76 : decode cX10_digest 76 = .ok (.lload_n 1, 1) := by decide +kernel
theorem dX10_digest_77 : decode cX10_digest 77 = .ok (.invokevirtual 282, 3) := by decide +kernel
theorem dX10_digest_80 : decode cX10_digest 80 = .ok (.lstore_n 1, 1) := by decide +kernel
theorem dX10_digest_81 : decode cX10_digest 81 = .ok (.aload_n 0, 1) := by decide +kernel
theorem dX10_digest_82 : decode cX10_digest 82 = .ok (.getfield 30, 3) := by decide +kernel
theorem dX10_digest_85 : decode cX10_digest 85 = .ok (.getfield 212, 3) := by decide +kernel
theorem dX10_digest_88 : decode cX10_digest 88 = .ok (.lload_n 1, 1) := by decide +kernel
theorem dX10_digest_89 : decode cX10_digest 89 = .ok (.invokevirtual 282, 3) := by decide +kernel
theorem dX10_digest_92 : decode cX10_digest 92 = .ok (.lstore_n 1, 1) := by decide +kernel
theorem dX10_digest_93 : decode cX10_digest 93 = .ok (.aload_n 0, 1) := by decide +kernel
theorem dX10_digest_94 : decode cX10_digest 94 = .ok (.getfield 30, 3) := by decide +kernel
theorem dX10_digest_97 : decode cX10_digest 97 = .ok (.getfield 215, 3) := by decide +kernel
theorem dX10_digest_100 : decode cX10_digest 100 = .ok (.lload_n 1, 1) := by decide +kernel
theorem dX10_digest_101 : decode cX10_digest 101 = .ok (.invokevirtual 282, 3) := by decide +kernel
theorem dX10_digest_104 : decode cX10_digest 104 = .ok (.lstore_n 1, 1) := by decide +kernel
theorem dX10_digest_105 : decode cX10_digest 105 = .ok (.ldc2_w 274, 3) := by decide +kernel
theorem dX10_digest_108 : decode cX10_digest 108 = .ok (.lload_n 1, 1) := by decide +kernel
theorem dX10_digest_109 : decode cX10_digest 109 = .ok (.lmul, 1) := by decide +kernel
theorem dX10_digest_110 : decode cX10_digest 110 = .ok (.aload_n 0, 1) := by decide +kernel
theorem dX10_digest_111 : decode cX10_digest 111 = .ok (.getfield 59, 3) := by decide +kernel
theorem dX10_digest_114 : decode cX10_digest 114 = .ok (.ladd, 1) := by decide +kernel
theorem dX10_digest_115 : decode cX10_digest 115 = .ok (.lstore_n 1, 1) := by decide +kernel
theorem dX10_digest_116 : decode cX10_digest 116 = .ok (.ldc2_w 274, 3) := by decide +kernel
theorem dX10_digest_119 : decode cX10_digest 119 = .ok (.lload_n 1, 1) := by decide +kernel
theorem dX10_digest_120 : decode cX10_digest 120 = .ok (.lmul, 1) := by decide +kernel
theorem dX10_digest_121 : decode cX10_digest 121 = .ok (.aload_n 0, 1) := by decide +kernel
theorem dX10_digest_122 : decode cX10_digest 122 = .ok (.getfield 63, 3) := by decide +kernel
theorem dX10_digest_125 : decode cX10_digest 125 = .ok (.ladd, 1) := by decide +kernel
theorem dX10_digest_126 : decode cX10_digest 126 = .ok (.lreturn, 1) := by decide +kernel
theorem dX10_refuseBad_0 : decode cX10_refuseBad 0 = .ok (.aload_n 0, 1) := by decide +kernel
theorem dX10_refuseBad_1 : decode cX10_refuseBad 1 = .ok (.dup, 1) := by decide +kernel
theorem dX10_refuseBad_2 : decode cX10_refuseBad 2 = .ok (.getfield 263, 3) := by decide +kernel
theorem dX10_refuseBad_5 : decode cX10_refuseBad 5 = .ok (.iconst 1, 1) := by decide +kernel
theorem dX10_refuseBad_6 : decode cX10_refuseBad 6 = .ok (.iadd, 1) := by decide +kernel
theorem dX10_refuseBad_7 : decode cX10_refuseBad 7 = .ok (.putfield 263, 3) := by decide +kernel
theorem dX10_refuseBad_10 : decode cX10_refuseBad 10 = .ok (.bipush (-2), 2) := by decide +kernel
theorem dX10_refuseBad_12 : decode cX10_refuseBad 12 = .ok (.ireturn, 1) := by decide +kernel
theorem dX10_refuseNo_0 : decode cX10_refuseNo 0 = .ok (.aload_n 0, 1) := by decide +kernel
theorem dX10_refuseNo_1 : decode cX10_refuseNo 1 = .ok (.dup, 1) := by decide +kernel
theorem dX10_refuseNo_2 : decode cX10_refuseNo 2 = .ok (.getfield 266, 3) := by decide +kernel
theorem dX10_refuseNo_5 : decode cX10_refuseNo 5 = .ok (.iconst 1, 1) := by decide +kernel
theorem dX10_refuseNo_6 : decode cX10_refuseNo 6 = .ok (.iadd, 1) := by decide +kernel
theorem dX10_refuseNo_7 : decode cX10_refuseNo 7 = .ok (.putfield 266, 3) := by decide +kernel
theorem dX10_refuseNo_10 : decode cX10_refuseNo 10 = .ok (.bipush (-3), 2) := by decide +kernel
theorem dX10_refuseNo_12 : decode cX10_refuseNo 12 = .ok (.ireturn, 1) := by decide +kernel
theorem dX10_refuseFull_0 : decode cX10_refuseFull 0 = .ok (.aload_n 0, 1) := by decide +kernel
theorem dX10_refuseFull_1 : decode cX10_refuseFull 1 = .ok (.dup, 1) := by decide +kernel
theorem dX10_refuseFull_2 : decode cX10_refuseFull 2 = .ok (.getfield 269, 3) := by decide +kernel
theorem dX10_refuseFull_5 : decode cX10_refuseFull 5 = .ok (.iconst 1, 1) := by decide +kernel
theorem dX10_refuseFull_6 : decode cX10_refuseFull 6 = .ok (.iadd, 1) := by decide +kernel
theorem dX10_refuseFull_7 : decode cX10_refuseFull 7 = .ok (.putfield 269, 3) := by decide +kernel
theorem dX10_refuseFull_10 : decode cX10_refuseFull 10 = .ok (.bipush (-4), 2) := by decide +kernel
theorem dX10_refuseFull_12 : decode cX10_refuseFull 12 = .ok (.ireturn, 1) := by decide +kernel
theorem dX10_within_0 : decode cX10_within 0 = .ok (.iload_n 0, 1) := by decide +kernel
theorem dX10_within_1 : decode cX10_within 1 = .ok (.iload_n 1, 1) := by decide +kernel
theorem dX10_within_2 : decode cX10_within 2 = .ok (.if_icmp .lt 12, 3) := by decide +kernel
theorem dX10_within_5 : decode cX10_within 5 = .ok (.iload_n 0, 1) := by decide +kernel
theorem dX10_within_6 : decode cX10_within 6 = .ok (.iload_n 2, 1) := by decide +kernel
theorem dX10_within_7 : decode cX10_within 7 = .ok (.if_icmp .gt 7, 3) := by decide +kernel
theorem dX10_within_10 : decode cX10_within 10 = .ok (.iconst 1, 1) := by decide +kernel
theorem dX10_within_11 : decode cX10_within 11 = .ok (.goto 4, 3) := by decide +kernel
theorem dX10_within_14 : decode cX10_within 14 = .ok (.iconst 0, 1) := by decide +kernel
theorem dX10_within_15 : decode cX10_within 15 = .ok (.ireturn, 1) := by decide +kernel
theorem dX10_isFiction_0 : decode cX10_isFiction 0 = .ok (.iload_n 1, 1) := by decide +kernel
theorem dX10_isFiction_1 : decode cX10_isFiction 1 = .ok (.ifCond .lt 21, 3) := by decide +kernel
theorem dX10_isFiction_4 : decode cX10_isFiction 4 = .ok (.iload_n 1, 1) := by decide +kernel
theorem dX10_isFiction_5 : decode cX10_isFiction 5 = .ok (.aload_n 0, 1) := by decide +kernel
theorem dX10_isFiction_6 : decode cX10_isFiction 6 = .ok (.getfield 30, 3) := by decide +kernel
theorem dX10_isFiction_9 : decode cX10_isFiction 9 = .ok (.getfield 74, 3) := by decide +kernel
theorem dX10_isFiction_12 : decode cX10_isFiction 12 = .ok (.getfield 78, 3) := by decide +kernel
theorem dX10_isFiction_15 : decode cX10_isFiction 15 = .ok (.if_icmp .ge 7, 3) := by decide +kernel
theorem dX10_isFiction_18 : decode cX10_isFiction 18 = .ok (.iconst 1, 1) := by decide +kernel
theorem dX10_isFiction_19 : decode cX10_isFiction 19 = .ok (.goto 4, 3) := by decide +kernel
theorem dX10_isFiction_22 : decode cX10_isFiction 22 = .ok (.iconst 0, 1) := by decide +kernel
theorem dX10_isFiction_23 : decode cX10_isFiction 23 = .ok (.ireturn, 1) := by decide +kernel
theorem dX10_isCourt_0 : decode cX10_isCourt 0 = .ok (.iload_n 1, 1) := by decide +kernel
theorem dX10_isCourt_1 : decode cX10_isCourt 1 = .ok (.ifCond .lt 21, 3) := by decide +kernel
theorem dX10_isCourt_4 : decode cX10_isCourt 4 = .ok (.iload_n 1, 1) := by decide +kernel
theorem dX10_isCourt_5 : decode cX10_isCourt 5 = .ok (.aload_n 0, 1) := by decide +kernel
theorem dX10_isCourt_6 : decode cX10_isCourt 6 = .ok (.getfield 30, 3) := by decide +kernel
theorem dX10_isCourt_9 : decode cX10_isCourt 9 = .ok (.getfield 105, 3) := by decide +kernel
theorem dX10_isCourt_12 : decode cX10_isCourt 12 = .ok (.getfield 78, 3) := by decide +kernel
theorem dX10_isCourt_15 : decode cX10_isCourt 15 = .ok (.if_icmp .ge 7, 3) := by decide +kernel
theorem dX10_isCourt_18 : decode cX10_isCourt 18 = .ok (.iconst 1, 1) := by decide +kernel
theorem dX10_isCourt_19 : decode cX10_isCourt 19 = .ok (.goto 4, 3) := by decide +kernel
theorem dX10_isCourt_22 : decode cX10_isCourt 22 = .ok (.iconst 0, 1) := by decide +kernel
theorem dX10_isCourt_23 : decode cX10_isCourt 23 = .ok (.ireturn, 1) := by decide +kernel
theorem dX10_isPleaded_0 : decode cX10_isPleaded 0 = .ok (.aload_n 0, 1) := by decide +kernel
theorem dX10_isPleaded_1 : decode cX10_isPleaded 1 = .ok (.getfield 30, 3) := by decide +kernel
theorem dX10_isPleaded_4 : decode cX10_isPleaded 4 = .ok (.getfield 122, 3) := by decide +kernel
theorem dX10_isPleaded_7 : decode cX10_isPleaded 7 = .ok (.iload_n 1, 1) := by decide +kernel
theorem dX10_isPleaded_8 : decode cX10_isPleaded 8 = .ok (.invokestatic 286, 3) := by decide +kernel
theorem dX10_isPleaded_11 : decode cX10_isPleaded 11 = .ok (.ireturn, 1) := by decide +kernel
theorem dX10_mayPlead_0 : decode cX10_mayPlead 0 = .ok (.aload_n 0, 1) := by decide +kernel
theorem dX10_mayPlead_1 : decode cX10_mayPlead 1 = .ok (.iload_n 1, 1) := by decide +kernel
theorem dX10_mayPlead_2 : decode cX10_mayPlead 2 = .ok (.invokevirtual 157, 3) := by decide +kernel
theorem dX10_mayPlead_5 : decode cX10_mayPlead 5 = .ok (.ifCond .ne 29, 3) := by decide +kernel
theorem dX10_mayPlead_8 : decode cX10_mayPlead 8 = .ok (.aload_n 0, 1) := by decide +kernel
theorem dX10_mayPlead_9 : decode cX10_mayPlead 9 = .ok (.getfield 30, 3) := by decide +kernel
theorem dX10_mayPlead_12 : decode cX10_mayPlead 12 = .ok (.iload_n 1, 1) := by decide +kernel
theorem dX10_mayPlead_13 : decode cX10_mayPlead 13 = .ok (.aload_n 0, 1) := by decide +kernel
theorem dX10_mayPlead_14 : decode cX10_mayPlead 14 = .ok (.invokevirtual 169, 3) := by decide +kernel
theorem dX10_mayPlead_17 : decode cX10_mayPlead 17 = .ok (.aload_n 0, 1) := by decide +kernel
theorem dX10_mayPlead_18 : decode cX10_mayPlead 18 = .ok (.getfield 30, 3) := by decide +kernel
theorem dX10_mayPlead_21 : decode cX10_mayPlead 21 = .ok (.getfield 144, 3) := by decide +kernel
theorem dX10_mayPlead_24 : decode cX10_mayPlead 24 = .ok (.invokevirtual 289, 3) := by decide +kernel
theorem dX10_mayPlead_27 : decode cX10_mayPlead 27 = .ok (.ifCond .eq 7, 3) := by decide +kernel
theorem dX10_mayPlead_30 : decode cX10_mayPlead 30 = .ok (.iconst 1, 1) := by decide +kernel
theorem dX10_mayPlead_31 : decode cX10_mayPlead 31 = .ok (.goto 4, 3) := by decide +kernel
theorem dX10_mayPlead_34 : decode cX10_mayPlead 34 = .ok (.iconst 0, 1) := by decide +kernel
theorem dX10_mayPlead_35 : decode cX10_mayPlead 35 = .ok (.ireturn, 1) := by decide +kernel
theorem dX10_supposed_0 : decode cX10_supposed 0 = .ok (.aload_n 0, 1) := by decide +kernel
theorem dX10_supposed_1 : decode cX10_supposed 1 = .ok (.getfield 30, 3) := by decide +kernel
theorem dX10_supposed_4 : decode cX10_supposed 4 = .ok (.aload_n 0, 1) := by decide +kernel
theorem dX10_supposed_5 : decode cX10_supposed 5 = .ok (.getfield 30, 3) := by decide +kernel
theorem dX10_supposed_8 : decode cX10_supposed 8 = .ok (.getfield 122, 3) := by decide +kernel
theorem dX10_supposed_11 : decode cX10_supposed 11 = .ok (.invokevirtual 199, 3) := by decide +kernel
theorem dX10_supposed_14 : decode cX10_supposed 14 = .ok (.ireturn, 1) := by decide +kernel
theorem dX10_holds_0 : decode cX10_holds 0 = .ok (.iload_n 0, 1) := by decide +kernel
theorem dX10_holds_1 : decode cX10_holds 1 = .ok (.iload_n 1, 1) := by decide +kernel
theorem dX10_holds_2 : decode cX10_holds 2 = .ok (.ishr, 1) := by decide +kernel
theorem dX10_holds_3 : decode cX10_holds 3 = .ok (.iconst 1, 1) := by decide +kernel
theorem dX10_holds_4 : decode cX10_holds 4 = .ok (.iand, 1) := by decide +kernel
theorem dX10_holds_5 : decode cX10_holds 5 = .ok (.iconst 1, 1) := by decide +kernel
theorem dX10_holds_6 : decode cX10_holds 6 = .ok (.if_icmp .ne 7, 3) := by decide +kernel
theorem dX10_holds_9 : decode cX10_holds 9 = .ok (.iconst 1, 1) := by decide +kernel
theorem dX10_holds_10 : decode cX10_holds 10 = .ok (.goto 4, 3) := by decide +kernel
theorem dX10_holds_13 : decode cX10_holds 13 = .ok (.iconst 0, 1) := by decide +kernel
theorem dX10_holds_14 : decode cX10_holds 14 = .ok (.ireturn, 1) := by decide +kernel
theorem dX10_fewer_0 : decode cX10_fewer 0 = .ok (.iload_n 1, 1) := by decide +kernel
theorem dX10_fewer_1 : decode cX10_fewer 1 = .ok (.iconst (-1), 1) := by decide +kernel
theorem dX10_fewer_2 : decode cX10_fewer 2 = .ok (.if_icmp .eq 14, 3) := by decide +kernel
theorem dX10_fewer_5 : decode cX10_fewer 5 = .ok (.iload_n 0, 1) := by decide +kernel
theorem dX10_fewer_6 : decode cX10_fewer 6 = .ok (.invokestatic 125, 3) := by decide +kernel
theorem dX10_fewer_9 : decode cX10_fewer 9 = .ok (.iload_n 1, 1) := by decide +kernel
theorem dX10_fewer_10 : decode cX10_fewer 10 = .ok (.invokestatic 125, 3) := by decide +kernel
theorem dX10_fewer_13 : decode cX10_fewer 13 = .ok (.if_icmp .ge 7, 3) := by decide +kernel
theorem dX10_fewer_16 : decode cX10_fewer 16 = .ok (.iconst 1, 1) := by decide +kernel
theorem dX10_fewer_17 : decode cX10_fewer 17 = .ok (.goto 4, 3) := by decide +kernel
theorem dX10_fewer_20 : decode cX10_fewer 20 = .ok (.iconst 0, 1) := by decide +kernel
theorem dX10_fewer_21 : decode cX10_fewer 21 = .ok (.ireturn, 1) := by decide +kernel
theorem dX10_contradictIn_0 : decode cX10_contradictIn 0 = .ok (.iload_n 0, 1) := by decide +kernel
theorem dX10_contradictIn_1 : decode cX10_contradictIn 1 = .ok (.iload_n 0, 1) := by decide +kernel
theorem dX10_contradictIn_2 : decode cX10_contradictIn 2 = .ok (.iconst 1, 1) := by decide +kernel
theorem dX10_contradictIn_3 : decode cX10_contradictIn 3 = .ok (.ishr, 1) := by decide +kernel
theorem dX10_contradictIn_4 : decode cX10_contradictIn 4 = .ok (.iand, 1) := by decide +kernel
theorem dX10_contradictIn_5 : decode cX10_contradictIn 5 = .ok (.bipush 85, 2) := by decide +kernel
theorem dX10_contradictIn_7 : decode cX10_contradictIn 7 = .ok (.iand, 1) := by decide +kernel
theorem dX10_contradictIn_8 : decode cX10_contradictIn 8 = .ok (.ifCond .eq 7, 3) := by decide +kernel
theorem dX10_contradictIn_11 : decode cX10_contradictIn 11 = .ok (.iconst 1, 1) := by decide +kernel
theorem dX10_contradictIn_12 : decode cX10_contradictIn 12 = .ok (.goto 4, 3) := by decide +kernel
theorem dX10_contradictIn_15 : decode cX10_contradictIn 15 = .ok (.iconst 0, 1) := by decide +kernel
theorem dX10_contradictIn_16 : decode cX10_contradictIn 16 = .ok (.ireturn, 1) := by decide +kernel
theorem dX10_pairsIn_0 : decode cX10_pairsIn 0 = .ok (.iconst 0, 1) := by decide +kernel
theorem dX10_pairsIn_1 : decode cX10_pairsIn 1 = .ok (.istore_n 1, 1) := by decide +kernel
theorem dX10_pairsIn_2 : decode cX10_pairsIn 2 = .ok (.iconst 0, 1) := by decide +kernel
theorem dX10_pairsIn_3 : decode cX10_pairsIn 3 = .ok (.istore_n 2, 1) := by decide +kernel
theorem dX10_pairsIn_4 : decode cX10_pairsIn 4 = .ok (.iload_n 2, 1) := by decide +kernel
theorem dX10_pairsIn_5 : decode cX10_pairsIn 5 = .ok (.iconst 4, 1) := by decide +kernel
theorem dX10_pairsIn_6 : decode cX10_pairsIn 6 = .ok (.if_icmp .ge 26, 3) := by decide +kernel
theorem dX10_pairsIn_9 : decode cX10_pairsIn 9 = .ok (.iload_n 0, 1) := by decide +kernel
theorem dX10_pairsIn_10 : decode cX10_pairsIn 10 = .ok (.iconst 2, 1) := by decide +kernel
theorem dX10_pairsIn_11 : decode cX10_pairsIn 11 = .ok (.iload_n 2, 1) := by decide +kernel
theorem dX10_pairsIn_12 : decode cX10_pairsIn 12 = .ok (.imul, 1) := by decide +kernel
theorem dX10_pairsIn_13 : decode cX10_pairsIn 13 = .ok (.ishr, 1) := by decide +kernel
theorem dX10_pairsIn_14 : decode cX10_pairsIn 14 = .ok (.iconst 3, 1) := by decide +kernel
theorem dX10_pairsIn_15 : decode cX10_pairsIn 15 = .ok (.iand, 1) := by decide +kernel
theorem dX10_pairsIn_16 : decode cX10_pairsIn 16 = .ok (.iconst 3, 1) := by decide +kernel
theorem dX10_pairsIn_17 : decode cX10_pairsIn 17 = .ok (.if_icmp .ne 9, 3) := by decide +kernel
theorem dX10_pairsIn_20 : decode cX10_pairsIn 20 = .ok (.iload_n 1, 1) := by decide +kernel
theorem dX10_pairsIn_21 : decode cX10_pairsIn 21 = .ok (.iconst 1, 1) := by decide +kernel
theorem dX10_pairsIn_22 : decode cX10_pairsIn 22 = .ok (.iload_n 2, 1) := by decide +kernel
theorem dX10_pairsIn_23 : decode cX10_pairsIn 23 = .ok (.ishl, 1) := by decide +kernel
theorem dX10_pairsIn_24 : decode cX10_pairsIn 24 = .ok (.ior, 1) := by decide +kernel
theorem dX10_pairsIn_25 : decode cX10_pairsIn 25 = .ok (.istore_n 1, 1) := by decide +kernel
theorem dX10_pairsIn_26 : decode cX10_pairsIn 26 = .ok (.iinc 2 1, 3) := by decide +kernel
theorem dX10_pairsIn_29 : decode cX10_pairsIn 29 = .ok (.goto (-25), 3) := by decide +kernel
theorem dX10_pairsIn_32 : decode cX10_pairsIn 32 = .ok (.iload_n 1, 1) := by decide +kernel
theorem dX10_pairsIn_33 : decode cX10_pairsIn 33 = .ok (.ireturn, 1) := by decide +kernel
theorem dX10_gainOfOne_0 : decode cX10_gainOfOne 0 = .ok (.iload_n 0, 1) := by decide +kernel
theorem dX10_gainOfOne_1 : decode cX10_gainOfOne 1 = .ok (.iconst 1, 1) := by decide +kernel
theorem dX10_gainOfOne_2 : decode cX10_gainOfOne 2 = .ok (.if_icmp .ne 5, 3) := by decide +kernel
theorem dX10_gainOfOne_5 : decode cX10_gainOfOne 5 = .ok (.iconst 0, 1) := by decide +kernel
theorem dX10_gainOfOne_6 : decode cX10_gainOfOne 6 = .ok (.ireturn, 1) := by decide +kernel
theorem dX10_gainOfOne_7 : decode cX10_gainOfOne 7 = .ok (.iload_n 1, 1) := by decide +kernel
theorem dX10_gainOfOne_8 : decode cX10_gainOfOne 8 = .ok (.ifCond .ne 12, 3) := by decide +kernel
theorem dX10_gainOfOne_11 : decode cX10_gainOfOne 11 = .ok (.iload_n 2, 1) := by decide +kernel
theorem dX10_gainOfOne_12 : decode cX10_gainOfOne 12 = .ok (.ifCond .eq 8, 3) := by decide +kernel
theorem dX10_gainOfOne_15 : decode cX10_gainOfOne 15 = .ok (.bipush (-3), 2) := by decide +kernel
theorem dX10_gainOfOne_17 : decode cX10_gainOfOne 17 = .ok (.goto 4, 3) := by decide +kernel
theorem dX10_gainOfOne_20 : decode cX10_gainOfOne 20 = .ok (.iconst 2, 1) := by decide +kernel
theorem dX10_gainOfOne_21 : decode cX10_gainOfOne 21 = .ok (.ireturn, 1) := by decide +kernel
theorem dX10_gainOfOther_0 : decode cX10_gainOfOther 0 = .ok (.iload_n 1, 1) := by decide +kernel
theorem dX10_gainOfOther_1 : decode cX10_gainOfOther 1 = .ok (.iconst 1, 1) := by decide +kernel
theorem dX10_gainOfOther_2 : decode cX10_gainOfOther 2 = .ok (.if_icmp .ne 5, 3) := by decide +kernel
theorem dX10_gainOfOther_5 : decode cX10_gainOfOther 5 = .ok (.iconst 0, 1) := by decide +kernel
theorem dX10_gainOfOther_6 : decode cX10_gainOfOther 6 = .ok (.ireturn, 1) := by decide +kernel
theorem dX10_gainOfOther_7 : decode cX10_gainOfOther 7 = .ok (.iload_n 0, 1) := by decide +kernel
theorem dX10_gainOfOther_8 : decode cX10_gainOfOther 8 = .ok (.ifCond .ne 11, 3) := by decide +kernel
theorem dX10_gainOfOther_11 : decode cX10_gainOfOther 11 = .ok (.iload_n 2, 1) := by decide +kernel
theorem dX10_gainOfOther_12 : decode cX10_gainOfOther 12 = .ok (.ifCond .eq 7, 3) := by decide +kernel
theorem dX10_gainOfOther_15 : decode cX10_gainOfOther 15 = .ok (.iconst 3, 1) := by decide +kernel
theorem dX10_gainOfOther_16 : decode cX10_gainOfOther 16 = .ok (.goto 4, 3) := by decide +kernel
theorem dX10_gainOfOther_19 : decode cX10_gainOfOther 19 = .ok (.iconst (-1), 1) := by decide +kernel
theorem dX10_gainOfOther_20 : decode cX10_gainOfOther 20 = .ok (.ireturn, 1) := by decide +kernel
theorem dX10_power_0 : decode cX10_power 0 = .ok (.lconst 1, 1) := by decide +kernel
theorem dX10_power_1 : decode cX10_power 1 = .ok (.lstore_n 2, 1) := by decide +kernel
theorem dX10_power_2 : decode cX10_power 2 = .ok (.iconst 0, 1) := by decide +kernel
theorem dX10_power_3 : decode cX10_power 3 = .ok (.istore 4, 2) := by decide +kernel
theorem dX10_power_5 : decode cX10_power 5 = .ok (.iload 4, 2) := by decide +kernel
theorem dX10_power_7 : decode cX10_power 7 = .ok (.iload_n 1, 1) := by decide +kernel
theorem dX10_power_8 : decode cX10_power 8 = .ok (.if_icmp .ge 14, 3) := by decide +kernel
theorem dX10_power_11 : decode cX10_power 11 = .ok (.lload_n 2, 1) := by decide +kernel
theorem dX10_power_12 : decode cX10_power 12 = .ok (.iload_n 0, 1) := by decide +kernel
theorem dX10_power_13 : decode cX10_power 13 = .ok (.i2l, 1) := by decide +kernel
theorem dX10_power_14 : decode cX10_power 14 = .ok (.lmul, 1) := by decide +kernel
theorem dX10_power_15 : decode cX10_power 15 = .ok (.lstore_n 2, 1) := by decide +kernel
theorem dX10_power_16 : decode cX10_power 16 = .ok (.iinc 4 1, 3) := by decide +kernel
theorem dX10_power_19 : decode cX10_power 19 = .ok (.goto (-14), 3) := by decide +kernel
theorem dX10_power_22 : decode cX10_power 22 = .ok (.lload_n 2, 1) := by decide +kernel
theorem dX10_power_23 : decode cX10_power 23 = .ok (.lreturn, 1) := by decide +kernel
theorem dX10_keepFraction_0 : decode cX10_keepFraction 0 = .ok (.lload_n 1, 1) := by decide +kernel
theorem dX10_keepFraction_1 : decode cX10_keepFraction 1 = .ok (.lload_n 3, 1) := by decide +kernel
theorem dX10_keepFraction_2 : decode cX10_keepFraction 2 = .ok (.invokestatic 292, 3) := by decide +kernel
theorem dX10_keepFraction_5 : decode cX10_keepFraction 5 = .ok (.lstore 5, 2) := by decide +kernel
theorem dX10_keepFraction_7 : decode cX10_keepFraction 7 = .ok (.lload 5, 2) := by decide +kernel
theorem dX10_keepFraction_9 : decode cX10_keepFraction 9 = .ok (.lconst 0, 1) := by decide +kernel
theorem dX10_keepFraction_10 : decode cX10_keepFraction 10 = .ok (.lcmp, 1) := by decide +kernel
theorem dX10_keepFraction_11 : decode cX10_keepFraction 11 = .ok (.ifCond .le 19, 3) := by decide +kernel
theorem dX10_keepFraction_14 : decode cX10_keepFraction 14 = .ok (.aload_n 0, 1) := by decide +kernel
theorem dX10_keepFraction_15 : decode cX10_keepFraction 15 = .ok (.lload_n 1, 1) := by decide +kernel
theorem dX10_keepFraction_16 : decode cX10_keepFraction 16 = .ok (.lload 5, 2) := by decide +kernel
theorem dX10_keepFraction_18 : decode cX10_keepFraction 18 = .ok (.ldiv, 1) := by decide +kernel
theorem dX10_keepFraction_19 : decode cX10_keepFraction 19 = .ok (.putfield 59, 3) := by decide +kernel
theorem dX10_keepFraction_22 : decode cX10_keepFraction 22 = .ok (.aload_n 0, 1) := by decide +kernel
theorem dX10_keepFraction_23 : decode cX10_keepFraction 23 = .ok (.lload_n 3, 1) := by decide +kernel
theorem dX10_keepFraction_24 : decode cX10_keepFraction 24 = .ok (.lload 5, 2) := by decide +kernel
theorem dX10_keepFraction_26 : decode cX10_keepFraction 26 = .ok (.ldiv, 1) := by decide +kernel
theorem dX10_keepFraction_27 : decode cX10_keepFraction 27 = .ok (.putfield 63, 3) := by decide +kernel
theorem dX10_keepFraction_30 : decode cX10_keepFraction 30 = .ok (.return_, 1) := by decide +kernel
theorem dX10_commonDivisor_0 : decode cX10_commonDivisor 0 = .ok (.lload_n 0, 1) := by decide +kernel
theorem dX10_commonDivisor_1 : decode cX10_commonDivisor 1 = .ok (.lstore 4, 2) := by decide +kernel
theorem dX10_commonDivisor_3 : decode cX10_commonDivisor 3 = .ok (.lload_n 2, 1) := by decide +kernel
theorem dX10_commonDivisor_4 : decode cX10_commonDivisor 4 = .ok (.lstore 6, 2) := by decide +kernel
theorem dX10_commonDivisor_6 : decode cX10_commonDivisor 6 = .ok (.iconst 0, 1) := by decide +kernel
theorem dX10_commonDivisor_7 : decode cX10_commonDivisor 7 = .ok (.istore 8, 2) := by decide +kernel
theorem dX10_commonDivisor_9 : decode cX10_commonDivisor 9 = .ok (.iload 8, 2) := by decide +kernel
theorem dX10_commonDivisor_11 : decode cX10_commonDivisor 11 = .ok (.sipush 200, 3) := by decide +kernel
theorem dX10_commonDivisor_14 : decode cX10_commonDivisor 14 = .ok (.if_icmp .ge 31, 3) := by decide +kernel
theorem dX10_commonDivisor_17 : decode cX10_commonDivisor 17 = .ok (.lload 6, 2) := by decide +kernel
theorem dX10_commonDivisor_19 : decode cX10_commonDivisor 19 = .ok (.lconst 0, 1) := by decide +kernel
theorem dX10_commonDivisor_20 : decode cX10_commonDivisor 20 = .ok (.lcmp, 1) := by decide +kernel
theorem dX10_commonDivisor_21 : decode cX10_commonDivisor 21 = .ok (.ifCond .eq 24, 3) := by decide +kernel
theorem dX10_commonDivisor_24 : decode cX10_commonDivisor 24 = .ok (.lload 4, 2) := by decide +kernel
theorem dX10_commonDivisor_26 : decode cX10_commonDivisor 26 = .ok (.lload 6, 2) := by decide +kernel
theorem dX10_commonDivisor_28 : decode cX10_commonDivisor 28 = .ok (.lrem, 1) := by decide +kernel
theorem dX10_commonDivisor_29 : decode cX10_commonDivisor 29 = .ok (.lstore 9, 2) := by decide +kernel
theorem dX10_commonDivisor_31 : decode cX10_commonDivisor 31 = .ok (.lload 6, 2) := by decide +kernel
theorem dX10_commonDivisor_33 : decode cX10_commonDivisor 33 = .ok (.lstore 4, 2) := by decide +kernel
theorem dX10_commonDivisor_35 : decode cX10_commonDivisor 35 = .ok (.lload 9, 2) := by decide +kernel
theorem dX10_commonDivisor_37 : decode cX10_commonDivisor 37 = .ok (.lstore 6, 2) := by decide +kernel
theorem dX10_commonDivisor_39 : decode cX10_commonDivisor 39 = .ok (.iinc 8 1, 3) := by decide +kernel
theorem dX10_commonDivisor_42 : decode cX10_commonDivisor 42 = .ok (.goto (-33), 3) := by decide +kernel
theorem dX10_commonDivisor_45 : decode cX10_commonDivisor 45 = .ok (.lload 4, 2) := by decide +kernel
theorem dX10_commonDivisor_47 : decode cX10_commonDivisor 47 = .ok (.lreturn, 1) := by decide +kernel
theorem dJ6_bitCount_0f7a4_0 : decode cJ6_bitCount_0f7a4 0 = .ok (.iload_n 0, 1) := by decide +kernel
theorem dJ6_bitCount_0f7a4_1 : decode cJ6_bitCount_0f7a4 1 = .ok (.iload_n 0, 1) := by decide +kernel
theorem dJ6_bitCount_0f7a4_2 : decode cJ6_bitCount_0f7a4 2 = .ok (.iconst 1, 1) := by decide +kernel
theorem dJ6_bitCount_0f7a4_3 : decode cJ6_bitCount_0f7a4 3 = .ok (.iushr, 1) := by decide +kernel
theorem dJ6_bitCount_0f7a4_4 : decode cJ6_bitCount_0f7a4 4 = .ok (.ldc_w 265, 3) := by decide +kernel
theorem dJ6_bitCount_0f7a4_7 : decode cJ6_bitCount_0f7a4 7 = .ok (.iand, 1) := by decide +kernel
theorem dJ6_bitCount_0f7a4_8 : decode cJ6_bitCount_0f7a4 8 = .ok (.isub, 1) := by decide +kernel
theorem dJ6_bitCount_0f7a4_9 : decode cJ6_bitCount_0f7a4 9 = .ok (.istore_n 0, 1) := by decide +kernel
theorem dJ6_bitCount_0f7a4_10 : decode cJ6_bitCount_0f7a4 10 = .ok (.iload_n 0, 1) := by decide +kernel
theorem dJ6_bitCount_0f7a4_11 : decode cJ6_bitCount_0f7a4 11 = .ok (.ldc_w 266, 3) := by decide +kernel
theorem dJ6_bitCount_0f7a4_14 : decode cJ6_bitCount_0f7a4 14 = .ok (.iand, 1) := by decide +kernel
theorem dJ6_bitCount_0f7a4_15 : decode cJ6_bitCount_0f7a4 15 = .ok (.iload_n 0, 1) := by decide +kernel
theorem dJ6_bitCount_0f7a4_16 : decode cJ6_bitCount_0f7a4 16 = .ok (.iconst 2, 1) := by decide +kernel
theorem dJ6_bitCount_0f7a4_17 : decode cJ6_bitCount_0f7a4 17 = .ok (.iushr, 1) := by decide +kernel
theorem dJ6_bitCount_0f7a4_18 : decode cJ6_bitCount_0f7a4 18 = .ok (.ldc_w 266, 3) := by decide +kernel
theorem dJ6_bitCount_0f7a4_21 : decode cJ6_bitCount_0f7a4 21 = .ok (.iand, 1) := by decide +kernel
theorem dJ6_bitCount_0f7a4_22 : decode cJ6_bitCount_0f7a4 22 = .ok (.iadd, 1) := by decide +kernel
theorem dJ6_bitCount_0f7a4_23 : decode cJ6_bitCount_0f7a4 23 = .ok (.istore_n 0, 1) := by decide +kernel
theorem dJ6_bitCount_0f7a4_24 : decode cJ6_bitCount_0f7a4 24 = .ok (.iload_n 0, 1) := by decide +kernel
theorem dJ6_bitCount_0f7a4_25 : decode cJ6_bitCount_0f7a4 25 = .ok (.iload_n 0, 1) := by decide +kernel
theorem dJ6_bitCount_0f7a4_26 : decode cJ6_bitCount_0f7a4 26 = .ok (.iconst 4, 1) := by decide +kernel
theorem dJ6_bitCount_0f7a4_27 : decode cJ6_bitCount_0f7a4 27 = .ok (.iushr, 1) := by decide +kernel
theorem dJ6_bitCount_0f7a4_28 : decode cJ6_bitCount_0f7a4 28 = .ok (.iadd, 1) := by decide +kernel
theorem dJ6_bitCount_0f7a4_29 : decode cJ6_bitCount_0f7a4 29 = .ok (.ldc_w 267, 3) := by decide +kernel
theorem dJ6_bitCount_0f7a4_32 : decode cJ6_bitCount_0f7a4 32 = .ok (.iand, 1) := by decide +kernel
theorem dJ6_bitCount_0f7a4_33 : decode cJ6_bitCount_0f7a4 33 = .ok (.istore_n 0, 1) := by decide +kernel
theorem dJ6_bitCount_0f7a4_34 : decode cJ6_bitCount_0f7a4 34 = .ok (.iload_n 0, 1) := by decide +kernel
theorem dJ6_bitCount_0f7a4_35 : decode cJ6_bitCount_0f7a4 35 = .ok (.iload_n 0, 1) := by decide +kernel
theorem dJ6_bitCount_0f7a4_36 : decode cJ6_bitCount_0f7a4 36 = .ok (.bipush 8, 2) := by decide +kernel
theorem dJ6_bitCount_0f7a4_38 : decode cJ6_bitCount_0f7a4 38 = .ok (.iushr, 1) := by decide +kernel
theorem dJ6_bitCount_0f7a4_39 : decode cJ6_bitCount_0f7a4 39 = .ok (.iadd, 1) := by decide +kernel
theorem dJ6_bitCount_0f7a4_40 : decode cJ6_bitCount_0f7a4 40 = .ok (.istore_n 0, 1) := by decide +kernel
theorem dJ6_bitCount_0f7a4_41 : decode cJ6_bitCount_0f7a4 41 = .ok (.iload_n 0, 1) := by decide +kernel
theorem dJ6_bitCount_0f7a4_42 : decode cJ6_bitCount_0f7a4 42 = .ok (.iload_n 0, 1) := by decide +kernel
theorem dJ6_bitCount_0f7a4_43 : decode cJ6_bitCount_0f7a4 43 = .ok (.bipush 16, 2) := by decide +kernel
theorem dJ6_bitCount_0f7a4_45 : decode cJ6_bitCount_0f7a4 45 = .ok (.iushr, 1) := by decide +kernel
theorem dJ6_bitCount_0f7a4_46 : decode cJ6_bitCount_0f7a4 46 = .ok (.iadd, 1) := by decide +kernel
theorem dJ6_bitCount_0f7a4_47 : decode cJ6_bitCount_0f7a4 47 = .ok (.istore_n 0, 1) := by decide +kernel
theorem dJ6_bitCount_0f7a4_48 : decode cJ6_bitCount_0f7a4 48 = .ok (.iload_n 0, 1) := by decide +kernel
theorem dJ6_bitCount_0f7a4_49 : decode cJ6_bitCount_0f7a4 49 = .ok (.bipush 63, 2) := by decide +kernel
theorem dJ6_bitCount_0f7a4_51 : decode cJ6_bitCount_0f7a4 51 = .ok (.iand, 1) := by decide +kernel
theorem dJ6_bitCount_0f7a4_52 : decode cJ6_bitCount_0f7a4 52 = .ok (.ireturn, 1) := by decide +kernel
theorem dJ0_length_8abf5_0 : decode cJ0_length_8abf5 0 = .ok (.aload_n 0, 1) := by decide +kernel
theorem dJ0_length_8abf5_1 : decode cJ0_length_8abf5 1 = .ok (.getfield 9, 3) := by decide +kernel
theorem dJ0_length_8abf5_4 : decode cJ0_length_8abf5 4 = .ok (.arraylength, 1) := by decide +kernel
theorem dJ0_length_8abf5_5 : decode cJ0_length_8abf5 5 = .ok (.aload_n 0, 1) := by decide +kernel
theorem dJ0_length_8abf5_6 : decode cJ0_length_8abf5 6 = .ok (.invokevirtual 335, 3) := by decide +kernel
theorem dJ0_length_8abf5_9 : decode cJ0_length_8abf5 9 = .ok (.ishr, 1) := by decide +kernel
theorem dJ0_length_8abf5_10 : decode cJ0_length_8abf5 10 = .ok (.ireturn, 1) := by decide +kernel
theorem dJ0_charAt_5068e_0 : decode cJ0_charAt_5068e 0 = .ok (.aload_n 0, 1) := by decide +kernel
theorem dJ0_charAt_5068e_1 : decode cJ0_charAt_5068e 1 = .ok (.invokevirtual 492, 3) := by decide +kernel
theorem dJ0_charAt_5068e_4 : decode cJ0_charAt_5068e 4 = .ok (.ifCond .eq 12, 3) := by decide +kernel
theorem dJ0_charAt_5068e_7 : decode cJ0_charAt_5068e 7 = .ok (.aload_n 0, 1) := by decide +kernel
theorem dJ0_charAt_5068e_8 : decode cJ0_charAt_5068e 8 = .ok (.getfield 9, 3) := by decide +kernel
theorem dJ0_charAt_5068e_11 : decode cJ0_charAt_5068e 11 = .ok (.iload_n 1, 1) := by decide +kernel
theorem dJ0_charAt_5068e_12 : decode cJ0_charAt_5068e 12 = .ok (.invokestatic 495, 3) := by decide +kernel
theorem dJ0_charAt_5068e_15 : decode cJ0_charAt_5068e 15 = .ok (.ireturn, 1) := by decide +kernel
theorem dJ0_charAt_5068e_16 : decode cJ0_charAt_5068e 16 = .ok (.aload_n 0, 1) := by decide +kernel
theorem dJ0_charAt_5068e_17 : decode cJ0_charAt_5068e 17 = .ok (.getfield 9, 3) := by decide +kernel
theorem dJ0_charAt_5068e_20 : decode cJ0_charAt_5068e 20 = .ok (.iload_n 1, 1) := by decide +kernel
theorem dJ0_charAt_5068e_21 : decode cJ0_charAt_5068e 21 = .ok (.invokestatic 498, 3) := by decide +kernel
theorem dJ0_charAt_5068e_24 : decode cJ0_charAt_5068e 24 = .ok (.ireturn, 1) := by decide +kernel
theorem dJ0_coder_7d493_0 : decode cJ0_coder_7d493 0 = .ok (.getstatic 38, 3) := by decide +kernel
theorem dJ0_coder_7d493_3 : decode cJ0_coder_7d493 3 = .ok (.ifCond .eq 10, 3) := by decide +kernel
theorem dJ0_coder_7d493_6 : decode cJ0_coder_7d493 6 = .ok (.aload_n 0, 1) := by decide +kernel
theorem dJ0_coder_7d493_7 : decode cJ0_coder_7d493 7 = .ok (.getfield 15, 3) := by decide +kernel
theorem dJ0_coder_7d493_10 : decode cJ0_coder_7d493 10 = .ok (.goto 4, 3) := by decide +kernel
theorem dJ0_coder_7d493_13 : decode cJ0_coder_7d493 13 = .ok (.iconst 1, 1) := by decide +kernel
theorem dJ0_coder_7d493_14 : decode cJ0_coder_7d493 14 = .ok (.ireturn, 1) := by decide +kernel
theorem dJ0_isLatin1_aae02_0 : decode cJ0_isLatin1_aae02 0 = .ok (.getstatic 38, 3) := by decide +kernel
theorem dJ0_isLatin1_aae02_3 : decode cJ0_isLatin1_aae02 3 = .ok (.ifCond .eq 14, 3) := by decide +kernel
theorem dJ0_isLatin1_aae02_6 : decode cJ0_isLatin1_aae02 6 = .ok (.aload_n 0, 1) := by decide +kernel
theorem dJ0_isLatin1_aae02_7 : decode cJ0_isLatin1_aae02 7 = .ok (.getfield 15, 3) := by decide +kernel
theorem dJ0_isLatin1_aae02_10 : decode cJ0_isLatin1_aae02 10 = .ok (.ifCond .ne 7, 3) := by decide +kernel
theorem dJ0_isLatin1_aae02_13 : decode cJ0_isLatin1_aae02 13 = .ok (.iconst 1, 1) := by decide +kernel
theorem dJ0_isLatin1_aae02_14 : decode cJ0_isLatin1_aae02 14 = .ok (.goto 4, 3) := by decide +kernel
theorem dJ0_isLatin1_aae02_17 : decode cJ0_isLatin1_aae02 17 = .ok (.iconst 0, 1) := by decide +kernel
theorem dJ0_isLatin1_aae02_18 : decode cJ0_isLatin1_aae02 18 = .ok (.ireturn, 1) := by decide +kernel
theorem dJ0_checkIndex_df160_0 : decode cJ0_checkIndex_df160 0 = .ok (.iload_n 0, 1) := by decide +kernel
theorem dJ0_checkIndex_df160_1 : decode cJ0_checkIndex_df160 1 = .ok (.iload_n 1, 1) := by decide +kernel
theorem dJ0_checkIndex_df160_2 : decode cJ0_checkIndex_df160 2 = .ok (.getstatic 1053, 3) := by decide +kernel
theorem dJ0_checkIndex_df160_5 : decode cJ0_checkIndex_df160 5 = .ok (.invokestatic 1059, 3) := by decide +kernel
theorem dJ0_checkIndex_df160_8 : decode cJ0_checkIndex_df160 8 = .ok (.pop, 1) := by decide +kernel
theorem dJ0_checkIndex_df160_9 : decode cJ0_checkIndex_df160 9 = .ok (.return_, 1) := by decide +kernel
theorem dJ1_charAt_3b067_0 : decode cJ1_charAt_3b067 0 = .ok (.iload_n 1, 1) := by decide +kernel
theorem dJ1_charAt_3b067_1 : decode cJ1_charAt_3b067 1 = .ok (.aload_n 0, 1) := by decide +kernel
theorem dJ1_charAt_3b067_2 : decode cJ1_charAt_3b067 2 = .ok (.arraylength, 1) := by decide +kernel
theorem dJ1_charAt_3b067_3 : decode cJ1_charAt_3b067 3 = .ok (.invokestatic 9, 3) := by decide +kernel
theorem dJ1_charAt_3b067_6 : decode cJ1_charAt_3b067 6 = .ok (.aload_n 0, 1) := by decide +kernel
theorem dJ1_charAt_3b067_7 : decode cJ1_charAt_3b067 7 = .ok (.iload_n 1, 1) := by decide +kernel
theorem dJ1_charAt_3b067_8 : decode cJ1_charAt_3b067 8 = .ok (.baload, 1) := by decide +kernel
theorem dJ1_charAt_3b067_9 : decode cJ1_charAt_3b067 9 = .ok (.sipush 255, 3) := by decide +kernel
theorem dJ1_charAt_3b067_12 : decode cJ1_charAt_3b067 12 = .ok (.iand, 1) := by decide +kernel
theorem dJ1_charAt_3b067_13 : decode cJ1_charAt_3b067 13 = .ok (.i2c, 1) := by decide +kernel
theorem dJ1_charAt_3b067_14 : decode cJ1_charAt_3b067 14 = .ok (.ireturn, 1) := by decide +kernel
theorem dJ3_checkIndex_8e157_0 : decode cJ3_checkIndex_8e157 0 = .ok (.iload_n 0, 1) := by decide +kernel
theorem dJ3_checkIndex_8e157_1 : decode cJ3_checkIndex_8e157 1 = .ok (.ifCond .lt 8, 3) := by decide +kernel
theorem dJ3_checkIndex_8e157_4 : decode cJ3_checkIndex_8e157 4 = .ok (.iload_n 0, 1) := by decide +kernel
theorem dJ3_checkIndex_8e157_5 : decode cJ3_checkIndex_8e157 5 = .ok (.iload_n 1, 1) := by decide +kernel
theorem dJ3_checkIndex_8e157_6 : decode cJ3_checkIndex_8e157 6 = .ok (.if_icmp .lt 10, 3) := by decide +kernel
theorem dJ3_checkIndex_8e157_9 : decode cJ3_checkIndex_8e157 9 = .ok (.aload_n 2, 1) := by decide +kernel
theorem dJ3_checkIndex_8e157_10 : decode cJ3_checkIndex_8e157 10 = .ok (.iload_n 0, 1) := by decide +kernel
theorem dJ3_checkIndex_8e157_11 : decode cJ3_checkIndex_8e157 11 = .ok (.iload_n 1, 1) := by decide +kernel
theorem dJ3_checkIndex_8e157_12 : decode cJ3_checkIndex_8e157 12 = .ok (.invokestatic 95, 3) := by decide +kernel
theorem dJ3_checkIndex_8e157_15 : decode cJ3_checkIndex_8e157 15 = .ok (.athrow, 1) := by decide +kernel
theorem dJ3_checkIndex_8e157_16 : decode cJ3_checkIndex_8e157 16 = .ok (.iload_n 0, 1) := by decide +kernel
theorem dJ3_checkIndex_8e157_17 : decode cJ3_checkIndex_8e157 17 = .ok (.ireturn, 1) := by decide +kernel
