theorem dX1_init_0 : decode cX1_init 0 = .ok (.aload_n 0, 1) := by decide +kernel
theorem dX1_init_1 : decode cX1_init 1 = .ok (.invokespecial 3, 3) := by decide +kernel
theorem dX1_init_4 : decode cX1_init 4 = .ok (.aload_n 0, 1) := by decide +kernel
theorem dX1_init_5 : decode cX1_init 5 = .ok (.iconst 5, 1) := by decide +kernel
theorem dX1_init_6 : decode cX1_init 6 = .ok (.bipush 8, 2) := by decide +kernel
theorem dX1_init_8 : decode cX1_init 8 = .ok (.multianewarray 9 2, 4) := by decide +kernel
theorem dX1_init_12 : decode cX1_init 12 = .ok (.putfield 11, 3) := by decide +kernel
theorem dX1_init_15 : decode cX1_init 15 = .ok (.aload_n 0, 1) := by decide +kernel
theorem dX1_init_16 : decode cX1_init 16 = .ok (.bipush 8, 2) := by decide +kernel
theorem dX1_init_18 : decode cX1_init 18 = .ok (.newarray .int, 2) := by decide +kernel
theorem dX1_init_20 : decode cX1_init 20 = .ok (.putfield 16, 3) := by decide +kernel
theorem dX1_init_23 : decode cX1_init 23 = .ok (.aload_n 0, 1) := by decide +kernel
theorem dX1_init_24 : decode cX1_init 24 = .ok (.sipush 3000, 3) := by decide +kernel
theorem dX1_init_27 : decode cX1_init 27 = .ok (.newarray .int, 2) := by decide +kernel
theorem dX1_init_29 : decode cX1_init 29 = .ok (.putfield 20, 3) := by decide +kernel
theorem dX1_init_32 : decode cX1_init 32 = .ok (.aload_n 0, 1) := by decide +kernel
theorem dX1_init_33 : decode cX1_init 33 = .ok (.sipush 3000, 3) := by decide +kernel
theorem dX1_init_36 : decode cX1_init 36 = .ok (.newarray .int, 2) := by decide +kernel
theorem dX1_init_38 : decode cX1_init 38 = .ok (.putfield 23, 3) := by decide +kernel
theorem dX1_init_41 : decode cX1_init 41 = .ok (.aload_n 0, 1) := by decide +kernel
theorem dX1_init_42 : decode cX1_init 42 = .ok (.sipush 3000, 3) := by decide +kernel
theorem dX1_init_45 : decode cX1_init 45 = .ok (.newarray .int, 2) := by decide +kernel
theorem dX1_init_47 : decode cX1_init 47 = .ok (.putfield 26, 3) := by decide +kernel
theorem dX1_init_50 : decode cX1_init 50 = .ok (.aload_n 0, 1) := by decide +kernel
theorem dX1_init_51 : decode cX1_init 51 = .ok (.sipush 3000, 3) := by decide +kernel
theorem dX1_init_54 : decode cX1_init 54 = .ok (.newarray .int, 2) := by decide +kernel
theorem dX1_init_56 : decode cX1_init 56 = .ok (.putfield 29, 3) := by decide +kernel
theorem dX1_init_59 : decode cX1_init 59 = .ok (.aload_n 0, 1) := by decide +kernel
theorem dX1_init_60 : decode cX1_init 60 = .ok (.sipush 3000, 3) := by decide +kernel
theorem dX1_init_63 : decode cX1_init 63 = .ok (.newarray .int, 2) := by decide +kernel
theorem dX1_init_65 : decode cX1_init 65 = .ok (.putfield 32, 3) := by decide +kernel
theorem dX1_init_68 : decode cX1_init 68 = .ok (.return_, 1) := by decide +kernel
theorem dX1_receive_0 : decode cX1_receive 0 = .ok (.aload_n 0, 1) := by decide +kernel
theorem dX1_receive_1 : decode cX1_receive 1 = .ok (.getfield 16, 3) := by decide +kernel
theorem dX1_receive_4 : decode cX1_receive 4 = .ok (.iload_n 1, 1) := by decide +kernel
theorem dX1_receive_5 : decode cX1_receive 5 = .ok (.dup2, 1) := by decide +kernel
theorem dX1_receive_6 : decode cX1_receive 6 = .ok (.iaload, 1) := by decide +kernel
theorem dX1_receive_7 : decode cX1_receive 7 = .ok (.iload_n 2, 1) := by decide +kernel
theorem dX1_receive_8 : decode cX1_receive 8 = .ok (.iadd, 1) := by decide +kernel
theorem dX1_receive_9 : decode cX1_receive 9 = .ok (.iastore, 1) := by decide +kernel
theorem dX1_receive_10 : decode cX1_receive 10 = .ok (.aload_n 0, 1) := by decide +kernel
theorem dX1_receive_11 : decode cX1_receive 11 = .ok (.getfield 11, 3) := by decide +kernel
theorem dX1_receive_14 : decode cX1_receive 14 = .ok (.iconst 0, 1) := by decide +kernel
theorem dX1_receive_15 : decode cX1_receive 15 = .ok (.aaload, 1) := by decide +kernel
theorem dX1_receive_16 : decode cX1_receive 16 = .ok (.iload_n 1, 1) := by decide +kernel
theorem dX1_receive_17 : decode cX1_receive 17 = .ok (.dup2, 1) := by decide +kernel
theorem dX1_receive_18 : decode cX1_receive 18 = .ok (.iaload, 1) := by decide +kernel
theorem dX1_receive_19 : decode cX1_receive 19 = .ok (.iload_n 2, 1) := by decide +kernel
theorem dX1_receive_20 : decode cX1_receive 20 = .ok (.iadd, 1) := by decide +kernel
theorem dX1_receive_21 : decode cX1_receive 21 = .ok (.iastore, 1) := by decide +kernel
theorem dX1_receive_22 : decode cX1_receive 22 = .ok (.aload_n 0, 1) := by decide +kernel
theorem dX1_receive_23 : decode cX1_receive 23 = .ok (.getfield 11, 3) := by decide +kernel
theorem dX1_receive_26 : decode cX1_receive 26 = .ok (.iconst 0, 1) := by decide +kernel
theorem dX1_receive_27 : decode cX1_receive 27 = .ok (.aaload, 1) := by decide +kernel
theorem dX1_receive_28 : decode cX1_receive 28 = .ok (.iload_n 1, 1) := by decide +kernel
theorem dX1_receive_29 : decode cX1_receive 29 = .ok (.iaload, 1) := by decide +kernel
theorem dX1_receive_30 : decode cX1_receive 30 = .ok (.ireturn, 1) := by decide +kernel
theorem dX1_stockOf_0 : decode cX1_stockOf 0 = .ok (.aload_n 0, 1) := by decide +kernel
theorem dX1_stockOf_1 : decode cX1_stockOf 1 = .ok (.getfield 11, 3) := by decide +kernel
theorem dX1_stockOf_4 : decode cX1_stockOf 4 = .ok (.iload_n 1, 1) := by decide +kernel
theorem dX1_stockOf_5 : decode cX1_stockOf 5 = .ok (.iconst 1, 1) := by decide +kernel
theorem dX1_stockOf_6 : decode cX1_stockOf 6 = .ok (.iadd, 1) := by decide +kernel
theorem dX1_stockOf_7 : decode cX1_stockOf 7 = .ok (.aaload, 1) := by decide +kernel
theorem dX1_stockOf_8 : decode cX1_stockOf 8 = .ok (.iload_n 2, 1) := by decide +kernel
theorem dX1_stockOf_9 : decode cX1_stockOf 9 = .ok (.iaload, 1) := by decide +kernel
theorem dX1_stockOf_10 : decode cX1_stockOf 10 = .ok (.ireturn, 1) := by decide +kernel
theorem dX1_stockTold_0 : decode cX1_stockTold 0 = .ok (.iload_n 1, 1) := by decide +kernel
theorem dX1_stockTold_1 : decode cX1_stockTold 1 = .ok (.iconst (-1), 1) := by decide +kernel
theorem dX1_stockTold_2 : decode cX1_stockTold 2 = .ok (.if_icmp .ne 12, 3) := by decide +kernel
theorem dX1_stockTold_5 : decode cX1_stockTold 5 = .ok (.aload_n 0, 1) := by decide +kernel
theorem dX1_stockTold_6 : decode cX1_stockTold 6 = .ok (.getfield 16, 3) := by decide +kernel
theorem dX1_stockTold_9 : decode cX1_stockTold 9 = .ok (.iload_n 2, 1) := by decide +kernel
theorem dX1_stockTold_10 : decode cX1_stockTold 10 = .ok (.iaload, 1) := by decide +kernel
theorem dX1_stockTold_11 : decode cX1_stockTold 11 = .ok (.goto 4, 3) := by decide +kernel
theorem dX1_stockTold_14 : decode cX1_stockTold 14 = .ok (.iconst 0, 1) := by decide +kernel
theorem dX1_stockTold_15 : decode cX1_stockTold 15 = .ok (.istore_n 3, 1) := by decide +kernel
theorem dX1_stockTold_16 : decode cX1_stockTold 16 = .ok (.iconst 0, 1) := by decide +kernel
theorem dX1_stockTold_17 : decode cX1_stockTold 17 = .ok (.istore 4, 2) := by decide +kernel
theorem dX1_stockTold_19 : decode cX1_stockTold 19 = .ok (.iload 4, 2) := by decide +kernel
theorem dX1_stockTold_21 : decode cX1_stockTold 21 = .ok (.aload_n 0, 1) := by decide +kernel
theorem dX1_stockTold_22 : decode cX1_stockTold 22 = .ok (.getfield 35, 3) := by decide +kernel
theorem dX1_stockTold_25 : decode cX1_stockTold 25 = .ok (.if_icmp .ge 70, 3) := by decide +kernel
theorem dX1_stockTold_28 : decode cX1_stockTold 28 = .ok (.aload_n 0, 1) := by decide +kernel
theorem dX1_stockTold_29 : decode cX1_stockTold 29 = .ok (.getfield 26, 3) := by decide +kernel
theorem dX1_stockTold_32 : decode cX1_stockTold 32 = .ok (.iload 4, 2) := by decide +kernel
theorem dX1_stockTold_34 : decode cX1_stockTold 34 = .ok (.iaload, 1) := by decide +kernel
theorem dX1_stockTold_35 : decode cX1_stockTold 35 = .ok (.iload_n 2, 1) := by decide +kernel
theorem dX1_stockTold_36 : decode cX1_stockTold 36 = .ok (.if_icmp .ne 53, 3) := by decide +kernel
theorem dX1_stockTold_39 : decode cX1_stockTold 39 = .ok (.iload_n 3, 1) := by decide +kernel
theorem dX1_stockTold_40 : decode cX1_stockTold 40 = .ok (.aload_n 0, 1) := by decide +kernel
theorem dX1_stockTold_41 : decode cX1_stockTold 41 = .ok (.getfield 23, 3) := by decide +kernel
theorem dX1_stockTold_44 : decode cX1_stockTold 44 = .ok (.iload 4, 2) := by decide +kernel
theorem dX1_stockTold_46 : decode cX1_stockTold 46 = .ok (.iaload, 1) := by decide +kernel
theorem dX1_stockTold_47 : decode cX1_stockTold 47 = .ok (.iload_n 1, 1) := by decide +kernel
theorem dX1_stockTold_48 : decode cX1_stockTold 48 = .ok (.if_icmp .ne 13, 3) := by decide +kernel
theorem dX1_stockTold_51 : decode cX1_stockTold 51 = .ok (.aload_n 0, 1) := by decide +kernel
theorem dX1_stockTold_52 : decode cX1_stockTold 52 = .ok (.getfield 29, 3) := by decide +kernel
theorem dX1_stockTold_55 : decode cX1_stockTold 55 = .ok (.iload 4, 2) := by decide +kernel
theorem dX1_stockTold_57 : decode cX1_stockTold 57 = .ok (.iaload, 1) := by decide +kernel
theorem dX1_stockTold_58 : decode cX1_stockTold 58 = .ok (.goto 4, 3) := by decide +kernel
theorem dX1_stockTold_61 : decode cX1_stockTold 61 = .ok (.iconst 0, 1) := by decide +kernel
theorem dX1_stockTold_62 : decode cX1_stockTold 62 = .ok (.iadd, 1) := by decide +kernel
theorem dX1_stockTold_63 : decode cX1_stockTold 63 = .ok (.istore_n 3, 1) := by decide +kernel
theorem dX1_stockTold_64 : decode cX1_stockTold 64 = .ok (.iload_n 3, 1) := by decide +kernel
theorem dX1_stockTold_65 : decode cX1_stockTold 65 = .ok (.aload_n 0, 1) := by decide +kernel
theorem dX1_stockTold_66 : decode cX1_stockTold 66 = .ok (.getfield 20, 3) := by decide +kernel
theorem dX1_stockTold_69 : decode cX1_stockTold 69 = .ok (.iload 4, 2) := by decide +kernel
theorem dX1_stockTold_71 : decode cX1_stockTold 71 = .ok (.iaload, 1) := by decide +kernel
theorem dX1_stockTold_72 : decode cX1_stockTold 72 = .ok (.iload_n 1, 1) := by decide +kernel
theorem dX1_stockTold_73 : decode cX1_stockTold 73 = .ok (.if_icmp .ne 13, 3) := by decide +kernel
theorem dX1_stockTold_76 : decode cX1_stockTold 76 = .ok (.aload_n 0, 1) := by decide +kernel
theorem dX1_stockTold_77 : decode cX1_stockTold 77 = .ok (.getfield 29, 3) := by decide +kernel
theorem dX1_stockTold_80 : decode cX1_stockTold 80 = .ok (.iload 4, 2) := by decide +kernel
theorem dX1_stockTold_82 : decode cX1_stockTold 82 = .ok (.iaload, 1) := by decide +kernel
theorem dX1_stockTold_83 : decode cX1_stockTold 83 = .ok (.goto 4, 3) := by decide +kernel
theorem dX1_stockTold_86 : decode cX1_stockTold 86 = .ok (.iconst 0, 1) := by decide +kernel
theorem dX1_stockTold_87 : decode cX1_stockTold 87 = .ok (.isub, 1) := by decide +kernel
theorem dX1_stockTold_88 : decode cX1_stockTold 88 = .ok (.istore_n 3, 1) := by decide +kernel
theorem dX1_stockTold_89 : decode cX1_stockTold 89 = .ok (.iinc 4 1, 3) := by decide +kernel
theorem dX1_stockTold_92 : decode cX1_stockTold 92 = .ok (.goto (-73), 3) := by decide +kernel
theorem dX1_stockTold_95 : decode cX1_stockTold 95 = .ok (.iload_n 3, 1) := by decide +kernel
theorem dX1_stockTold_96 : decode cX1_stockTold 96 = .ok (.ireturn, 1) := by decide +kernel
theorem dX1_leftStoreBy_0 : decode cX1_leftStoreBy 0 = .ok (.iconst 0, 1) := by decide +kernel
theorem dX1_leftStoreBy_1 : decode cX1_leftStoreBy 1 = .ok (.istore_n 3, 1) := by decide +kernel
theorem dX1_leftStoreBy_2 : decode cX1_leftStoreBy 2 = .ok (.iconst 0, 1) := by decide +kernel
theorem dX1_leftStoreBy_3 : decode cX1_leftStoreBy 3 = .ok (.istore 4, 2) := by decide +kernel
theorem dX1_leftStoreBy_5 : decode cX1_leftStoreBy 5 = .ok (.iload 4, 2) := by decide +kernel
theorem dX1_leftStoreBy_7 : decode cX1_leftStoreBy 7 = .ok (.aload_n 0, 1) := by decide +kernel
theorem dX1_leftStoreBy_8 : decode cX1_leftStoreBy 8 = .ok (.getfield 35, 3) := by decide +kernel
theorem dX1_leftStoreBy_11 : decode cX1_leftStoreBy 11 = .ok (.if_icmp .ge 81, 3) := by decide +kernel
theorem dX1_leftStoreBy_14 : decode cX1_leftStoreBy 14 = .ok (.aload_n 0, 1) := by decide +kernel
theorem dX1_leftStoreBy_15 : decode cX1_leftStoreBy 15 = .ok (.getfield 32, 3) := by decide +kernel
theorem dX1_leftStoreBy_18 : decode cX1_leftStoreBy 18 = .ok (.iload 4, 2) := by decide +kernel
theorem dX1_leftStoreBy_20 : decode cX1_leftStoreBy 20 = .ok (.iaload, 1) := by decide +kernel
theorem dX1_leftStoreBy_21 : decode cX1_leftStoreBy 21 = .ok (.iload_n 1, 1) := by decide +kernel
theorem dX1_leftStoreBy_22 : decode cX1_leftStoreBy 22 = .ok (.if_icmp .ne 64, 3) := by decide +kernel
theorem dX1_leftStoreBy_25 : decode cX1_leftStoreBy 25 = .ok (.aload_n 0, 1) := by decide +kernel
theorem dX1_leftStoreBy_26 : decode cX1_leftStoreBy 26 = .ok (.getfield 26, 3) := by decide +kernel
theorem dX1_leftStoreBy_29 : decode cX1_leftStoreBy 29 = .ok (.iload 4, 2) := by decide +kernel
theorem dX1_leftStoreBy_31 : decode cX1_leftStoreBy 31 = .ok (.iaload, 1) := by decide +kernel
theorem dX1_leftStoreBy_32 : decode cX1_leftStoreBy 32 = .ok (.iload_n 2, 1) := by decide +kernel
theorem dX1_leftStoreBy_33 : decode cX1_leftStoreBy 33 = .ok (.if_icmp .ne 53, 3) := by decide +kernel
theorem dX1_leftStoreBy_36 : decode cX1_leftStoreBy 36 = .ok (.iload_n 3, 1) := by decide +kernel
theorem dX1_leftStoreBy_37 : decode cX1_leftStoreBy 37 = .ok (.aload_n 0, 1) := by decide +kernel
theorem dX1_leftStoreBy_38 : decode cX1_leftStoreBy 38 = .ok (.getfield 20, 3) := by decide +kernel
theorem dX1_leftStoreBy_41 : decode cX1_leftStoreBy 41 = .ok (.iload 4, 2) := by decide +kernel
theorem dX1_leftStoreBy_43 : decode cX1_leftStoreBy 43 = .ok (.iaload, 1) := by decide +kernel
theorem dX1_leftStoreBy_44 : decode cX1_leftStoreBy 44 = .ok (.iconst (-1), 1) := by decide +kernel
theorem dX1_leftStoreBy_45 : decode cX1_leftStoreBy 45 = .ok (.if_icmp .ne 13, 3) := by decide +kernel
theorem dX1_leftStoreBy_48 : decode cX1_leftStoreBy 48 = .ok (.aload_n 0, 1) := by decide +kernel
theorem dX1_leftStoreBy_49 : decode cX1_leftStoreBy 49 = .ok (.getfield 29, 3) := by decide +kernel
theorem dX1_leftStoreBy_52 : decode cX1_leftStoreBy 52 = .ok (.iload 4, 2) := by decide +kernel
theorem dX1_leftStoreBy_54 : decode cX1_leftStoreBy 54 = .ok (.iaload, 1) := by decide +kernel
theorem dX1_leftStoreBy_55 : decode cX1_leftStoreBy 55 = .ok (.goto 4, 3) := by decide +kernel
theorem dX1_leftStoreBy_58 : decode cX1_leftStoreBy 58 = .ok (.iconst 0, 1) := by decide +kernel
theorem dX1_leftStoreBy_59 : decode cX1_leftStoreBy 59 = .ok (.iadd, 1) := by decide +kernel
theorem dX1_leftStoreBy_60 : decode cX1_leftStoreBy 60 = .ok (.istore_n 3, 1) := by decide +kernel
theorem dX1_leftStoreBy_61 : decode cX1_leftStoreBy 61 = .ok (.iload_n 3, 1) := by decide +kernel
theorem dX1_leftStoreBy_62 : decode cX1_leftStoreBy 62 = .ok (.aload_n 0, 1) := by decide +kernel
theorem dX1_leftStoreBy_63 : decode cX1_leftStoreBy 63 = .ok (.getfield 23, 3) := by decide +kernel
theorem dX1_leftStoreBy_66 : decode cX1_leftStoreBy 66 = .ok (.iload 4, 2) := by decide +kernel
theorem dX1_leftStoreBy_68 : decode cX1_leftStoreBy 68 = .ok (.iaload, 1) := by decide +kernel
theorem dX1_leftStoreBy_69 : decode cX1_leftStoreBy 69 = .ok (.iconst (-1), 1) := by decide +kernel
theorem dX1_leftStoreBy_70 : decode cX1_leftStoreBy 70 = .ok (.if_icmp .ne 13, 3) := by decide +kernel
theorem dX1_leftStoreBy_73 : decode cX1_leftStoreBy 73 = .ok (.aload_n 0, 1) := by decide +kernel
theorem dX1_leftStoreBy_74 : decode cX1_leftStoreBy 74 = .ok (.getfield 29, 3) := by decide +kernel
theorem dX1_leftStoreBy_77 : decode cX1_leftStoreBy 77 = .ok (.iload 4, 2) := by decide +kernel
theorem dX1_leftStoreBy_79 : decode cX1_leftStoreBy 79 = .ok (.iaload, 1) := by decide +kernel
theorem dX1_leftStoreBy_80 : decode cX1_leftStoreBy 80 = .ok (.goto 4, 3) := by decide +kernel
theorem dX1_leftStoreBy_83 : decode cX1_leftStoreBy 83 = .ok (.iconst 0, 1) := by decide +kernel
theorem dX1_leftStoreBy_84 : decode cX1_leftStoreBy 84 = .ok (.isub, 1) := by decide +kernel
theorem dX1_leftStoreBy_85 : decode cX1_leftStoreBy 85 = .ok (.istore_n 3, 1) := by decide +kernel
theorem dX1_leftStoreBy_86 : decode cX1_leftStoreBy 86 = .ok (.iinc 4 1, 3) := by decide +kernel
theorem dX1_leftStoreBy_89 : decode cX1_leftStoreBy 89 = .ok (.goto (-84), 3) := by decide +kernel
theorem dX1_leftStoreBy_92 : decode cX1_leftStoreBy 92 = .ok (.iload_n 3, 1) := by decide +kernel
theorem dX1_leftStoreBy_93 : decode cX1_leftStoreBy 93 = .ok (.ireturn, 1) := by decide +kernel
theorem dX1_isFull_0 : decode cX1_isFull 0 = .ok (.aload_n 0, 1) := by decide +kernel
theorem dX1_isFull_1 : decode cX1_isFull 1 = .ok (.getfield 35, 3) := by decide +kernel
theorem dX1_isFull_4 : decode cX1_isFull 4 = .ok (.sipush 3000, 3) := by decide +kernel
theorem dX1_isFull_7 : decode cX1_isFull 7 = .ok (.if_icmp .lt 7, 3) := by decide +kernel
theorem dX1_isFull_10 : decode cX1_isFull 10 = .ok (.iconst 1, 1) := by decide +kernel
theorem dX1_isFull_11 : decode cX1_isFull 11 = .ok (.goto 4, 3) := by decide +kernel
theorem dX1_isFull_14 : decode cX1_isFull 14 = .ok (.iconst 0, 1) := by decide +kernel
theorem dX1_isFull_15 : decode cX1_isFull 15 = .ok (.ireturn, 1) := by decide +kernel
theorem dX1_move_0 : decode cX1_move 0 = .ok (.aload_n 0, 1) := by decide +kernel
theorem dX1_move_1 : decode cX1_move 1 = .ok (.getfield 35, 3) := by decide +kernel
theorem dX1_move_4 : decode cX1_move 4 = .ok (.sipush 3000, 3) := by decide +kernel
theorem dX1_move_7 : decode cX1_move 7 = .ok (.if_icmp .ge 95, 3) := by decide +kernel
theorem dX1_move_10 : decode cX1_move 10 = .ok (.aload_n 0, 1) := by decide +kernel
theorem dX1_move_11 : decode cX1_move 11 = .ok (.getfield 20, 3) := by decide +kernel
theorem dX1_move_14 : decode cX1_move 14 = .ok (.aload_n 0, 1) := by decide +kernel
theorem dX1_move_15 : decode cX1_move 15 = .ok (.getfield 35, 3) := by decide +kernel
theorem dX1_move_18 : decode cX1_move 18 = .ok (.iload_n 1, 1) := by decide +kernel
theorem dX1_move_19 : decode cX1_move 19 = .ok (.iastore, 1) := by decide +kernel
theorem dX1_move_20 : decode cX1_move 20 = .ok (.aload_n 0, 1) := by decide +kernel
theorem dX1_move_21 : decode cX1_move 21 = .ok (.getfield 23, 3) := by decide +kernel
theorem dX1_move_24 : decode cX1_move 24 = .ok (.aload_n 0, 1) := by decide +kernel
theorem dX1_move_25 : decode cX1_move 25 = .ok (.getfield 35, 3) := by decide +kernel
theorem dX1_move_28 : decode cX1_move 28 = .ok (.iload_n 2, 1) := by decide +kernel
theorem dX1_move_29 : decode cX1_move 29 = .ok (.iastore, 1) := by decide +kernel
theorem dX1_move_30 : decode cX1_move 30 = .ok (.aload_n 0, 1) := by decide +kernel
theorem dX1_move_31 : decode cX1_move 31 = .ok (.getfield 26, 3) := by decide +kernel
theorem dX1_move_34 : decode cX1_move 34 = .ok (.aload_n 0, 1) := by decide +kernel
theorem dX1_move_35 : decode cX1_move 35 = .ok (.getfield 35, 3) := by decide +kernel
theorem dX1_move_38 : decode cX1_move 38 = .ok (.iload_n 3, 1) := by decide +kernel
theorem dX1_move_39 : decode cX1_move 39 = .ok (.iastore, 1) := by decide +kernel
theorem dX1_move_40 : decode cX1_move 40 = .ok (.aload_n 0, 1) := by decide +kernel
theorem dX1_move_41 : decode cX1_move 41 = .ok (.getfield 29, 3) := by decide +kernel
theorem dX1_move_44 : decode cX1_move 44 = .ok (.aload_n 0, 1) := by decide +kernel
theorem dX1_move_45 : decode cX1_move 45 = .ok (.getfield 35, 3) := by decide +kernel
theorem dX1_move_48 : decode cX1_move 48 = .ok (.iload 4, 2) := by decide +kernel
theorem dX1_move_50 : decode cX1_move 50 = .ok (.iastore, 1) := by decide +kernel
theorem dX1_move_51 : decode cX1_move 51 = .ok (.aload_n 0, 1) := by decide +kernel
theorem dX1_move_52 : decode cX1_move 52 = .ok (.getfield 32, 3) := by decide +kernel
theorem dX1_move_55 : decode cX1_move 55 = .ok (.aload_n 0, 1) := by decide +kernel
theorem dX1_move_56 : decode cX1_move 56 = .ok (.getfield 35, 3) := by decide +kernel
theorem dX1_move_59 : decode cX1_move 59 = .ok (.iload 5, 2) := by decide +kernel
theorem dX1_move_61 : decode cX1_move 61 = .ok (.iastore, 1) := by decide +kernel
theorem dX1_move_62 : decode cX1_move 62 = .ok (.aload_n 0, 1) := by decide +kernel
theorem dX1_move_63 : decode cX1_move 63 = .ok (.dup, 1) := by decide +kernel
theorem dX1_move_64 : decode cX1_move 64 = .ok (.getfield 35, 3) := by decide +kernel
theorem dX1_move_67 : decode cX1_move 67 = .ok (.iconst 1, 1) := by decide +kernel
theorem dX1_move_68 : decode cX1_move 68 = .ok (.iadd, 1) := by decide +kernel
theorem dX1_move_69 : decode cX1_move 69 = .ok (.putfield 35, 3) := by decide +kernel
theorem dX1_move_72 : decode cX1_move 72 = .ok (.aload_n 0, 1) := by decide +kernel
theorem dX1_move_73 : decode cX1_move 73 = .ok (.getfield 11, 3) := by decide +kernel
theorem dX1_move_76 : decode cX1_move 76 = .ok (.iload_n 1, 1) := by decide +kernel
theorem dX1_move_77 : decode cX1_move 77 = .ok (.iconst 1, 1) := by decide +kernel
theorem dX1_move_78 : decode cX1_move 78 = .ok (.iadd, 1) := by decide +kernel
theorem dX1_move_79 : decode cX1_move 79 = .ok (.aaload, 1) := by decide +kernel
theorem dX1_move_80 : decode cX1_move 80 = .ok (.iload_n 3, 1) := by decide +kernel
theorem dX1_move_81 : decode cX1_move 81 = .ok (.dup2, 1) := by decide +kernel
theorem dX1_move_82 : decode cX1_move 82 = .ok (.iaload, 1) := by decide +kernel
theorem dX1_move_83 : decode cX1_move 83 = .ok (.iload 4, 2) := by decide +kernel
theorem dX1_move_85 : decode cX1_move 85 = .ok (.isub, 1) := by decide +kernel
theorem dX1_move_86 : decode cX1_move 86 = .ok (.iastore, 1) := by decide +kernel
theorem dX1_move_87 : decode cX1_move 87 = .ok (.aload_n 0, 1) := by decide +kernel
theorem dX1_move_88 : decode cX1_move 88 = .ok (.getfield 11, 3) := by decide +kernel
theorem dX1_move_91 : decode cX1_move 91 = .ok (.iload_n 2, 1) := by decide +kernel
theorem dX1_move_92 : decode cX1_move 92 = .ok (.iconst 1, 1) := by decide +kernel
theorem dX1_move_93 : decode cX1_move 93 = .ok (.iadd, 1) := by decide +kernel
theorem dX1_move_94 : decode cX1_move 94 = .ok (.aaload, 1) := by decide +kernel
theorem dX1_move_95 : decode cX1_move 95 = .ok (.iload_n 3, 1) := by decide +kernel
theorem dX1_move_96 : decode cX1_move 96 = .ok (.dup2, 1) := by decide +kernel
theorem dX1_move_97 : decode cX1_move 97 = .ok (.iaload, 1) := by decide +kernel
theorem dX1_move_98 : decode cX1_move 98 = .ok (.iload 4, 2) := by decide +kernel
theorem dX1_move_100 : decode cX1_move 100 = .ok (.iadd, 1) := by decide +kernel
theorem dX1_move_101 : decode cX1_move 101 = .ok (.iastore, 1) := by decide +kernel
theorem dX1_move_102 : decode cX1_move 102 = .ok (.return_, 1) := by decide +kernel
theorem dX1_undoTo_0 : decode cX1_undoTo 0 = .ok (.aload_n 0, 1) := by decide +kernel
theorem dX1_undoTo_1 : decode cX1_undoTo 1 = .ok (.getfield 35, 3) := by decide +kernel
theorem dX1_undoTo_4 : decode cX1_undoTo 4 = .ok (.iconst 1, 1) := by decide +kernel
theorem dX1_undoTo_5 : decode cX1_undoTo 5 = .ok (.isub, 1) := by decide +kernel
theorem dX1_undoTo_6 : decode cX1_undoTo 6 = .ok (.istore_n 2, 1) := by decide +kernel
theorem dX1_undoTo_7 : decode cX1_undoTo 7 = .ok (.iload_n 2, 1) := by decide +kernel
theorem dX1_undoTo_8 : decode cX1_undoTo 8 = .ok (.iload_n 1, 1) := by decide +kernel
theorem dX1_undoTo_9 : decode cX1_undoTo 9 = .ok (.if_icmp .lt 76, 3) := by decide +kernel
theorem dX1_undoTo_12 : decode cX1_undoTo 12 = .ok (.iload_n 2, 1) := by decide +kernel
theorem dX1_undoTo_13 : decode cX1_undoTo 13 = .ok (.ifCond .lt 72, 3) := by decide +kernel
theorem dX1_undoTo_16 : decode cX1_undoTo 16 = .ok (.aload_n 0, 1) := by decide +kernel
theorem dX1_undoTo_17 : decode cX1_undoTo 17 = .ok (.getfield 11, 3) := by decide +kernel
theorem dX1_undoTo_20 : decode cX1_undoTo 20 = .ok (.aload_n 0, 1) := by decide +kernel
theorem dX1_undoTo_21 : decode cX1_undoTo 21 = .ok (.getfield 23, 3) := by decide +kernel
theorem dX1_undoTo_24 : decode cX1_undoTo 24 = .ok (.iload_n 2, 1) := by decide +kernel
theorem dX1_undoTo_25 : decode cX1_undoTo 25 = .ok (.iaload, 1) := by decide +kernel
theorem dX1_undoTo_26 : decode cX1_undoTo 26 = .ok (.iconst 1, 1) := by decide +kernel
theorem dX1_undoTo_27 : decode cX1_undoTo 27 = .ok (.iadd, 1) := by decide +kernel
theorem dX1_undoTo_28 : decode cX1_undoTo 28 = .ok (.aaload, 1) := by decide +kernel
theorem dX1_undoTo_29 : decode cX1_undoTo 29 = .ok (.aload_n 0, 1) := by decide +kernel
theorem dX1_undoTo_30 : decode cX1_undoTo 30 = .ok (.getfield 26, 3) := by decide +kernel
theorem dX1_undoTo_33 : decode cX1_undoTo 33 = .ok (.iload_n 2, 1) := by decide +kernel
theorem dX1_undoTo_34 : decode cX1_undoTo 34 = .ok (.iaload, 1) := by decide +kernel
theorem dX1_undoTo_35 : decode cX1_undoTo 35 = .ok (.dup2, 1) := by decide +kernel
theorem dX1_undoTo_36 : decode cX1_undoTo 36 = .ok (.iaload, 1) := by decide +kernel
theorem dX1_undoTo_37 : decode cX1_undoTo 37 = .ok (.aload_n 0, 1) := by decide +kernel
theorem dX1_undoTo_38 : decode cX1_undoTo 38 = .ok (.getfield 29, 3) := by decide +kernel
theorem dX1_undoTo_41 : decode cX1_undoTo 41 = .ok (.iload_n 2, 1) := by decide +kernel
theorem dX1_undoTo_42 : decode cX1_undoTo 42 = .ok (.iaload, 1) := by decide +kernel
theorem dX1_undoTo_43 : decode cX1_undoTo 43 = .ok (.isub, 1) := by decide +kernel
theorem dX1_undoTo_44 : decode cX1_undoTo 44 = .ok (.iastore, 1) := by decide +kernel
theorem dX1_undoTo_45 : decode cX1_undoTo 45 = .ok (.aload_n 0, 1) := by decide +kernel
theorem dX1_undoTo_46 : decode cX1_undoTo 46 = .ok (.getfield 11, 3) := by decide +kernel
theorem dX1_undoTo_49 : decode cX1_undoTo 49 = .ok (.aload_n 0, 1) := by decide +kernel
theorem dX1_undoTo_50 : decode cX1_undoTo 50 = .ok (.getfield 20, 3) := by decide +kernel
theorem dX1_undoTo_53 : decode cX1_undoTo 53 = .ok (.iload_n 2, 1) := by decide +kernel
theorem dX1_undoTo_54 : decode cX1_undoTo 54 = .ok (.iaload, 1) := by decide +kernel
theorem dX1_undoTo_55 : decode cX1_undoTo 55 = .ok (.iconst 1, 1) := by decide +kernel
theorem dX1_undoTo_56 : decode cX1_undoTo 56 = .ok (.iadd, 1) := by decide +kernel
theorem dX1_undoTo_57 : decode cX1_undoTo 57 = .ok (.aaload, 1) := by decide +kernel
theorem dX1_undoTo_58 : decode cX1_undoTo 58 = .ok (.aload_n 0, 1) := by decide +kernel
theorem dX1_undoTo_59 : decode cX1_undoTo 59 = .ok (.getfield 26, 3) := by decide +kernel
theorem dX1_undoTo_62 : decode cX1_undoTo 62 = .ok (.iload_n 2, 1) := by decide +kernel
theorem dX1_undoTo_63 : decode cX1_undoTo 63 = .ok (.iaload, 1) := by decide +kernel
theorem dX1_undoTo_64 : decode cX1_undoTo 64 = .ok (.dup2, 1) := by decide +kernel
theorem dX1_undoTo_65 : decode cX1_undoTo 65 = .ok (.iaload, 1) := by decide +kernel
theorem dX1_undoTo_66 : decode cX1_undoTo 66 = .ok (.aload_n 0, 1) := by decide +kernel
theorem dX1_undoTo_67 : decode cX1_undoTo 67 = .ok (.getfield 29, 3) := by decide +kernel
theorem dX1_undoTo_70 : decode cX1_undoTo 70 = .ok (.iload_n 2, 1) := by decide +kernel
theorem dX1_undoTo_71 : decode cX1_undoTo 71 = .ok (.iaload, 1) := by decide +kernel
theorem dX1_undoTo_72 : decode cX1_undoTo 72 = .ok (.iadd, 1) := by decide +kernel
theorem dX1_undoTo_73 : decode cX1_undoTo 73 = .ok (.iastore, 1) := by decide +kernel
theorem dX1_undoTo_74 : decode cX1_undoTo 74 = .ok (.aload_n 0, 1) := by decide +kernel
theorem dX1_undoTo_75 : decode cX1_undoTo 75 = .ok (.iload_n 2, 1) := by decide +kernel
theorem dX1_undoTo_76 : decode cX1_undoTo 76 = .ok (.putfield 35, 3) := by decide +kernel
theorem dX1_undoTo_79 : decode cX1_undoTo 79 = .ok (.iinc 2 (-1), 3) := by decide +kernel
theorem dX1_undoTo_82 : decode cX1_undoTo 82 = .ok (.goto (-75), 3) := by decide +kernel
theorem dX1_undoTo_85 : decode cX1_undoTo 85 = .ok (.return_, 1) := by decide +kernel
theorem dX2_init_0 : decode cX2_init 0 = .ok (.aload_n 0, 1) := by decide +kernel
theorem dX2_init_1 : decode cX2_init 1 = .ok (.invokespecial 7, 3) := by decide +kernel
theorem dX2_init_4 : decode cX2_init 4 = .ok (.aload_n 0, 1) := by decide +kernel
theorem dX2_init_5 : decode cX2_init 5 = .ok (.bipush 90, 2) := by decide +kernel
theorem dX2_init_7 : decode cX2_init 7 = .ok (.newarray .int, 2) := by decide +kernel
theorem dX2_init_9 : decode cX2_init 9 = .ok (.putfield 13, 3) := by decide +kernel
theorem dX2_init_12 : decode cX2_init 12 = .ok (.aload_n 0, 1) := by decide +kernel
theorem dX2_init_13 : decode cX2_init 13 = .ok (.bipush 90, 2) := by decide +kernel
theorem dX2_init_15 : decode cX2_init 15 = .ok (.newarray .int, 2) := by decide +kernel
theorem dX2_init_17 : decode cX2_init 17 = .ok (.putfield 17, 3) := by decide +kernel
theorem dX2_init_20 : decode cX2_init 20 = .ok (.aload_n 0, 1) := by decide +kernel
theorem dX2_init_21 : decode cX2_init 21 = .ok (.bipush 8, 2) := by decide +kernel
theorem dX2_init_23 : decode cX2_init 23 = .ok (.newarray .int, 2) := by decide +kernel
theorem dX2_init_25 : decode cX2_init 25 = .ok (.putfield 20, 3) := by decide +kernel
theorem dX2_init_28 : decode cX2_init 28 = .ok (.aload_n 0, 1) := by decide +kernel
theorem dX2_init_29 : decode cX2_init 29 = .ok (.bipush 8, 2) := by decide +kernel
theorem dX2_init_31 : decode cX2_init 31 = .ok (.newarray .int, 2) := by decide +kernel
theorem dX2_init_33 : decode cX2_init 33 = .ok (.putfield 23, 3) := by decide +kernel
theorem dX2_init_36 : decode cX2_init 36 = .ok (.return_, 1) := by decide +kernel
theorem dX2_clear_0 : decode cX2_clear 0 = .ok (.aload_n 0, 1) := by decide +kernel
theorem dX2_clear_1 : decode cX2_clear 1 = .ok (.iconst 0, 1) := by decide +kernel
theorem dX2_clear_2 : decode cX2_clear 2 = .ok (.putfield 26, 3) := by decide +kernel
theorem dX2_clear_5 : decode cX2_clear 5 = .ok (.aload_n 0, 1) := by decide +kernel
theorem dX2_clear_6 : decode cX2_clear 6 = .ok (.iconst 0, 1) := by decide +kernel
theorem dX2_clear_7 : decode cX2_clear 7 = .ok (.putfield 30, 3) := by decide +kernel
theorem dX2_clear_10 : decode cX2_clear 10 = .ok (.aload_n 0, 1) := by decide +kernel
theorem dX2_clear_11 : decode cX2_clear 11 = .ok (.iconst 0, 1) := by decide +kernel
theorem dX2_clear_12 : decode cX2_clear 12 = .ok (.putfield 33, 3) := by decide +kernel
theorem dX2_clear_15 : decode cX2_clear 15 = .ok (.return_, 1) := by decide +kernel
theorem dX2_bind_0 : decode cX2_bind 0 = .ok (.aload_n 0, 1) := by decide +kernel
theorem dX2_bind_1 : decode cX2_bind 1 = .ok (.getfield 26, 3) := by decide +kernel
theorem dX2_bind_4 : decode cX2_bind 4 = .ok (.bipush 90, 2) := by decide +kernel
theorem dX2_bind_6 : decode cX2_bind 6 = .ok (.if_icmp .ge 33, 3) := by decide +kernel
theorem dX2_bind_9 : decode cX2_bind 9 = .ok (.aload_n 0, 1) := by decide +kernel
theorem dX2_bind_10 : decode cX2_bind 10 = .ok (.getfield 13, 3) := by decide +kernel
theorem dX2_bind_13 : decode cX2_bind 13 = .ok (.aload_n 0, 1) := by decide +kernel
theorem dX2_bind_14 : decode cX2_bind 14 = .ok (.getfield 26, 3) := by decide +kernel
theorem dX2_bind_17 : decode cX2_bind 17 = .ok (.iload_n 1, 1) := by decide +kernel
theorem dX2_bind_18 : decode cX2_bind 18 = .ok (.iastore, 1) := by decide +kernel
theorem dX2_bind_19 : decode cX2_bind 19 = .ok (.aload_n 0, 1) := by decide +kernel
theorem dX2_bind_20 : decode cX2_bind 20 = .ok (.getfield 17, 3) := by decide +kernel
theorem dX2_bind_23 : decode cX2_bind 23 = .ok (.aload_n 0, 1) := by decide +kernel
theorem dX2_bind_24 : decode cX2_bind 24 = .ok (.getfield 26, 3) := by decide +kernel
theorem dX2_bind_27 : decode cX2_bind 27 = .ok (.iload_n 2, 1) := by decide +kernel
theorem dX2_bind_28 : decode cX2_bind 28 = .ok (.iastore, 1) := by decide +kernel
theorem dX2_bind_29 : decode cX2_bind 29 = .ok (.aload_n 0, 1) := by decide +kernel
theorem dX2_bind_30 : decode cX2_bind 30 = .ok (.dup, 1) := by decide +kernel
theorem dX2_bind_31 : decode cX2_bind 31 = .ok (.getfield 26, 3) := by decide +kernel
theorem dX2_bind_34 : decode cX2_bind 34 = .ok (.iconst 1, 1) := by decide +kernel
theorem dX2_bind_35 : decode cX2_bind 35 = .ok (.iadd, 1) := by decide +kernel
theorem dX2_bind_36 : decode cX2_bind 36 = .ok (.putfield 26, 3) := by decide +kernel
theorem dX2_bind_39 : decode cX2_bind 39 = .ok (.return_, 1) := by decide +kernel
theorem dX2_unbindLatest_0 : decode cX2_unbindLatest 0 = .ok (.aload_n 0, 1) := by decide +kernel
theorem dX2_unbindLatest_1 : decode cX2_unbindLatest 1 = .ok (.getfield 26, 3) := by decide +kernel
theorem dX2_unbindLatest_4 : decode cX2_unbindLatest 4 = .ok (.aload_n 0, 1) := by decide +kernel
theorem dX2_unbindLatest_5 : decode cX2_unbindLatest 5 = .ok (.getfield 30, 3) := by decide +kernel
theorem dX2_unbindLatest_8 : decode cX2_unbindLatest 8 = .ok (.if_icmp .le 13, 3) := by decide +kernel
theorem dX2_unbindLatest_11 : decode cX2_unbindLatest 11 = .ok (.aload_n 0, 1) := by decide +kernel
theorem dX2_unbindLatest_12 : decode cX2_unbindLatest 12 = .ok (.dup, 1) := by decide +kernel
theorem dX2_unbindLatest_13 : decode cX2_unbindLatest 13 = .ok (.getfield 26, 3) := by decide +kernel
theorem dX2_unbindLatest_16 : decode cX2_unbindLatest 16 = .ok (.iconst 1, 1) := by decide +kernel
theorem dX2_unbindLatest_17 : decode cX2_unbindLatest 17 = .ok (.isub, 1) := by decide +kernel
theorem dX2_unbindLatest_18 : decode cX2_unbindLatest 18 = .ok (.putfield 26, 3) := by decide +kernel
theorem dX2_unbindLatest_21 : decode cX2_unbindLatest 21 = .ok (.return_, 1) := by decide +kernel
theorem dX2_enter_0 : decode cX2_enter 0 = .ok (.aload_n 0, 1) := by decide +kernel
theorem dX2_enter_1 : decode cX2_enter 1 = .ok (.getfield 30, 3) := by decide +kernel
theorem dX2_enter_4 : decode cX2_enter 4 = .ok (.istore_n 1, 1) := by decide +kernel
theorem dX2_enter_5 : decode cX2_enter 5 = .ok (.aload_n 0, 1) := by decide +kernel
theorem dX2_enter_6 : decode cX2_enter 6 = .ok (.aload_n 0, 1) := by decide +kernel
theorem dX2_enter_7 : decode cX2_enter 7 = .ok (.getfield 26, 3) := by decide +kernel
theorem dX2_enter_10 : decode cX2_enter 10 = .ok (.putfield 30, 3) := by decide +kernel
theorem dX2_enter_13 : decode cX2_enter 13 = .ok (.iload_n 1, 1) := by decide +kernel
theorem dX2_enter_14 : decode cX2_enter 14 = .ok (.ireturn, 1) := by decide +kernel
theorem dX2_leave_0 : decode cX2_leave 0 = .ok (.aload_n 0, 1) := by decide +kernel
theorem dX2_leave_1 : decode cX2_leave 1 = .ok (.aload_n 0, 1) := by decide +kernel
theorem dX2_leave_2 : decode cX2_leave 2 = .ok (.getfield 30, 3) := by decide +kernel
theorem dX2_leave_5 : decode cX2_leave 5 = .ok (.putfield 26, 3) := by decide +kernel
theorem dX2_leave_8 : decode cX2_leave 8 = .ok (.aload_n 0, 1) := by decide +kernel
theorem dX2_leave_9 : decode cX2_leave 9 = .ok (.iload_n 1, 1) := by decide +kernel
theorem dX2_leave_10 : decode cX2_leave 10 = .ok (.putfield 30, 3) := by decide +kernel
theorem dX2_leave_13 : decode cX2_leave 13 = .ok (.return_, 1) := by decide +kernel
theorem dX2_find_0 : decode cX2_find 0 = .ok (.aload_n 0, 1) := by decide +kernel
theorem dX2_find_1 : decode cX2_find 1 = .ok (.getfield 26, 3) := by decide +kernel
theorem dX2_find_4 : decode cX2_find 4 = .ok (.iconst 1, 1) := by decide +kernel
theorem dX2_find_5 : decode cX2_find 5 = .ok (.isub, 1) := by decide +kernel
theorem dX2_find_6 : decode cX2_find 6 = .ok (.istore_n 2, 1) := by decide +kernel
theorem dX2_find_7 : decode cX2_find 7 = .ok (.iload_n 2, 1) := by decide +kernel
theorem dX2_find_8 : decode cX2_find 8 = .ok (.aload_n 0, 1) := by decide +kernel
theorem dX2_find_9 : decode cX2_find 9 = .ok (.getfield 30, 3) := by decide +kernel
theorem dX2_find_12 : decode cX2_find 12 = .ok (.if_icmp .lt 25, 3) := by decide +kernel
theorem dX2_find_15 : decode cX2_find 15 = .ok (.iload_n 2, 1) := by decide +kernel
theorem dX2_find_16 : decode cX2_find 16 = .ok (.ifCond .lt 21, 3) := by decide +kernel
theorem dX2_find_19 : decode cX2_find 19 = .ok (.aload_n 0, 1) := by decide +kernel
theorem dX2_find_20 : decode cX2_find 20 = .ok (.getfield 13, 3) := by decide +kernel
theorem dX2_find_23 : decode cX2_find 23 = .ok (.iload_n 2, 1) := by decide +kernel
theorem dX2_find_24 : decode cX2_find 24 = .ok (.iaload, 1) := by decide +kernel
theorem dX2_find_25 : decode cX2_find 25 = .ok (.iload_n 1, 1) := by decide +kernel
theorem dX2_find_26 : decode cX2_find 26 = .ok (.if_icmp .ne 5, 3) := by decide +kernel
theorem dX2_find_29 : decode cX2_find 29 = .ok (.iload_n 2, 1) := by decide +kernel
theorem dX2_find_30 : decode cX2_find 30 = .ok (.ireturn, 1) := by decide +kernel
theorem dX2_find_31 : decode cX2_find 31 = .ok (.iinc 2 (-1), 3) := by decide +kernel
theorem dX2_find_34 : decode cX2_find 34 = .ok (.goto (-27), 3) := by decide +kernel
theorem dX2_find_37 : decode cX2_find 37 = .ok (.iconst (-1), 1) := by decide +kernel
theorem dX2_find_38 : decode cX2_find 38 = .ok (.ireturn, 1) := by decide +kernel
theorem dX2_valueAt_0 : decode cX2_valueAt 0 = .ok (.iload_n 1, 1) := by decide +kernel
theorem dX2_valueAt_1 : decode cX2_valueAt 1 = .ok (.iconst 0, 1) := by decide +kernel
theorem dX2_valueAt_2 : decode cX2_valueAt 2 = .ok (.aload_n 0, 1) := by decide +kernel
theorem dX2_valueAt_3 : decode cX2_valueAt 3 = .ok (.getfield 26, 3) := by decide +kernel
theorem dX2_valueAt_6 : decode cX2_valueAt 6 = .ok (.iconst 1, 1) := by decide +kernel
theorem dX2_valueAt_7 : decode cX2_valueAt 7 = .ok (.isub, 1) := by decide +kernel
theorem dX2_valueAt_8 : decode cX2_valueAt 8 = .ok (.invokestatic 36, 3) := by decide +kernel
theorem dX2_valueAt_11 : decode cX2_valueAt 11 = .ok (.ifCond .eq 12, 3) := by decide +kernel
theorem dX2_valueAt_14 : decode cX2_valueAt 14 = .ok (.aload_n 0, 1) := by decide +kernel
theorem dX2_valueAt_15 : decode cX2_valueAt 15 = .ok (.getfield 17, 3) := by decide +kernel
theorem dX2_valueAt_18 : decode cX2_valueAt 18 = .ok (.iload_n 1, 1) := by decide +kernel
theorem dX2_valueAt_19 : decode cX2_valueAt 19 = .ok (.iaload, 1) := by decide +kernel
theorem dX2_valueAt_20 : decode cX2_valueAt 20 = .ok (.goto 4, 3) := by decide +kernel
theorem dX2_valueAt_23 : decode cX2_valueAt 23 = .ok (.iconst 0, 1) := by decide +kernel
theorem dX2_valueAt_24 : decode cX2_valueAt 24 = .ok (.ireturn, 1) := by decide +kernel
theorem dX2_setAt_0 : decode cX2_setAt 0 = .ok (.iload_n 1, 1) := by decide +kernel
theorem dX2_setAt_1 : decode cX2_setAt 1 = .ok (.iconst 0, 1) := by decide +kernel
theorem dX2_setAt_2 : decode cX2_setAt 2 = .ok (.aload_n 0, 1) := by decide +kernel
theorem dX2_setAt_3 : decode cX2_setAt 3 = .ok (.getfield 26, 3) := by decide +kernel
theorem dX2_setAt_6 : decode cX2_setAt 6 = .ok (.iconst 1, 1) := by decide +kernel
theorem dX2_setAt_7 : decode cX2_setAt 7 = .ok (.isub, 1) := by decide +kernel
theorem dX2_setAt_8 : decode cX2_setAt 8 = .ok (.invokestatic 36, 3) := by decide +kernel
theorem dX2_setAt_11 : decode cX2_setAt 11 = .ok (.ifCond .eq 10, 3) := by decide +kernel
theorem dX2_setAt_14 : decode cX2_setAt 14 = .ok (.aload_n 0, 1) := by decide +kernel
theorem dX2_setAt_15 : decode cX2_setAt 15 = .ok (.getfield 17, 3) := by decide +kernel
theorem dX2_setAt_18 : decode cX2_setAt 18 = .ok (.iload_n 1, 1) := by decide +kernel
theorem dX2_setAt_19 : decode cX2_setAt 19 = .ok (.iload_n 2, 1) := by decide +kernel
theorem dX2_setAt_20 : decode cX2_setAt 20 = .ok (.iastore, 1) := by decide +kernel
theorem dX2_setAt_21 : decode cX2_setAt 21 = .ok (.return_, 1) := by decide +kernel
theorem dX2_definitionOf_0 : decode cX2_definitionOf 0 = .ok (.iconst 0, 1) := by decide +kernel
theorem dX2_definitionOf_1 : decode cX2_definitionOf 1 = .ok (.istore_n 2, 1) := by decide +kernel
theorem dX2_definitionOf_2 : decode cX2_definitionOf 2 = .ok (.iload_n 2, 1) := by decide +kernel
theorem dX2_definitionOf_3 : decode cX2_definitionOf 3 = .ok (.aload_n 0, 1) := by decide +kernel
theorem dX2_definitionOf_4 : decode cX2_definitionOf 4 = .ok (.getfield 33, 3) := by decide +kernel
theorem dX2_definitionOf_7 : decode cX2_definitionOf 7 = .ok (.if_icmp .ge 26, 3) := by decide +kernel
theorem dX2_definitionOf_10 : decode cX2_definitionOf 10 = .ok (.aload_n 0, 1) := by decide +kernel
theorem dX2_definitionOf_11 : decode cX2_definitionOf 11 = .ok (.getfield 20, 3) := by decide +kernel
theorem dX2_definitionOf_14 : decode cX2_definitionOf 14 = .ok (.iload_n 2, 1) := by decide +kernel
theorem dX2_definitionOf_15 : decode cX2_definitionOf 15 = .ok (.iaload, 1) := by decide +kernel
theorem dX2_definitionOf_16 : decode cX2_definitionOf 16 = .ok (.iload_n 1, 1) := by decide +kernel
theorem dX2_definitionOf_17 : decode cX2_definitionOf 17 = .ok (.if_icmp .ne 10, 3) := by decide +kernel
theorem dX2_definitionOf_20 : decode cX2_definitionOf 20 = .ok (.aload_n 0, 1) := by decide +kernel
theorem dX2_definitionOf_21 : decode cX2_definitionOf 21 = .ok (.getfield 23, 3) := by decide +kernel
theorem dX2_definitionOf_24 : decode cX2_definitionOf 24 = .ok (.iload_n 2, 1) := by decide +kernel
theorem dX2_definitionOf_25 : decode cX2_definitionOf 25 = .ok (.iaload, 1) := by decide +kernel
theorem dX2_definitionOf_26 : decode cX2_definitionOf 26 = .ok (.ireturn, 1) := by decide +kernel
theorem dX2_definitionOf_27 : decode cX2_definitionOf 27 = .ok (.iinc 2 1, 3) := by decide +kernel
theorem dX2_definitionOf_30 : decode cX2_definitionOf 30 = .ok (.goto (-28), 3) := by decide +kernel
theorem dX2_definitionOf_33 : decode cX2_definitionOf 33 = .ok (.iconst (-1), 1) := by decide +kernel
theorem dX2_definitionOf_34 : decode cX2_definitionOf 34 = .ok (.ireturn, 1) := by decide +kernel
theorem dX2_defines_0 : decode cX2_defines 0 = .ok (.iconst 0, 1) := by decide +kernel
theorem dX2_defines_1 : decode cX2_defines 1 = .ok (.istore_n 3, 1) := by decide +kernel
theorem dX2_defines_2 : decode cX2_defines 2 = .ok (.iload_n 3, 1) := by decide +kernel
theorem dX2_defines_3 : decode cX2_defines 3 = .ok (.aload_n 0, 1) := by decide +kernel
theorem dX2_defines_4 : decode cX2_defines 4 = .ok (.getfield 33, 3) := by decide +kernel
theorem dX2_defines_7 : decode cX2_defines 7 = .ok (.if_icmp .ge 19, 3) := by decide +kernel
theorem dX2_defines_10 : decode cX2_defines 10 = .ok (.aload_n 0, 1) := by decide +kernel
theorem dX2_defines_11 : decode cX2_defines 11 = .ok (.getfield 20, 3) := by decide +kernel
theorem dX2_defines_14 : decode cX2_defines 14 = .ok (.iload_n 3, 1) := by decide +kernel
theorem dX2_defines_15 : decode cX2_defines 15 = .ok (.iaload, 1) := by decide +kernel
theorem dX2_defines_16 : decode cX2_defines 16 = .ok (.iload_n 1, 1) := by decide +kernel
theorem dX2_defines_17 : decode cX2_defines 17 = .ok (.if_icmp .eq 9, 3) := by decide +kernel
theorem dX2_defines_20 : decode cX2_defines 20 = .ok (.iinc 3 1, 3) := by decide +kernel
theorem dX2_defines_23 : decode cX2_defines 23 = .ok (.goto (-21), 3) := by decide +kernel
theorem dX2_defines_26 : decode cX2_defines 26 = .ok (.iload_n 3, 1) := by decide +kernel
theorem dX2_defines_27 : decode cX2_defines 27 = .ok (.bipush 8, 2) := by decide +kernel
theorem dX2_defines_29 : decode cX2_defines 29 = .ok (.if_icmp .lt 5, 3) := by decide +kernel
theorem dX2_defines_32 : decode cX2_defines 32 = .ok (.iconst 0, 1) := by decide +kernel
theorem dX2_defines_33 : decode cX2_defines 33 = .ok (.ireturn, 1) := by decide +kernel
theorem dX2_defines_34 : decode cX2_defines 34 = .ok (.aload_n 0, 1) := by decide +kernel
theorem dX2_defines_35 : decode cX2_defines 35 = .ok (.getfield 20, 3) := by decide +kernel
theorem dX2_defines_38 : decode cX2_defines 38 = .ok (.iload_n 3, 1) := by decide +kernel
theorem dX2_defines_39 : decode cX2_defines 39 = .ok (.iload_n 1, 1) := by decide +kernel
theorem dX2_defines_40 : decode cX2_defines 40 = .ok (.iastore, 1) := by decide +kernel
theorem dX2_defines_41 : decode cX2_defines 41 = .ok (.aload_n 0, 1) := by decide +kernel
theorem dX2_defines_42 : decode cX2_defines 42 = .ok (.getfield 23, 3) := by decide +kernel
theorem dX2_defines_45 : decode cX2_defines 45 = .ok (.iload_n 3, 1) := by decide +kernel
theorem dX2_defines_46 : decode cX2_defines 46 = .ok (.iload_n 2, 1) := by decide +kernel
theorem dX2_defines_47 : decode cX2_defines 47 = .ok (.iastore, 1) := by decide +kernel
theorem dX2_defines_48 : decode cX2_defines 48 = .ok (.aload_n 0, 1) := by decide +kernel
theorem dX2_defines_49 : decode cX2_defines 49 = .ok (.aload_n 0, 1) := by decide +kernel
theorem dX2_defines_50 : decode cX2_defines 50 = .ok (.getfield 33, 3) := by decide +kernel
theorem dX2_defines_53 : decode cX2_defines 53 = .ok (.iload_n 3, 1) := by decide +kernel
theorem dX2_defines_54 : decode cX2_defines 54 = .ok (.iconst 1, 1) := by decide +kernel
theorem dX2_defines_55 : decode cX2_defines 55 = .ok (.iadd, 1) := by decide +kernel
theorem dX2_defines_56 : decode cX2_defines 56 = .ok (.invokestatic 40, 3) := by decide +kernel
theorem dX2_defines_59 : decode cX2_defines 59 = .ok (.putfield 33, 3) := by decide +kernel
theorem dX2_defines_62 : decode cX2_defines 62 = .ok (.iconst 1, 1) := by decide +kernel
theorem dX2_defines_63 : decode cX2_defines 63 = .ok (.ireturn, 1) := by decide +kernel
theorem dX3_init_0 : decode cX3_init 0 = .ok (.aload_n 0, 1) := by decide +kernel
theorem dX3_init_1 : decode cX3_init 1 = .ok (.invokespecial 1, 3) := by decide +kernel
theorem dX3_init_4 : decode cX3_init 4 = .ok (.return_, 1) := by decide +kernel
theorem dX4_init_0 : decode cX4_init 0 = .ok (.aload_n 0, 1) := by decide +kernel
theorem dX4_init_1 : decode cX4_init 1 = .ok (.invokespecial 3, 3) := by decide +kernel
theorem dX4_init_4 : decode cX4_init 4 = .ok (.aload_n 0, 1) := by decide +kernel
theorem dX4_init_5 : decode cX4_init 5 = .ok (.bipush 60, 2) := by decide +kernel
theorem dX4_init_7 : decode cX4_init 7 = .ok (.anewarray 11, 3) := by decide +kernel
theorem dX4_init_10 : decode cX4_init 10 = .ok (.putfield 13, 3) := by decide +kernel
theorem dX4_init_13 : decode cX4_init 13 = .ok (.iconst 0, 1) := by decide +kernel
theorem dX4_init_14 : decode cX4_init 14 = .ok (.istore_n 1, 1) := by decide +kernel
theorem dX4_init_15 : decode cX4_init 15 = .ok (.iload_n 1, 1) := by decide +kernel
theorem dX4_init_16 : decode cX4_init 16 = .ok (.bipush 60, 2) := by decide +kernel
theorem dX4_init_18 : decode cX4_init 18 = .ok (.if_icmp .ge 22, 3) := by decide +kernel
theorem dX4_init_21 : decode cX4_init 21 = .ok (.aload_n 0, 1) := by decide +kernel
theorem dX4_init_22 : decode cX4_init 22 = .ok (.getfield 13, 3) := by decide +kernel
theorem dX4_init_25 : decode cX4_init 25 = .ok (.iload_n 1, 1) := by decide +kernel
theorem dX4_init_26 : decode cX4_init 26 = .ok (.new 11, 3) := by decide +kernel
theorem dX4_init_29 : decode cX4_init 29 = .ok (.dup, 1) := by decide +kernel
theorem dX4_init_30 : decode cX4_init 30 = .ok (.invokespecial 17, 3) := by decide +kernel
theorem dX4_init_33 : decode cX4_init 33 = .ok (.aastore, 1) := by decide +kernel
theorem dX4_init_34 : decode cX4_init 34 = .ok (.iinc 1 1, 3) := by decide +kernel
theorem dX4_init_37 : decode cX4_init 37 = .ok (.goto (-22), 3) := by decide +kernel
theorem dX4_init_40 : decode cX4_init 40 = .ok (.return_, 1) := by decide +kernel
theorem dX4_areFull_0 : decode cX4_areFull 0 = .ok (.aload_n 0, 1) := by decide +kernel
theorem dX4_areFull_1 : decode cX4_areFull 1 = .ok (.getfield 18, 3) := by decide +kernel
theorem dX4_areFull_4 : decode cX4_areFull 4 = .ok (.bipush 60, 2) := by decide +kernel
theorem dX4_areFull_6 : decode cX4_areFull 6 = .ok (.if_icmp .lt 7, 3) := by decide +kernel
theorem dX4_areFull_9 : decode cX4_areFull 9 = .ok (.iconst 1, 1) := by decide +kernel
theorem dX4_areFull_10 : decode cX4_areFull 10 = .ok (.goto 4, 3) := by decide +kernel
theorem dX4_areFull_13 : decode cX4_areFull 13 = .ok (.iconst 0, 1) := by decide +kernel
theorem dX4_areFull_14 : decode cX4_areFull 14 = .ok (.ireturn, 1) := by decide +kernel
theorem dX4_add_0 : decode cX4_add 0 = .ok (.aload_n 0, 1) := by decide +kernel
theorem dX4_add_1 : decode cX4_add 1 = .ok (.invokevirtual 22, 3) := by decide +kernel
theorem dX4_add_4 : decode cX4_add 4 = .ok (.ifCond .eq 5, 3) := by decide +kernel
theorem dX4_add_7 : decode cX4_add 7 = .ok (.iconst (-1), 1) := by decide +kernel
theorem dX4_add_8 : decode cX4_add 8 = .ok (.ireturn, 1) := by decide +kernel
theorem dX4_add_9 : decode cX4_add 9 = .ok (.aload_n 0, 1) := by decide +kernel
theorem dX4_add_10 : decode cX4_add 10 = .ok (.getfield 13, 3) := by decide +kernel
theorem dX4_add_13 : decode cX4_add 13 = .ok (.aload_n 0, 1) := by decide +kernel
theorem dX4_add_14 : decode cX4_add 14 = .ok (.getfield 18, 3) := by decide +kernel
theorem dX4_add_17 : decode cX4_add 17 = .ok (.aaload, 1) := by decide +kernel
theorem dX4_add_18 : decode cX4_add 18 = .ok (.astore 5, 2) := by decide +kernel
theorem dX4_add_20 : decode cX4_add 20 = .ok (.aload 5, 2) := by decide +kernel
theorem dX4_add_22 : decode cX4_add 22 = .ok (.iload_n 1, 1) := by decide +kernel
theorem dX4_add_23 : decode cX4_add 23 = .ok (.putfield 26, 3) := by decide +kernel
theorem dX4_add_26 : decode cX4_add 26 = .ok (.aload 5, 2) := by decide +kernel
theorem dX4_add_28 : decode cX4_add 28 = .ok (.iload_n 2, 1) := by decide +kernel
theorem dX4_add_29 : decode cX4_add 29 = .ok (.putfield 29, 3) := by decide +kernel
theorem dX4_add_32 : decode cX4_add 32 = .ok (.aload 5, 2) := by decide +kernel
theorem dX4_add_34 : decode cX4_add 34 = .ok (.aload_n 0, 1) := by decide +kernel
theorem dX4_add_35 : decode cX4_add 35 = .ok (.getfield 32, 3) := by decide +kernel
theorem dX4_add_38 : decode cX4_add 38 = .ok (.iload_n 3, 1) := by decide +kernel
theorem dX4_add_39 : decode cX4_add 39 = .ok (.iadd, 1) := by decide +kernel
theorem dX4_add_40 : decode cX4_add 40 = .ok (.putfield 35, 3) := by decide +kernel
theorem dX4_add_43 : decode cX4_add 43 = .ok (.aload 5, 2) := by decide +kernel
theorem dX4_add_45 : decode cX4_add 45 = .ok (.iload 4, 2) := by decide +kernel
theorem dX4_add_47 : decode cX4_add 47 = .ok (.putfield 36, 3) := by decide +kernel
theorem dX4_add_50 : decode cX4_add 50 = .ok (.aload_n 0, 1) := by decide +kernel
theorem dX4_add_51 : decode cX4_add 51 = .ok (.dup, 1) := by decide +kernel
theorem dX4_add_52 : decode cX4_add 52 = .ok (.getfield 18, 3) := by decide +kernel
theorem dX4_add_55 : decode cX4_add 55 = .ok (.iconst 1, 1) := by decide +kernel
theorem dX4_add_56 : decode cX4_add 56 = .ok (.iadd, 1) := by decide +kernel
theorem dX4_add_57 : decode cX4_add 57 = .ok (.putfield 18, 3) := by decide +kernel
theorem dX4_add_60 : decode cX4_add 60 = .ok (.aload_n 0, 1) := by decide +kernel
theorem dX4_add_61 : decode cX4_add 61 = .ok (.getfield 18, 3) := by decide +kernel
theorem dX4_add_64 : decode cX4_add 64 = .ok (.iconst 1, 1) := by decide +kernel
theorem dX4_add_65 : decode cX4_add 65 = .ok (.isub, 1) := by decide +kernel
theorem dX4_add_66 : decode cX4_add 66 = .ok (.ireturn, 1) := by decide +kernel
theorem dX4_undoFrom_0 : decode cX4_undoFrom 0 = .ok (.iload_n 1, 1) := by decide +kernel
theorem dX4_undoFrom_1 : decode cX4_undoFrom 1 = .ok (.istore_n 2, 1) := by decide +kernel
theorem dX4_undoFrom_2 : decode cX4_undoFrom 2 = .ok (.iload_n 2, 1) := by decide +kernel
theorem dX4_undoFrom_3 : decode cX4_undoFrom 3 = .ok (.aload_n 0, 1) := by decide +kernel
theorem dX4_undoFrom_4 : decode cX4_undoFrom 4 = .ok (.getfield 18, 3) := by decide +kernel
theorem dX4_undoFrom_7 : decode cX4_undoFrom 7 = .ok (.if_icmp .ge 19, 3) := by decide +kernel
theorem dX4_undoFrom_10 : decode cX4_undoFrom 10 = .ok (.aload_n 0, 1) := by decide +kernel
theorem dX4_undoFrom_11 : decode cX4_undoFrom 11 = .ok (.getfield 13, 3) := by decide +kernel
theorem dX4_undoFrom_14 : decode cX4_undoFrom 14 = .ok (.iload_n 2, 1) := by decide +kernel
theorem dX4_undoFrom_15 : decode cX4_undoFrom 15 = .ok (.aaload, 1) := by decide +kernel
theorem dX4_undoFrom_16 : decode cX4_undoFrom 16 = .ok (.iconst 4, 1) := by decide +kernel
theorem dX4_undoFrom_17 : decode cX4_undoFrom 17 = .ok (.putfield 39, 3) := by decide +kernel
theorem dX4_undoFrom_20 : decode cX4_undoFrom 20 = .ok (.iinc 2 1, 3) := by decide +kernel
theorem dX4_undoFrom_23 : decode cX4_undoFrom 23 = .ok (.goto (-21), 3) := by decide +kernel
theorem dX4_undoFrom_26 : decode cX4_undoFrom 26 = .ok (.return_, 1) := by decide +kernel
theorem dX5_init_0 : decode cX5_init 0 = .ok (.aload_n 0, 1) := by decide +kernel
theorem dX5_init_1 : decode cX5_init 1 = .ok (.invokespecial 3, 3) := by decide +kernel
theorem dX5_init_4 : decode cX5_init 4 = .ok (.aload_n 0, 1) := by decide +kernel
theorem dX5_init_5 : decode cX5_init 5 = .ok (.iconst 4, 1) := by decide +kernel
theorem dX5_init_6 : decode cX5_init 6 = .ok (.newarray .int, 2) := by decide +kernel
theorem dX5_init_8 : decode cX5_init 8 = .ok (.putfield 9, 3) := by decide +kernel
theorem dX5_init_11 : decode cX5_init 11 = .ok (.aload_n 0, 1) := by decide +kernel
theorem dX5_init_12 : decode cX5_init 12 = .ok (.iconst 4, 1) := by decide +kernel
theorem dX5_init_13 : decode cX5_init 13 = .ok (.newarray .int, 2) := by decide +kernel
theorem dX5_init_15 : decode cX5_init 15 = .ok (.putfield 15, 3) := by decide +kernel
theorem dX5_init_18 : decode cX5_init 18 = .ok (.aload_n 0, 1) := by decide +kernel
theorem dX5_init_19 : decode cX5_init 19 = .ok (.iconst 4, 1) := by decide +kernel
theorem dX5_init_20 : decode cX5_init 20 = .ok (.newarray .boolean, 2) := by decide +kernel
theorem dX5_init_22 : decode cX5_init 22 = .ok (.putfield 18, 3) := by decide +kernel
theorem dX5_init_25 : decode cX5_init 25 = .ok (.aload_n 0, 1) := by decide +kernel
theorem dX5_init_26 : decode cX5_init 26 = .ok (.iconst 4, 1) := by decide +kernel
theorem dX5_init_27 : decode cX5_init 27 = .ok (.iconst 4, 1) := by decide +kernel
theorem dX5_init_28 : decode cX5_init 28 = .ok (.multianewarray 22 2, 4) := by decide +kernel
theorem dX5_init_32 : decode cX5_init 32 = .ok (.putfield 24, 3) := by decide +kernel
theorem dX5_init_35 : decode cX5_init 35 = .ok (.aload_n 0, 1) := by decide +kernel
theorem dX5_init_36 : decode cX5_init 36 = .ok (.iconst 4, 1) := by decide +kernel
theorem dX5_init_37 : decode cX5_init 37 = .ok (.iconst 4, 1) := by decide +kernel
theorem dX5_init_38 : decode cX5_init 38 = .ok (.multianewarray 22 2, 4) := by decide +kernel
theorem dX5_init_42 : decode cX5_init 42 = .ok (.putfield 27, 3) := by decide +kernel
theorem dX5_init_45 : decode cX5_init 45 = .ok (.aload_n 0, 1) := by decide +kernel
theorem dX5_init_46 : decode cX5_init 46 = .ok (.bipush 10, 2) := by decide +kernel
theorem dX5_init_48 : decode cX5_init 48 = .ok (.putfield 30, 3) := by decide +kernel
theorem dX5_init_51 : decode cX5_init 51 = .ok (.return_, 1) := by decide +kernel
theorem dX5_fuelOf_0 : decode cX5_fuelOf 0 = .ok (.aload_n 0, 1) := by decide +kernel
theorem dX5_fuelOf_1 : decode cX5_fuelOf 1 = .ok (.getfield 9, 3) := by decide +kernel
theorem dX5_fuelOf_4 : decode cX5_fuelOf 4 = .ok (.iload_n 1, 1) := by decide +kernel
theorem dX5_fuelOf_5 : decode cX5_fuelOf 5 = .ok (.iaload, 1) := by decide +kernel
theorem dX5_fuelOf_6 : decode cX5_fuelOf 6 = .ok (.ireturn, 1) := by decide +kernel
theorem dX5_rationsOf_0 : decode cX5_rationsOf 0 = .ok (.aload_n 0, 1) := by decide +kernel
theorem dX5_rationsOf_1 : decode cX5_rationsOf 1 = .ok (.getfield 15, 3) := by decide +kernel
theorem dX5_rationsOf_4 : decode cX5_rationsOf 4 = .ok (.iload_n 1, 1) := by decide +kernel
theorem dX5_rationsOf_5 : decode cX5_rationsOf 5 = .ok (.iaload, 1) := by decide +kernel
theorem dX5_rationsOf_6 : decode cX5_rationsOf 6 = .ok (.ireturn, 1) := by decide +kernel
theorem dX5_debtOf_0 : decode cX5_debtOf 0 = .ok (.aload_n 0, 1) := by decide +kernel
theorem dX5_debtOf_1 : decode cX5_debtOf 1 = .ok (.getfield 24, 3) := by decide +kernel
theorem dX5_debtOf_4 : decode cX5_debtOf 4 = .ok (.iload_n 1, 1) := by decide +kernel
theorem dX5_debtOf_5 : decode cX5_debtOf 5 = .ok (.aaload, 1) := by decide +kernel
theorem dX5_debtOf_6 : decode cX5_debtOf 6 = .ok (.iload_n 2, 1) := by decide +kernel
theorem dX5_debtOf_7 : decode cX5_debtOf 7 = .ok (.iaload, 1) := by decide +kernel
theorem dX5_debtOf_8 : decode cX5_debtOf 8 = .ok (.ireturn, 1) := by decide +kernel
theorem dX5_addRations_0 : decode cX5_addRations 0 = .ok (.aload_n 0, 1) := by decide +kernel
theorem dX5_addRations_1 : decode cX5_addRations 1 = .ok (.getfield 15, 3) := by decide +kernel
theorem dX5_addRations_4 : decode cX5_addRations 4 = .ok (.iload_n 1, 1) := by decide +kernel
theorem dX5_addRations_5 : decode cX5_addRations 5 = .ok (.dup2, 1) := by decide +kernel
theorem dX5_addRations_6 : decode cX5_addRations 6 = .ok (.iaload, 1) := by decide +kernel
theorem dX5_addRations_7 : decode cX5_addRations 7 = .ok (.iload_n 2, 1) := by decide +kernel
theorem dX5_addRations_8 : decode cX5_addRations 8 = .ok (.iadd, 1) := by decide +kernel
theorem dX5_addRations_9 : decode cX5_addRations 9 = .ok (.iastore, 1) := by decide +kernel
theorem dX5_addRations_10 : decode cX5_addRations 10 = .ok (.aload_n 0, 1) := by decide +kernel
theorem dX5_addRations_11 : decode cX5_addRations 11 = .ok (.getfield 15, 3) := by decide +kernel
theorem dX5_addRations_14 : decode cX5_addRations 14 = .ok (.iload_n 1, 1) := by decide +kernel
theorem dX5_addRations_15 : decode cX5_addRations 15 = .ok (.iaload, 1) := by decide +kernel
theorem dX5_addRations_16 : decode cX5_addRations 16 = .ok (.ireturn, 1) := by decide +kernel
theorem dX5_changeTariff_0 : decode cX5_changeTariff 0 = .ok (.aload_n 0, 1) := by decide +kernel
theorem dX5_changeTariff_1 : decode cX5_changeTariff 1 = .ok (.getfield 30, 3) := by decide +kernel
theorem dX5_changeTariff_4 : decode cX5_changeTariff 4 = .ok (.istore_n 2, 1) := by decide +kernel
theorem dX5_changeTariff_5 : decode cX5_changeTariff 5 = .ok (.aload_n 0, 1) := by decide +kernel
theorem dX5_changeTariff_6 : decode cX5_changeTariff 6 = .ok (.iload_n 1, 1) := by decide +kernel
theorem dX5_changeTariff_7 : decode cX5_changeTariff 7 = .ok (.putfield 30, 3) := by decide +kernel
theorem dX5_changeTariff_10 : decode cX5_changeTariff 10 = .ok (.iload_n 2, 1) := by decide +kernel
theorem dX5_changeTariff_11 : decode cX5_changeTariff 11 = .ok (.ireturn, 1) := by decide +kernel
theorem dX5_changeBuying_0 : decode cX5_changeBuying 0 = .ok (.aload_n 0, 1) := by decide +kernel
theorem dX5_changeBuying_1 : decode cX5_changeBuying 1 = .ok (.getfield 18, 3) := by decide +kernel
theorem dX5_changeBuying_4 : decode cX5_changeBuying 4 = .ok (.iload_n 1, 1) := by decide +kernel
theorem dX5_changeBuying_5 : decode cX5_changeBuying 5 = .ok (.baload, 1) := by decide +kernel
theorem dX5_changeBuying_6 : decode cX5_changeBuying 6 = .ok (.istore_n 3, 1) := by decide +kernel
theorem dX5_changeBuying_7 : decode cX5_changeBuying 7 = .ok (.aload_n 0, 1) := by decide +kernel
theorem dX5_changeBuying_8 : decode cX5_changeBuying 8 = .ok (.getfield 18, 3) := by decide +kernel
theorem dX5_changeBuying_11 : decode cX5_changeBuying 11 = .ok (.iload_n 1, 1) := by decide +kernel
theorem dX5_changeBuying_12 : decode cX5_changeBuying 12 = .ok (.iload_n 2, 1) := by decide +kernel
theorem dX5_changeBuying_13 : decode cX5_changeBuying 13 = .ok (.bastore, 1) := by decide +kernel
theorem dX5_changeBuying_14 : decode cX5_changeBuying 14 = .ok (.iload_n 3, 1) := by decide +kernel
theorem dX5_changeBuying_15 : decode cX5_changeBuying 15 = .ok (.ireturn, 1) := by decide +kernel
theorem dX5_changeCredit_0 : decode cX5_changeCredit 0 = .ok (.aload_n 0, 1) := by decide +kernel
theorem dX5_changeCredit_1 : decode cX5_changeCredit 1 = .ok (.getfield 27, 3) := by decide +kernel
theorem dX5_changeCredit_4 : decode cX5_changeCredit 4 = .ok (.iload_n 2, 1) := by decide +kernel
theorem dX5_changeCredit_5 : decode cX5_changeCredit 5 = .ok (.aaload, 1) := by decide +kernel
theorem dX5_changeCredit_6 : decode cX5_changeCredit 6 = .ok (.iload_n 1, 1) := by decide +kernel
theorem dX5_changeCredit_7 : decode cX5_changeCredit 7 = .ok (.iaload, 1) := by decide +kernel
theorem dX5_changeCredit_8 : decode cX5_changeCredit 8 = .ok (.istore 4, 2) := by decide +kernel
theorem dX5_changeCredit_10 : decode cX5_changeCredit 10 = .ok (.aload_n 0, 1) := by decide +kernel
theorem dX5_changeCredit_11 : decode cX5_changeCredit 11 = .ok (.getfield 27, 3) := by decide +kernel
theorem dX5_changeCredit_14 : decode cX5_changeCredit 14 = .ok (.iload_n 2, 1) := by decide +kernel
theorem dX5_changeCredit_15 : decode cX5_changeCredit 15 = .ok (.aaload, 1) := by decide +kernel
theorem dX5_changeCredit_16 : decode cX5_changeCredit 16 = .ok (.iload_n 1, 1) := by decide +kernel
theorem dX5_changeCredit_17 : decode cX5_changeCredit 17 = .ok (.iload_n 3, 1) := by decide +kernel
theorem dX5_changeCredit_18 : decode cX5_changeCredit 18 = .ok (.iastore, 1) := by decide +kernel
theorem dX5_changeCredit_19 : decode cX5_changeCredit 19 = .ok (.iload 4, 2) := by decide +kernel
theorem dX5_changeCredit_21 : decode cX5_changeCredit 21 = .ok (.ireturn, 1) := by decide +kernel
theorem dX5_buyFuel_0 : decode cX5_buyFuel 0 = .ok (.iload_n 2, 1) := by decide +kernel
theorem dX5_buyFuel_1 : decode cX5_buyFuel 1 = .ok (.aload_n 0, 1) := by decide +kernel
theorem dX5_buyFuel_2 : decode cX5_buyFuel 2 = .ok (.getfield 30, 3) := by decide +kernel
theorem dX5_buyFuel_5 : decode cX5_buyFuel 5 = .ok (.imul, 1) := by decide +kernel
theorem dX5_buyFuel_6 : decode cX5_buyFuel 6 = .ok (.istore_n 3, 1) := by decide +kernel
theorem dX5_buyFuel_7 : decode cX5_buyFuel 7 = .ok (.aload_n 0, 1) := by decide +kernel
theorem dX5_buyFuel_8 : decode cX5_buyFuel 8 = .ok (.getfield 15, 3) := by decide +kernel
theorem dX5_buyFuel_11 : decode cX5_buyFuel 11 = .ok (.iload_n 1, 1) := by decide +kernel
theorem dX5_buyFuel_12 : decode cX5_buyFuel 12 = .ok (.dup2, 1) := by decide +kernel
theorem dX5_buyFuel_13 : decode cX5_buyFuel 13 = .ok (.iaload, 1) := by decide +kernel
theorem dX5_buyFuel_14 : decode cX5_buyFuel 14 = .ok (.iload_n 2, 1) := by decide +kernel
theorem dX5_buyFuel_15 : decode cX5_buyFuel 15 = .ok (.isub, 1) := by decide +kernel
theorem dX5_buyFuel_16 : decode cX5_buyFuel 16 = .ok (.iastore, 1) := by decide +kernel
theorem dX5_buyFuel_17 : decode cX5_buyFuel 17 = .ok (.aload_n 0, 1) := by decide +kernel
theorem dX5_buyFuel_18 : decode cX5_buyFuel 18 = .ok (.getfield 9, 3) := by decide +kernel
theorem dX5_buyFuel_21 : decode cX5_buyFuel 21 = .ok (.iload_n 1, 1) := by decide +kernel
theorem dX5_buyFuel_22 : decode cX5_buyFuel 22 = .ok (.dup2, 1) := by decide +kernel
theorem dX5_buyFuel_23 : decode cX5_buyFuel 23 = .ok (.iaload, 1) := by decide +kernel
theorem dX5_buyFuel_24 : decode cX5_buyFuel 24 = .ok (.iload_n 3, 1) := by decide +kernel
theorem dX5_buyFuel_25 : decode cX5_buyFuel 25 = .ok (.iadd, 1) := by decide +kernel
theorem dX5_buyFuel_26 : decode cX5_buyFuel 26 = .ok (.iastore, 1) := by decide +kernel
theorem dX5_buyFuel_27 : decode cX5_buyFuel 27 = .ok (.iload_n 3, 1) := by decide +kernel
theorem dX5_buyFuel_28 : decode cX5_buyFuel 28 = .ok (.iconst 2, 1) := by decide +kernel
theorem dX5_buyFuel_29 : decode cX5_buyFuel 29 = .ok (.idiv, 1) := by decide +kernel
theorem dX5_buyFuel_30 : decode cX5_buyFuel 30 = .ok (.istore 4, 2) := by decide +kernel
theorem dX5_buyFuel_32 : decode cX5_buyFuel 32 = .ok (.iconst 0, 1) := by decide +kernel
theorem dX5_buyFuel_33 : decode cX5_buyFuel 33 = .ok (.istore 5, 2) := by decide +kernel
theorem dX5_buyFuel_35 : decode cX5_buyFuel 35 = .ok (.iload 5, 2) := by decide +kernel
theorem dX5_buyFuel_37 : decode cX5_buyFuel 37 = .ok (.iconst 4, 1) := by decide +kernel
theorem dX5_buyFuel_38 : decode cX5_buyFuel 38 = .ok (.if_icmp .ge 40, 3) := by decide +kernel
theorem dX5_buyFuel_41 : decode cX5_buyFuel 41 = .ok (.iload 4, 2) := by decide +kernel
theorem dX5_buyFuel_43 : decode cX5_buyFuel 43 = .ok (.aload_n 0, 1) := by decide +kernel
theorem dX5_buyFuel_44 : decode cX5_buyFuel 44 = .ok (.iload_n 1, 1) := by decide +kernel
theorem dX5_buyFuel_45 : decode cX5_buyFuel 45 = .ok (.iload 5, 2) := by decide +kernel
theorem dX5_buyFuel_47 : decode cX5_buyFuel 47 = .ok (.invokevirtual 34, 3) := by decide +kernel
theorem dX5_buyFuel_50 : decode cX5_buyFuel 50 = .ok (.invokestatic 38, 3) := by decide +kernel
theorem dX5_buyFuel_53 : decode cX5_buyFuel 53 = .ok (.istore 6, 2) := by decide +kernel
theorem dX5_buyFuel_55 : decode cX5_buyFuel 55 = .ok (.aload_n 0, 1) := by decide +kernel
theorem dX5_buyFuel_56 : decode cX5_buyFuel 56 = .ok (.iload_n 1, 1) := by decide +kernel
theorem dX5_buyFuel_57 : decode cX5_buyFuel 57 = .ok (.iload 5, 2) := by decide +kernel
theorem dX5_buyFuel_59 : decode cX5_buyFuel 59 = .ok (.iload 6, 2) := by decide +kernel
theorem dX5_buyFuel_61 : decode cX5_buyFuel 61 = .ok (.invokevirtual 43, 3) := by decide +kernel
theorem dX5_buyFuel_64 : decode cX5_buyFuel 64 = .ok (.pop, 1) := by decide +kernel
theorem dX5_buyFuel_65 : decode cX5_buyFuel 65 = .ok (.iload 4, 2) := by decide +kernel
theorem dX5_buyFuel_67 : decode cX5_buyFuel 67 = .ok (.iload 6, 2) := by decide +kernel
theorem dX5_buyFuel_69 : decode cX5_buyFuel 69 = .ok (.isub, 1) := by decide +kernel
theorem dX5_buyFuel_70 : decode cX5_buyFuel 70 = .ok (.istore 4, 2) := by decide +kernel
theorem dX5_buyFuel_72 : decode cX5_buyFuel 72 = .ok (.iinc 5 1, 3) := by decide +kernel
theorem dX5_buyFuel_75 : decode cX5_buyFuel 75 = .ok (.goto (-40), 3) := by decide +kernel
theorem dX5_buyFuel_78 : decode cX5_buyFuel 78 = .ok (.iload_n 3, 1) := by decide +kernel
theorem dX5_buyFuel_79 : decode cX5_buyFuel 79 = .ok (.ireturn, 1) := by decide +kernel
theorem dX5_payFromFuel_0 : decode cX5_payFromFuel 0 = .ok (.aload_n 0, 1) := by decide +kernel
theorem dX5_payFromFuel_1 : decode cX5_payFromFuel 1 = .ok (.getfield 9, 3) := by decide +kernel
theorem dX5_payFromFuel_4 : decode cX5_payFromFuel 4 = .ok (.iload_n 1, 1) := by decide +kernel
theorem dX5_payFromFuel_5 : decode cX5_payFromFuel 5 = .ok (.dup2, 1) := by decide +kernel
theorem dX5_payFromFuel_6 : decode cX5_payFromFuel 6 = .ok (.iaload, 1) := by decide +kernel
theorem dX5_payFromFuel_7 : decode cX5_payFromFuel 7 = .ok (.iload_n 3, 1) := by decide +kernel
theorem dX5_payFromFuel_8 : decode cX5_payFromFuel 8 = .ok (.isub, 1) := by decide +kernel
theorem dX5_payFromFuel_9 : decode cX5_payFromFuel 9 = .ok (.iastore, 1) := by decide +kernel
theorem dX5_payFromFuel_10 : decode cX5_payFromFuel 10 = .ok (.aload_n 0, 1) := by decide +kernel
theorem dX5_payFromFuel_11 : decode cX5_payFromFuel 11 = .ok (.getfield 9, 3) := by decide +kernel
theorem dX5_payFromFuel_14 : decode cX5_payFromFuel 14 = .ok (.iload_n 2, 1) := by decide +kernel
theorem dX5_payFromFuel_15 : decode cX5_payFromFuel 15 = .ok (.dup2, 1) := by decide +kernel
theorem dX5_payFromFuel_16 : decode cX5_payFromFuel 16 = .ok (.iaload, 1) := by decide +kernel
theorem dX5_payFromFuel_17 : decode cX5_payFromFuel 17 = .ok (.iload_n 3, 1) := by decide +kernel
theorem dX5_payFromFuel_18 : decode cX5_payFromFuel 18 = .ok (.iadd, 1) := by decide +kernel
theorem dX5_payFromFuel_19 : decode cX5_payFromFuel 19 = .ok (.iastore, 1) := by decide +kernel
theorem dX5_payFromFuel_20 : decode cX5_payFromFuel 20 = .ok (.aload_n 0, 1) := by decide +kernel
theorem dX5_payFromFuel_21 : decode cX5_payFromFuel 21 = .ok (.getfield 24, 3) := by decide +kernel
theorem dX5_payFromFuel_24 : decode cX5_payFromFuel 24 = .ok (.iload_n 1, 1) := by decide +kernel
theorem dX5_payFromFuel_25 : decode cX5_payFromFuel 25 = .ok (.aaload, 1) := by decide +kernel
theorem dX5_payFromFuel_26 : decode cX5_payFromFuel 26 = .ok (.iload_n 2, 1) := by decide +kernel
theorem dX5_payFromFuel_27 : decode cX5_payFromFuel 27 = .ok (.dup2, 1) := by decide +kernel
theorem dX5_payFromFuel_28 : decode cX5_payFromFuel 28 = .ok (.iaload, 1) := by decide +kernel
theorem dX5_payFromFuel_29 : decode cX5_payFromFuel 29 = .ok (.iload_n 3, 1) := by decide +kernel
theorem dX5_payFromFuel_30 : decode cX5_payFromFuel 30 = .ok (.isub, 1) := by decide +kernel
theorem dX5_payFromFuel_31 : decode cX5_payFromFuel 31 = .ok (.iastore, 1) := by decide +kernel
theorem dX5_payFromFuel_32 : decode cX5_payFromFuel 32 = .ok (.aload_n 0, 1) := by decide +kernel
theorem dX5_payFromFuel_33 : decode cX5_payFromFuel 33 = .ok (.getfield 24, 3) := by decide +kernel
theorem dX5_payFromFuel_36 : decode cX5_payFromFuel 36 = .ok (.iload_n 1, 1) := by decide +kernel
theorem dX5_payFromFuel_37 : decode cX5_payFromFuel 37 = .ok (.aaload, 1) := by decide +kernel
theorem dX5_payFromFuel_38 : decode cX5_payFromFuel 38 = .ok (.iload_n 2, 1) := by decide +kernel
theorem dX5_payFromFuel_39 : decode cX5_payFromFuel 39 = .ok (.iaload, 1) := by decide +kernel
theorem dX5_payFromFuel_40 : decode cX5_payFromFuel 40 = .ok (.ireturn, 1) := by decide +kernel
theorem dX5_takesOne_0 : decode cX5_takesOne 0 = .ok (.aload_n 0, 1) := by decide +kernel
theorem dX5_takesOne_1 : decode cX5_takesOne 1 = .ok (.getfield 9, 3) := by decide +kernel
theorem dX5_takesOne_4 : decode cX5_takesOne 4 = .ok (.iload_n 1, 1) := by decide +kernel
theorem dX5_takesOne_5 : decode cX5_takesOne 5 = .ok (.iaload, 1) := by decide +kernel
theorem dX5_takesOne_6 : decode cX5_takesOne 6 = .ok (.ifCond .ne 28, 3) := by decide +kernel
theorem dX5_takesOne_9 : decode cX5_takesOne 9 = .ok (.aload_n 0, 1) := by decide +kernel
theorem dX5_takesOne_10 : decode cX5_takesOne 10 = .ok (.getfield 18, 3) := by decide +kernel
theorem dX5_takesOne_13 : decode cX5_takesOne 13 = .ok (.iload_n 1, 1) := by decide +kernel
theorem dX5_takesOne_14 : decode cX5_takesOne 14 = .ok (.baload, 1) := by decide +kernel
theorem dX5_takesOne_15 : decode cX5_takesOne 15 = .ok (.ifCond .eq 19, 3) := by decide +kernel
theorem dX5_takesOne_18 : decode cX5_takesOne 18 = .ok (.aload_n 0, 1) := by decide +kernel
theorem dX5_takesOne_19 : decode cX5_takesOne 19 = .ok (.getfield 15, 3) := by decide +kernel
theorem dX5_takesOne_22 : decode cX5_takesOne 22 = .ok (.iload_n 1, 1) := by decide +kernel
theorem dX5_takesOne_23 : decode cX5_takesOne 23 = .ok (.iaload, 1) := by decide +kernel
theorem dX5_takesOne_24 : decode cX5_takesOne 24 = .ok (.ifCond .le 10, 3) := by decide +kernel
theorem dX5_takesOne_27 : decode cX5_takesOne 27 = .ok (.aload_n 0, 1) := by decide +kernel
theorem dX5_takesOne_28 : decode cX5_takesOne 28 = .ok (.iload_n 1, 1) := by decide +kernel
theorem dX5_takesOne_29 : decode cX5_takesOne 29 = .ok (.iconst 1, 1) := by decide +kernel
theorem dX5_takesOne_30 : decode cX5_takesOne 30 = .ok (.invokevirtual 47, 3) := by decide +kernel
theorem dX5_takesOne_33 : decode cX5_takesOne 33 = .ok (.pop, 1) := by decide +kernel
theorem dX5_takesOne_34 : decode cX5_takesOne 34 = .ok (.aload_n 0, 1) := by decide +kernel
theorem dX5_takesOne_35 : decode cX5_takesOne 35 = .ok (.getfield 9, 3) := by decide +kernel
theorem dX5_takesOne_38 : decode cX5_takesOne 38 = .ok (.iload_n 1, 1) := by decide +kernel
theorem dX5_takesOne_39 : decode cX5_takesOne 39 = .ok (.iaload, 1) := by decide +kernel
theorem dX5_takesOne_40 : decode cX5_takesOne 40 = .ok (.ifCond .le 15, 3) := by decide +kernel
theorem dX5_takesOne_43 : decode cX5_takesOne 43 = .ok (.aload_n 0, 1) := by decide +kernel
theorem dX5_takesOne_44 : decode cX5_takesOne 44 = .ok (.getfield 9, 3) := by decide +kernel
theorem dX5_takesOne_47 : decode cX5_takesOne 47 = .ok (.iload_n 1, 1) := by decide +kernel
theorem dX5_takesOne_48 : decode cX5_takesOne 48 = .ok (.dup2, 1) := by decide +kernel
theorem dX5_takesOne_49 : decode cX5_takesOne 49 = .ok (.iaload, 1) := by decide +kernel
theorem dX5_takesOne_50 : decode cX5_takesOne 50 = .ok (.iconst 1, 1) := by decide +kernel
theorem dX5_takesOne_51 : decode cX5_takesOne 51 = .ok (.isub, 1) := by decide +kernel
theorem dX5_takesOne_52 : decode cX5_takesOne 52 = .ok (.iastore, 1) := by decide +kernel
theorem dX5_takesOne_53 : decode cX5_takesOne 53 = .ok (.iconst 1, 1) := by decide +kernel
theorem dX5_takesOne_54 : decode cX5_takesOne 54 = .ok (.ireturn, 1) := by decide +kernel
theorem dX5_takesOne_55 : decode cX5_takesOne 55 = .ok (.aload_n 0, 1) := by decide +kernel
theorem dX5_takesOne_56 : decode cX5_takesOne 56 = .ok (.iload_n 1, 1) := by decide +kernel
theorem dX5_takesOne_57 : decode cX5_takesOne 57 = .ok (.invokevirtual 50, 3) := by decide +kernel
theorem dX5_takesOne_60 : decode cX5_takesOne 60 = .ok (.ireturn, 1) := by decide +kernel
theorem dX5_borrowsOne_0 : decode cX5_borrowsOne 0 = .ok (.iconst 0, 1) := by decide +kernel
theorem dX5_borrowsOne_1 : decode cX5_borrowsOne 1 = .ok (.istore_n 2, 1) := by decide +kernel
theorem dX5_borrowsOne_2 : decode cX5_borrowsOne 2 = .ok (.iload_n 2, 1) := by decide +kernel
theorem dX5_borrowsOne_3 : decode cX5_borrowsOne 3 = .ok (.iconst 4, 1) := by decide +kernel
theorem dX5_borrowsOne_4 : decode cX5_borrowsOne 4 = .ok (.if_icmp .ge 76, 3) := by decide +kernel
theorem dX5_borrowsOne_7 : decode cX5_borrowsOne 7 = .ok (.iload_n 2, 1) := by decide +kernel
theorem dX5_borrowsOne_8 : decode cX5_borrowsOne 8 = .ok (.iload_n 1, 1) := by decide +kernel
theorem dX5_borrowsOne_9 : decode cX5_borrowsOne 9 = .ok (.if_icmp .eq 26, 3) := by decide +kernel
theorem dX5_borrowsOne_12 : decode cX5_borrowsOne 12 = .ok (.aload_n 0, 1) := by decide +kernel
theorem dX5_borrowsOne_13 : decode cX5_borrowsOne 13 = .ok (.getfield 27, 3) := by decide +kernel
theorem dX5_borrowsOne_16 : decode cX5_borrowsOne 16 = .ok (.iload_n 1, 1) := by decide +kernel
theorem dX5_borrowsOne_17 : decode cX5_borrowsOne 17 = .ok (.aaload, 1) := by decide +kernel
theorem dX5_borrowsOne_18 : decode cX5_borrowsOne 18 = .ok (.iload_n 2, 1) := by decide +kernel
theorem dX5_borrowsOne_19 : decode cX5_borrowsOne 19 = .ok (.iaload, 1) := by decide +kernel
theorem dX5_borrowsOne_20 : decode cX5_borrowsOne 20 = .ok (.aload_n 0, 1) := by decide +kernel
theorem dX5_borrowsOne_21 : decode cX5_borrowsOne 21 = .ok (.getfield 24, 3) := by decide +kernel
theorem dX5_borrowsOne_24 : decode cX5_borrowsOne 24 = .ok (.iload_n 1, 1) := by decide +kernel
theorem dX5_borrowsOne_25 : decode cX5_borrowsOne 25 = .ok (.aaload, 1) := by decide +kernel
theorem dX5_borrowsOne_26 : decode cX5_borrowsOne 26 = .ok (.iload_n 2, 1) := by decide +kernel
theorem dX5_borrowsOne_27 : decode cX5_borrowsOne 27 = .ok (.iaload, 1) := by decide +kernel
theorem dX5_borrowsOne_28 : decode cX5_borrowsOne 28 = .ok (.if_icmp .le 7, 3) := by decide +kernel
theorem dX5_borrowsOne_31 : decode cX5_borrowsOne 31 = .ok (.iconst 1, 1) := by decide +kernel
theorem dX5_borrowsOne_32 : decode cX5_borrowsOne 32 = .ok (.goto 4, 3) := by decide +kernel
theorem dX5_borrowsOne_35 : decode cX5_borrowsOne 35 = .ok (.iconst 0, 1) := by decide +kernel
theorem dX5_borrowsOne_36 : decode cX5_borrowsOne 36 = .ok (.istore_n 3, 1) := by decide +kernel
theorem dX5_borrowsOne_37 : decode cX5_borrowsOne 37 = .ok (.iload_n 3, 1) := by decide +kernel
theorem dX5_borrowsOne_38 : decode cX5_borrowsOne 38 = .ok (.ifCond .eq 36, 3) := by decide +kernel
theorem dX5_borrowsOne_41 : decode cX5_borrowsOne 41 = .ok (.aload_n 0, 1) := by decide +kernel
theorem dX5_borrowsOne_42 : decode cX5_borrowsOne 42 = .ok (.getfield 9, 3) := by decide +kernel
theorem dX5_borrowsOne_45 : decode cX5_borrowsOne 45 = .ok (.iload_n 2, 1) := by decide +kernel
theorem dX5_borrowsOne_46 : decode cX5_borrowsOne 46 = .ok (.iaload, 1) := by decide +kernel
theorem dX5_borrowsOne_47 : decode cX5_borrowsOne 47 = .ok (.ifCond .le 27, 3) := by decide +kernel
theorem dX5_borrowsOne_50 : decode cX5_borrowsOne 50 = .ok (.aload_n 0, 1) := by decide +kernel
theorem dX5_borrowsOne_51 : decode cX5_borrowsOne 51 = .ok (.getfield 9, 3) := by decide +kernel
theorem dX5_borrowsOne_54 : decode cX5_borrowsOne 54 = .ok (.iload_n 2, 1) := by decide +kernel
theorem dX5_borrowsOne_55 : decode cX5_borrowsOne 55 = .ok (.dup2, 1) := by decide +kernel
theorem dX5_borrowsOne_56 : decode cX5_borrowsOne 56 = .ok (.iaload, 1) := by decide +kernel
theorem dX5_borrowsOne_57 : decode cX5_borrowsOne 57 = .ok (.iconst 1, 1) := by decide +kernel
theorem dX5_borrowsOne_58 : decode cX5_borrowsOne 58 = .ok (.isub, 1) := by decide +kernel
theorem dX5_borrowsOne_59 : decode cX5_borrowsOne 59 = .ok (.iastore, 1) := by decide +kernel
theorem dX5_borrowsOne_60 : decode cX5_borrowsOne 60 = .ok (.aload_n 0, 1) := by decide +kernel
theorem dX5_borrowsOne_61 : decode cX5_borrowsOne 61 = .ok (.getfield 24, 3) := by decide +kernel
theorem dX5_borrowsOne_64 : decode cX5_borrowsOne 64 = .ok (.iload_n 1, 1) := by decide +kernel
theorem dX5_borrowsOne_65 : decode cX5_borrowsOne 65 = .ok (.aaload, 1) := by decide +kernel
theorem dX5_borrowsOne_66 : decode cX5_borrowsOne 66 = .ok (.iload_n 2, 1) := by decide +kernel
theorem dX5_borrowsOne_67 : decode cX5_borrowsOne 67 = .ok (.dup2, 1) := by decide +kernel
theorem dX5_borrowsOne_68 : decode cX5_borrowsOne 68 = .ok (.iaload, 1) := by decide +kernel
theorem dX5_borrowsOne_69 : decode cX5_borrowsOne 69 = .ok (.iconst 1, 1) := by decide +kernel
theorem dX5_borrowsOne_70 : decode cX5_borrowsOne 70 = .ok (.iadd, 1) := by decide +kernel
theorem dX5_borrowsOne_71 : decode cX5_borrowsOne 71 = .ok (.iastore, 1) := by decide +kernel
theorem dX5_borrowsOne_72 : decode cX5_borrowsOne 72 = .ok (.iconst 1, 1) := by decide +kernel
theorem dX5_borrowsOne_73 : decode cX5_borrowsOne 73 = .ok (.ireturn, 1) := by decide +kernel
theorem dX5_borrowsOne_74 : decode cX5_borrowsOne 74 = .ok (.iinc 2 1, 3) := by decide +kernel
theorem dX5_borrowsOne_77 : decode cX5_borrowsOne 77 = .ok (.goto (-75), 3) := by decide +kernel
theorem dX5_borrowsOne_80 : decode cX5_borrowsOne 80 = .ok (.iconst 0, 1) := by decide +kernel
theorem dX5_borrowsOne_81 : decode cX5_borrowsOne 81 = .ok (.ireturn, 1) := by decide +kernel
theorem dX6_init_0 : decode cX6_init 0 = .ok (.aload_n 0, 1) := by decide +kernel
theorem dX6_init_1 : decode cX6_init 1 = .ok (.invokespecial 1, 3) := by decide +kernel
theorem dX6_init_4 : decode cX6_init 4 = .ok (.aload_n 0, 1) := by decide +kernel
theorem dX6_init_5 : decode cX6_init 5 = .ok (.bipush 21, 2) := by decide +kernel
theorem dX6_init_7 : decode cX6_init 7 = .ok (.newarray .int, 2) := by decide +kernel
theorem dX6_init_9 : decode cX6_init 9 = .ok (.putfield 9, 3) := by decide +kernel
theorem dX6_init_12 : decode cX6_init 12 = .ok (.aload_n 0, 1) := by decide +kernel
theorem dX6_init_13 : decode cX6_init 13 = .ok (.aload_n 1, 1) := by decide +kernel
theorem dX6_init_14 : decode cX6_init 14 = .ok (.putfield 13, 3) := by decide +kernel
theorem dX6_init_17 : decode cX6_init 17 = .ok (.return_, 1) := by decide +kernel
theorem dX6_isSign_0 : decode cX6_isSign 0 = .ok (.iload_n 0, 1) := by decide +kernel
theorem dX6_isSign_1 : decode cX6_isSign 1 = .ok (.bipush 32, 2) := by decide +kernel
theorem dX6_isSign_3 : decode cX6_isSign 3 = .ok (.if_icmp .eq 35, 3) := by decide +kernel
theorem dX6_isSign_6 : decode cX6_isSign 6 = .ok (.iload_n 0, 1) := by decide +kernel
theorem dX6_isSign_7 : decode cX6_isSign 7 = .ok (.bipush 40, 2) := by decide +kernel
theorem dX6_isSign_9 : decode cX6_isSign 9 = .ok (.if_icmp .eq 29, 3) := by decide +kernel
theorem dX6_isSign_12 : decode cX6_isSign 12 = .ok (.iload_n 0, 1) := by decide +kernel
theorem dX6_isSign_13 : decode cX6_isSign 13 = .ok (.bipush 41, 2) := by decide +kernel
theorem dX6_isSign_15 : decode cX6_isSign 15 = .ok (.if_icmp .eq 23, 3) := by decide +kernel
theorem dX6_isSign_18 : decode cX6_isSign 18 = .ok (.iload_n 0, 1) := by decide +kernel
theorem dX6_isSign_19 : decode cX6_isSign 19 = .ok (.bipush 45, 2) := by decide +kernel
theorem dX6_isSign_21 : decode cX6_isSign 21 = .ok (.if_icmp .eq 17, 3) := by decide +kernel
theorem dX6_isSign_24 : decode cX6_isSign 24 = .ok (.iload_n 0, 1) := by decide +kernel
theorem dX6_isSign_25 : decode cX6_isSign 25 = .ok (.invokestatic 17, 3) := by decide +kernel
theorem dX6_isSign_28 : decode cX6_isSign 28 = .ok (.ifCond .ne 10, 3) := by decide +kernel
theorem dX6_isSign_31 : decode cX6_isSign 31 = .ok (.iload_n 0, 1) := by decide +kernel
theorem dX6_isSign_32 : decode cX6_isSign 32 = .ok (.invokestatic 21, 3) := by decide +kernel
theorem dX6_isSign_35 : decode cX6_isSign 35 = .ok (.ifCond .eq 7, 3) := by decide +kernel
theorem dX6_isSign_38 : decode cX6_isSign 38 = .ok (.iconst 1, 1) := by decide +kernel
theorem dX6_isSign_39 : decode cX6_isSign 39 = .ok (.goto 4, 3) := by decide +kernel
theorem dX6_isSign_42 : decode cX6_isSign 42 = .ok (.iconst 0, 1) := by decide +kernel
theorem dX6_isSign_43 : decode cX6_isSign 43 = .ok (.ireturn, 1) := by decide +kernel
theorem dX6_isDigit_0 : decode cX6_isDigit 0 = .ok (.iload_n 0, 1) := by decide +kernel
theorem dX6_isDigit_1 : decode cX6_isDigit 1 = .ok (.bipush 48, 2) := by decide +kernel
theorem dX6_isDigit_3 : decode cX6_isDigit 3 = .ok (.bipush 57, 2) := by decide +kernel
theorem dX6_isDigit_5 : decode cX6_isDigit 5 = .ok (.invokestatic 24, 3) := by decide +kernel
theorem dX6_isDigit_8 : decode cX6_isDigit 8 = .ok (.ireturn, 1) := by decide +kernel
theorem dX6_isLetter_0 : decode cX6_isLetter 0 = .ok (.iload_n 0, 1) := by decide +kernel
theorem dX6_isLetter_1 : decode cX6_isLetter 1 = .ok (.bipush 97, 2) := by decide +kernel
theorem dX6_isLetter_3 : decode cX6_isLetter 3 = .ok (.bipush 122, 2) := by decide +kernel
theorem dX6_isLetter_5 : decode cX6_isLetter 5 = .ok (.invokestatic 24, 3) := by decide +kernel
theorem dX6_isLetter_8 : decode cX6_isLetter 8 = .ok (.ireturn, 1) := by decide +kernel
theorem dX6_begin_0 : decode cX6_begin 0 = .ok (.aload_n 0, 1) := by decide +kernel
theorem dX6_begin_1 : decode cX6_begin 1 = .ok (.getfield 13, 3) := by decide +kernel
theorem dX6_begin_4 : decode cX6_begin 4 = .ok (.iload_n 1, 1) := by decide +kernel
theorem dX6_begin_5 : decode cX6_begin 5 = .ok (.iconst 3, 1) := by decide +kernel
theorem dX6_begin_6 : decode cX6_begin 6 = .ok (.invokevirtual 32, 3) := by decide +kernel
theorem dX6_begin_9 : decode cX6_begin 9 = .ok (.aload_n 0, 1) := by decide +kernel
theorem dX6_begin_10 : decode cX6_begin 10 = .ok (.getfield 9, 3) := by decide +kernel
theorem dX6_begin_13 : decode cX6_begin 13 = .ok (.iconst 0, 1) := by decide +kernel
theorem dX6_begin_14 : decode cX6_begin 14 = .ok (.iload_n 1, 1) := by decide +kernel
theorem dX6_begin_15 : decode cX6_begin 15 = .ok (.iastore, 1) := by decide +kernel
theorem dX6_begin_16 : decode cX6_begin 16 = .ok (.aload_n 0, 1) := by decide +kernel
theorem dX6_begin_17 : decode cX6_begin 17 = .ok (.iconst 0, 1) := by decide +kernel
theorem dX6_begin_18 : decode cX6_begin 18 = .ok (.putfield 36, 3) := by decide +kernel
theorem dX6_begin_21 : decode cX6_begin 21 = .ok (.aload_n 0, 1) := by decide +kernel
theorem dX6_begin_22 : decode cX6_begin 22 = .ok (.iconst 0, 1) := by decide +kernel
theorem dX6_begin_23 : decode cX6_begin 23 = .ok (.putfield 40, 3) := by decide +kernel
theorem dX6_begin_26 : decode cX6_begin 26 = .ok (.return_, 1) := by decide +kernel
theorem dX6_mayEnd_0 : decode cX6_mayEnd 0 = .ok (.aload_n 0, 1) := by decide +kernel
theorem dX6_mayEnd_1 : decode cX6_mayEnd 1 = .ok (.getfield 36, 3) := by decide +kernel
theorem dX6_mayEnd_4 : decode cX6_mayEnd 4 = .ok (.ifCond .ne 15, 3) := by decide +kernel
theorem dX6_mayEnd_7 : decode cX6_mayEnd 7 = .ok (.aload_n 0, 1) := by decide +kernel
theorem dX6_mayEnd_8 : decode cX6_mayEnd 8 = .ok (.getfield 40, 3) := by decide +kernel
theorem dX6_mayEnd_11 : decode cX6_mayEnd 11 = .ok (.iconst 1, 1) := by decide +kernel
theorem dX6_mayEnd_12 : decode cX6_mayEnd 12 = .ok (.if_icmp .eq 7, 3) := by decide +kernel
theorem dX6_mayEnd_15 : decode cX6_mayEnd 15 = .ok (.iconst 1, 1) := by decide +kernel
theorem dX6_mayEnd_16 : decode cX6_mayEnd 16 = .ok (.goto 4, 3) := by decide +kernel
theorem dX6_mayEnd_19 : decode cX6_mayEnd 19 = .ok (.iconst 0, 1) := by decide +kernel
theorem dX6_mayEnd_20 : decode cX6_mayEnd 20 = .ok (.ireturn, 1) := by decide +kernel
theorem dX6_takesSign_0 : decode cX6_takesSign 0 = .ok (.iload_n 2, 1) := by decide +kernel
theorem dX6_takesSign_1 : decode cX6_takesSign 1 = .ok (.invokestatic 17, 3) := by decide +kernel
theorem dX6_takesSign_4 : decode cX6_takesSign 4 = .ok (.ifCond .eq 13, 3) := by decide +kernel
theorem dX6_takesSign_7 : decode cX6_takesSign 7 = .ok (.aload_n 0, 1) := by decide +kernel
theorem dX6_takesSign_8 : decode cX6_takesSign 8 = .ok (.iload_n 1, 1) := by decide +kernel
theorem dX6_takesSign_9 : decode cX6_takesSign 9 = .ok (.iload_n 2, 1) := by decide +kernel
theorem dX6_takesSign_10 : decode cX6_takesSign 10 = .ok (.bipush 48, 2) := by decide +kernel
theorem dX6_takesSign_12 : decode cX6_takesSign 12 = .ok (.isub, 1) := by decide +kernel
theorem dX6_takesSign_13 : decode cX6_takesSign 13 = .ok (.invokevirtual 43, 3) := by decide +kernel
theorem dX6_takesSign_16 : decode cX6_takesSign 16 = .ok (.ireturn, 1) := by decide +kernel
theorem dX6_takesSign_17 : decode cX6_takesSign 17 = .ok (.iload_n 2, 1) := by decide +kernel
theorem dX6_takesSign_18 : decode cX6_takesSign 18 = .ok (.invokestatic 21, 3) := by decide +kernel
theorem dX6_takesSign_21 : decode cX6_takesSign 21 = .ok (.ifCond .eq 13, 3) := by decide +kernel
theorem dX6_takesSign_24 : decode cX6_takesSign 24 = .ok (.aload_n 0, 1) := by decide +kernel
theorem dX6_takesSign_25 : decode cX6_takesSign 25 = .ok (.iload_n 1, 1) := by decide +kernel
theorem dX6_takesSign_26 : decode cX6_takesSign 26 = .ok (.iload_n 2, 1) := by decide +kernel
theorem dX6_takesSign_27 : decode cX6_takesSign 27 = .ok (.invokestatic 47, 3) := by decide +kernel
theorem dX6_takesSign_30 : decode cX6_takesSign 30 = .ok (.invokevirtual 53, 3) := by decide +kernel
theorem dX6_takesSign_33 : decode cX6_takesSign 33 = .ok (.ireturn, 1) := by decide +kernel
theorem dX6_takesSign_34 : decode cX6_takesSign 34 = .ok (.iload_n 2, 1) := by decide +kernel
theorem dX6_takesSign_35 : decode cX6_takesSign 35 = .ok (.bipush 45, 2) := by decide +kernel
theorem dX6_takesSign_37 : decode cX6_takesSign 37 = .ok (.if_icmp .ne 9, 3) := by decide +kernel
theorem dX6_takesSign_40 : decode cX6_takesSign 40 = .ok (.aload_n 0, 1) := by decide +kernel
theorem dX6_takesSign_41 : decode cX6_takesSign 41 = .ok (.iload_n 1, 1) := by decide +kernel
theorem dX6_takesSign_42 : decode cX6_takesSign 42 = .ok (.invokevirtual 56, 3) := by decide +kernel
theorem dX6_takesSign_45 : decode cX6_takesSign 45 = .ok (.ireturn, 1) := by decide +kernel
theorem dX6_takesSign_46 : decode cX6_takesSign 46 = .ok (.aload_n 0, 1) := by decide +kernel
theorem dX6_takesSign_47 : decode cX6_takesSign 47 = .ok (.getfield 40, 3) := by decide +kernel
theorem dX6_takesSign_50 : decode cX6_takesSign 50 = .ok (.iconst 1, 1) := by decide +kernel
theorem dX6_takesSign_51 : decode cX6_takesSign 51 = .ok (.if_icmp .ne 5, 3) := by decide +kernel
theorem dX6_takesSign_54 : decode cX6_takesSign 54 = .ok (.iconst 0, 1) := by decide +kernel
theorem dX6_takesSign_55 : decode cX6_takesSign 55 = .ok (.ireturn, 1) := by decide +kernel
theorem dX6_takesSign_56 : decode cX6_takesSign 56 = .ok (.aload_n 0, 1) := by decide +kernel
theorem dX6_takesSign_57 : decode cX6_takesSign 57 = .ok (.iconst 0, 1) := by decide +kernel
theorem dX6_takesSign_58 : decode cX6_takesSign 58 = .ok (.putfield 40, 3) := by decide +kernel
theorem dX6_takesSign_61 : decode cX6_takesSign 61 = .ok (.iload_n 2, 1) := by decide +kernel
theorem dX6_takesSign_62 : decode cX6_takesSign 62 = .ok (.bipush 40, 2) := by decide +kernel
theorem dX6_takesSign_64 : decode cX6_takesSign 64 = .ok (.if_icmp .ne 9, 3) := by decide +kernel
theorem dX6_takesSign_67 : decode cX6_takesSign 67 = .ok (.aload_n 0, 1) := by decide +kernel
theorem dX6_takesSign_68 : decode cX6_takesSign 68 = .ok (.iload_n 1, 1) := by decide +kernel
theorem dX6_takesSign_69 : decode cX6_takesSign 69 = .ok (.invokevirtual 59, 3) := by decide +kernel
theorem dX6_takesSign_72 : decode cX6_takesSign 72 = .ok (.ireturn, 1) := by decide +kernel
theorem dX6_takesSign_73 : decode cX6_takesSign 73 = .ok (.iload_n 2, 1) := by decide +kernel
theorem dX6_takesSign_74 : decode cX6_takesSign 74 = .ok (.bipush 32, 2) := by decide +kernel
theorem dX6_takesSign_76 : decode cX6_takesSign 76 = .ok (.if_icmp .eq 10, 3) := by decide +kernel
theorem dX6_takesSign_79 : decode cX6_takesSign 79 = .ok (.aload_n 0, 1) := by decide +kernel
theorem dX6_takesSign_80 : decode cX6_takesSign 80 = .ok (.invokevirtual 62, 3) := by decide +kernel
theorem dX6_takesSign_83 : decode cX6_takesSign 83 = .ok (.ifCond .eq 7, 3) := by decide +kernel
theorem dX6_takesSign_86 : decode cX6_takesSign 86 = .ok (.iconst 1, 1) := by decide +kernel
theorem dX6_takesSign_87 : decode cX6_takesSign 87 = .ok (.goto 4, 3) := by decide +kernel
theorem dX6_takesSign_90 : decode cX6_takesSign 90 = .ok (.iconst 0, 1) := by decide +kernel
theorem dX6_takesSign_91 : decode cX6_takesSign 91 = .ok (.ireturn, 1) := by decide +kernel
theorem dX6_takesDigit_0 : decode cX6_takesDigit 0 = .ok (.aload_n 0, 1) := by decide +kernel
theorem dX6_takesDigit_1 : decode cX6_takesDigit 1 = .ok (.getfield 40, 3) := by decide +kernel
theorem dX6_takesDigit_4 : decode cX6_takesDigit 4 = .ok (.iconst 3, 1) := by decide +kernel
theorem dX6_takesDigit_5 : decode cX6_takesDigit 5 = .ok (.if_icmp .ne 5, 3) := by decide +kernel
theorem dX6_takesDigit_8 : decode cX6_takesDigit 8 = .ok (.iconst 0, 1) := by decide +kernel
theorem dX6_takesDigit_9 : decode cX6_takesDigit 9 = .ok (.ireturn, 1) := by decide +kernel
theorem dX6_takesDigit_10 : decode cX6_takesDigit 10 = .ok (.aload_n 0, 1) := by decide +kernel
theorem dX6_takesDigit_11 : decode cX6_takesDigit 11 = .ok (.getfield 40, 3) := by decide +kernel
theorem dX6_takesDigit_14 : decode cX6_takesDigit 14 = .ok (.ifCond .ne 9, 3) := by decide +kernel
theorem dX6_takesDigit_17 : decode cX6_takesDigit 17 = .ok (.aload_n 0, 1) := by decide +kernel
theorem dX6_takesDigit_18 : decode cX6_takesDigit 18 = .ok (.iload_n 1, 1) := by decide +kernel
theorem dX6_takesDigit_19 : decode cX6_takesDigit 19 = .ok (.iconst 1, 1) := by decide +kernel
theorem dX6_takesDigit_20 : decode cX6_takesDigit 20 = .ok (.invokevirtual 66, 3) := by decide +kernel
theorem dX6_takesDigit_23 : decode cX6_takesDigit 23 = .ok (.aload_n 0, 1) := by decide +kernel
theorem dX6_takesDigit_24 : decode cX6_takesDigit 24 = .ok (.iconst 2, 1) := by decide +kernel
theorem dX6_takesDigit_25 : decode cX6_takesDigit 25 = .ok (.putfield 40, 3) := by decide +kernel
theorem dX6_takesDigit_28 : decode cX6_takesDigit 28 = .ok (.aload_n 0, 1) := by decide +kernel
theorem dX6_takesDigit_29 : decode cX6_takesDigit 29 = .ok (.bipush 10, 2) := by decide +kernel
theorem dX6_takesDigit_31 : decode cX6_takesDigit 31 = .ok (.aload_n 0, 1) := by decide +kernel
theorem dX6_takesDigit_32 : decode cX6_takesDigit 32 = .ok (.getfield 69, 3) := by decide +kernel
theorem dX6_takesDigit_35 : decode cX6_takesDigit 35 = .ok (.ifCond .eq 8, 3) := by decide +kernel
theorem dX6_takesDigit_38 : decode cX6_takesDigit 38 = .ok (.iload_n 2, 1) := by decide +kernel
theorem dX6_takesDigit_39 : decode cX6_takesDigit 39 = .ok (.ineg, 1) := by decide +kernel
theorem dX6_takesDigit_40 : decode cX6_takesDigit 40 = .ok (.goto 4, 3) := by decide +kernel
theorem dX6_takesDigit_43 : decode cX6_takesDigit 43 = .ok (.iload_n 2, 1) := by decide +kernel
theorem dX6_takesDigit_44 : decode cX6_takesDigit 44 = .ok (.invokevirtual 73, 3) := by decide +kernel
theorem dX6_takesDigit_47 : decode cX6_takesDigit 47 = .ok (.ireturn, 1) := by decide +kernel
theorem dX6_takesLetter_0 : decode cX6_takesLetter 0 = .ok (.aload_n 0, 1) := by decide +kernel
theorem dX6_takesLetter_1 : decode cX6_takesLetter 1 = .ok (.getfield 40, 3) := by decide +kernel
theorem dX6_takesLetter_4 : decode cX6_takesLetter 4 = .ok (.iconst 1, 1) := by decide +kernel
theorem dX6_takesLetter_5 : decode cX6_takesLetter 5 = .ok (.if_icmp .eq 11, 3) := by decide +kernel
theorem dX6_takesLetter_8 : decode cX6_takesLetter 8 = .ok (.aload_n 0, 1) := by decide +kernel
theorem dX6_takesLetter_9 : decode cX6_takesLetter 9 = .ok (.getfield 40, 3) := by decide +kernel
theorem dX6_takesLetter_12 : decode cX6_takesLetter 12 = .ok (.iconst 2, 1) := by decide +kernel
theorem dX6_takesLetter_13 : decode cX6_takesLetter 13 = .ok (.if_icmp .ne 5, 3) := by decide +kernel
theorem dX6_takesLetter_16 : decode cX6_takesLetter 16 = .ok (.iconst 0, 1) := by decide +kernel
theorem dX6_takesLetter_17 : decode cX6_takesLetter 17 = .ok (.ireturn, 1) := by decide +kernel
theorem dX6_takesLetter_18 : decode cX6_takesLetter 18 = .ok (.aload_n 0, 1) := by decide +kernel
theorem dX6_takesLetter_19 : decode cX6_takesLetter 19 = .ok (.getfield 40, 3) := by decide +kernel
theorem dX6_takesLetter_22 : decode cX6_takesLetter 22 = .ok (.ifCond .ne 9, 3) := by decide +kernel
theorem dX6_takesLetter_25 : decode cX6_takesLetter 25 = .ok (.aload_n 0, 1) := by decide +kernel
theorem dX6_takesLetter_26 : decode cX6_takesLetter 26 = .ok (.iload_n 1, 1) := by decide +kernel
theorem dX6_takesLetter_27 : decode cX6_takesLetter 27 = .ok (.iconst 2, 1) := by decide +kernel
theorem dX6_takesLetter_28 : decode cX6_takesLetter 28 = .ok (.invokevirtual 66, 3) := by decide +kernel
theorem dX6_takesLetter_31 : decode cX6_takesLetter 31 = .ok (.aload_n 0, 1) := by decide +kernel
theorem dX6_takesLetter_32 : decode cX6_takesLetter 32 = .ok (.iconst 3, 1) := by decide +kernel
theorem dX6_takesLetter_33 : decode cX6_takesLetter 33 = .ok (.putfield 40, 3) := by decide +kernel
theorem dX6_takesLetter_36 : decode cX6_takesLetter 36 = .ok (.aload_n 0, 1) := by decide +kernel
theorem dX6_takesLetter_37 : decode cX6_takesLetter 37 = .ok (.bipush 27, 2) := by decide +kernel
theorem dX6_takesLetter_39 : decode cX6_takesLetter 39 = .ok (.iload_n 2, 1) := by decide +kernel
theorem dX6_takesLetter_40 : decode cX6_takesLetter 40 = .ok (.invokevirtual 73, 3) := by decide +kernel
theorem dX6_takesLetter_43 : decode cX6_takesLetter 43 = .ok (.ireturn, 1) := by decide +kernel
theorem dX6_takesMinus_0 : decode cX6_takesMinus 0 = .ok (.aload_n 0, 1) := by decide +kernel
theorem dX6_takesMinus_1 : decode cX6_takesMinus 1 = .ok (.getfield 40, 3) := by decide +kernel
theorem dX6_takesMinus_4 : decode cX6_takesMinus 4 = .ok (.ifCond .eq 5, 3) := by decide +kernel
theorem dX6_takesMinus_7 : decode cX6_takesMinus 7 = .ok (.iconst 0, 1) := by decide +kernel
theorem dX6_takesMinus_8 : decode cX6_takesMinus 8 = .ok (.ireturn, 1) := by decide +kernel
theorem dX6_takesMinus_9 : decode cX6_takesMinus 9 = .ok (.aload_n 0, 1) := by decide +kernel
theorem dX6_takesMinus_10 : decode cX6_takesMinus 10 = .ok (.iload_n 1, 1) := by decide +kernel
theorem dX6_takesMinus_11 : decode cX6_takesMinus 11 = .ok (.iconst 1, 1) := by decide +kernel
theorem dX6_takesMinus_12 : decode cX6_takesMinus 12 = .ok (.invokevirtual 66, 3) := by decide +kernel
theorem dX6_takesMinus_15 : decode cX6_takesMinus 15 = .ok (.aload_n 0, 1) := by decide +kernel
theorem dX6_takesMinus_16 : decode cX6_takesMinus 16 = .ok (.iconst 1, 1) := by decide +kernel
theorem dX6_takesMinus_17 : decode cX6_takesMinus 17 = .ok (.putfield 69, 3) := by decide +kernel
theorem dX6_takesMinus_20 : decode cX6_takesMinus 20 = .ok (.aload_n 0, 1) := by decide +kernel
theorem dX6_takesMinus_21 : decode cX6_takesMinus 21 = .ok (.iconst 1, 1) := by decide +kernel
theorem dX6_takesMinus_22 : decode cX6_takesMinus 22 = .ok (.putfield 40, 3) := by decide +kernel
theorem dX6_takesMinus_25 : decode cX6_takesMinus 25 = .ok (.iconst 1, 1) := by decide +kernel
theorem dX6_takesMinus_26 : decode cX6_takesMinus 26 = .ok (.ireturn, 1) := by decide +kernel
theorem dX6_beginWord_0 : decode cX6_beginWord 0 = .ok (.aload_n 0, 1) := by decide +kernel
theorem dX6_beginWord_1 : decode cX6_beginWord 1 = .ok (.getfield 13, 3) := by decide +kernel
theorem dX6_beginWord_4 : decode cX6_beginWord 4 = .ok (.iload_n 1, 1) := by decide +kernel
theorem dX6_beginWord_5 : decode cX6_beginWord 5 = .ok (.iload_n 2, 1) := by decide +kernel
theorem dX6_beginWord_6 : decode cX6_beginWord 6 = .ok (.invokevirtual 32, 3) := by decide +kernel
theorem dX6_beginWord_9 : decode cX6_beginWord 9 = .ok (.aload_n 0, 1) := by decide +kernel
theorem dX6_beginWord_10 : decode cX6_beginWord 10 = .ok (.getfield 13, 3) := by decide +kernel
theorem dX6_beginWord_13 : decode cX6_beginWord 13 = .ok (.aload_n 0, 1) := by decide +kernel
theorem dX6_beginWord_14 : decode cX6_beginWord 14 = .ok (.getfield 9, 3) := by decide +kernel
theorem dX6_beginWord_17 : decode cX6_beginWord 17 = .ok (.aload_n 0, 1) := by decide +kernel
theorem dX6_beginWord_18 : decode cX6_beginWord 18 = .ok (.getfield 36, 3) := by decide +kernel
theorem dX6_beginWord_21 : decode cX6_beginWord 21 = .ok (.iaload, 1) := by decide +kernel
theorem dX6_beginWord_22 : decode cX6_beginWord 22 = .ok (.iload_n 1, 1) := by decide +kernel
theorem dX6_beginWord_23 : decode cX6_beginWord 23 = .ok (.invokevirtual 76, 3) := by decide +kernel
theorem dX6_beginWord_26 : decode cX6_beginWord 26 = .ok (.aload_n 0, 1) := by decide +kernel
theorem dX6_beginWord_27 : decode cX6_beginWord 27 = .ok (.iload_n 1, 1) := by decide +kernel
theorem dX6_beginWord_28 : decode cX6_beginWord 28 = .ok (.putfield 79, 3) := by decide +kernel
theorem dX6_beginWord_31 : decode cX6_beginWord 31 = .ok (.aload_n 0, 1) := by decide +kernel
theorem dX6_beginWord_32 : decode cX6_beginWord 32 = .ok (.iconst 0, 1) := by decide +kernel
theorem dX6_beginWord_33 : decode cX6_beginWord 33 = .ok (.putfield 82, 3) := by decide +kernel
theorem dX6_beginWord_36 : decode cX6_beginWord 36 = .ok (.aload_n 0, 1) := by decide +kernel
theorem dX6_beginWord_37 : decode cX6_beginWord 37 = .ok (.iconst 0, 1) := by decide +kernel
theorem dX6_beginWord_38 : decode cX6_beginWord 38 = .ok (.putfield 69, 3) := by decide +kernel
theorem dX6_beginWord_41 : decode cX6_beginWord 41 = .ok (.return_, 1) := by decide +kernel
theorem dX6_growsWord_0 : decode cX6_growsWord 0 = .ok (.aload_n 0, 1) := by decide +kernel
theorem dX6_growsWord_1 : decode cX6_growsWord 1 = .ok (.getfield 82, 3) := by decide +kernel
theorem dX6_growsWord_4 : decode cX6_growsWord 4 = .ok (.bipush 6, 2) := by decide +kernel
theorem dX6_growsWord_6 : decode cX6_growsWord 6 = .ok (.if_icmp .lt 5, 3) := by decide +kernel
theorem dX6_growsWord_9 : decode cX6_growsWord 9 = .ok (.iconst 0, 1) := by decide +kernel
theorem dX6_growsWord_10 : decode cX6_growsWord 10 = .ok (.ireturn, 1) := by decide +kernel
theorem dX6_growsWord_11 : decode cX6_growsWord 11 = .ok (.aload_n 0, 1) := by decide +kernel
theorem dX6_growsWord_12 : decode cX6_growsWord 12 = .ok (.dup, 1) := by decide +kernel
theorem dX6_growsWord_13 : decode cX6_growsWord 13 = .ok (.getfield 82, 3) := by decide +kernel
theorem dX6_growsWord_16 : decode cX6_growsWord 16 = .ok (.iconst 1, 1) := by decide +kernel
theorem dX6_growsWord_17 : decode cX6_growsWord 17 = .ok (.iadd, 1) := by decide +kernel
theorem dX6_growsWord_18 : decode cX6_growsWord 18 = .ok (.putfield 82, 3) := by decide +kernel
theorem dX6_growsWord_21 : decode cX6_growsWord 21 = .ok (.aload_n 0, 1) := by decide +kernel
theorem dX6_growsWord_22 : decode cX6_growsWord 22 = .ok (.getfield 13, 3) := by decide +kernel
theorem dX6_growsWord_25 : decode cX6_growsWord 25 = .ok (.aload_n 0, 1) := by decide +kernel
theorem dX6_growsWord_26 : decode cX6_growsWord 26 = .ok (.getfield 79, 3) := by decide +kernel
theorem dX6_growsWord_29 : decode cX6_growsWord 29 = .ok (.aload_n 0, 1) := by decide +kernel
theorem dX6_growsWord_30 : decode cX6_growsWord 30 = .ok (.getfield 13, 3) := by decide +kernel
theorem dX6_growsWord_33 : decode cX6_growsWord 33 = .ok (.aload_n 0, 1) := by decide +kernel
theorem dX6_growsWord_34 : decode cX6_growsWord 34 = .ok (.getfield 79, 3) := by decide +kernel
theorem dX6_growsWord_37 : decode cX6_growsWord 37 = .ok (.invokevirtual 85, 3) := by decide +kernel
theorem dX6_growsWord_40 : decode cX6_growsWord 40 = .ok (.iload_n 1, 1) := by decide +kernel
theorem dX6_growsWord_41 : decode cX6_growsWord 41 = .ok (.imul, 1) := by decide +kernel
theorem dX6_growsWord_42 : decode cX6_growsWord 42 = .ok (.iload_n 2, 1) := by decide +kernel
theorem dX6_growsWord_43 : decode cX6_growsWord 43 = .ok (.iadd, 1) := by decide +kernel
theorem dX6_growsWord_44 : decode cX6_growsWord 44 = .ok (.invokevirtual 88, 3) := by decide +kernel
theorem dX6_growsWord_47 : decode cX6_growsWord 47 = .ok (.iconst 1, 1) := by decide +kernel
theorem dX6_growsWord_48 : decode cX6_growsWord 48 = .ok (.ireturn, 1) := by decide +kernel
theorem dX6_opensList_0 : decode cX6_opensList 0 = .ok (.aload_n 0, 1) := by decide +kernel
theorem dX6_opensList_1 : decode cX6_opensList 1 = .ok (.getfield 36, 3) := by decide +kernel
theorem dX6_opensList_4 : decode cX6_opensList 4 = .ok (.bipush 20, 2) := by decide +kernel
theorem dX6_opensList_6 : decode cX6_opensList 6 = .ok (.if_icmp .lt 5, 3) := by decide +kernel
theorem dX6_opensList_9 : decode cX6_opensList 9 = .ok (.iconst 0, 1) := by decide +kernel
theorem dX6_opensList_10 : decode cX6_opensList 10 = .ok (.ireturn, 1) := by decide +kernel
theorem dX6_opensList_11 : decode cX6_opensList 11 = .ok (.aload_n 0, 1) := by decide +kernel
theorem dX6_opensList_12 : decode cX6_opensList 12 = .ok (.getfield 13, 3) := by decide +kernel
theorem dX6_opensList_15 : decode cX6_opensList 15 = .ok (.iload_n 1, 1) := by decide +kernel
theorem dX6_opensList_16 : decode cX6_opensList 16 = .ok (.iconst 3, 1) := by decide +kernel
theorem dX6_opensList_17 : decode cX6_opensList 17 = .ok (.invokevirtual 32, 3) := by decide +kernel
theorem dX6_opensList_20 : decode cX6_opensList 20 = .ok (.aload_n 0, 1) := by decide +kernel
theorem dX6_opensList_21 : decode cX6_opensList 21 = .ok (.getfield 13, 3) := by decide +kernel
theorem dX6_opensList_24 : decode cX6_opensList 24 = .ok (.aload_n 0, 1) := by decide +kernel
theorem dX6_opensList_25 : decode cX6_opensList 25 = .ok (.getfield 9, 3) := by decide +kernel
theorem dX6_opensList_28 : decode cX6_opensList 28 = .ok (.aload_n 0, 1) := by decide +kernel
theorem dX6_opensList_29 : decode cX6_opensList 29 = .ok (.getfield 36, 3) := by decide +kernel
theorem dX6_opensList_32 : decode cX6_opensList 32 = .ok (.iaload, 1) := by decide +kernel
theorem dX6_opensList_33 : decode cX6_opensList 33 = .ok (.iload_n 1, 1) := by decide +kernel
theorem dX6_opensList_34 : decode cX6_opensList 34 = .ok (.invokevirtual 76, 3) := by decide +kernel
theorem dX6_opensList_37 : decode cX6_opensList 37 = .ok (.aload_n 0, 1) := by decide +kernel
theorem dX6_opensList_38 : decode cX6_opensList 38 = .ok (.dup, 1) := by decide +kernel
theorem dX6_opensList_39 : decode cX6_opensList 39 = .ok (.getfield 36, 3) := by decide +kernel
theorem dX6_opensList_42 : decode cX6_opensList 42 = .ok (.iconst 1, 1) := by decide +kernel
theorem dX6_opensList_43 : decode cX6_opensList 43 = .ok (.iadd, 1) := by decide +kernel
theorem dX6_opensList_44 : decode cX6_opensList 44 = .ok (.putfield 36, 3) := by decide +kernel
theorem dX6_opensList_47 : decode cX6_opensList 47 = .ok (.aload_n 0, 1) := by decide +kernel
theorem dX6_opensList_48 : decode cX6_opensList 48 = .ok (.getfield 9, 3) := by decide +kernel
theorem dX6_opensList_51 : decode cX6_opensList 51 = .ok (.aload_n 0, 1) := by decide +kernel
theorem dX6_opensList_52 : decode cX6_opensList 52 = .ok (.getfield 36, 3) := by decide +kernel
theorem dX6_opensList_55 : decode cX6_opensList 55 = .ok (.iload_n 1, 1) := by decide +kernel
theorem dX6_opensList_56 : decode cX6_opensList 56 = .ok (.iastore, 1) := by decide +kernel
theorem dX6_opensList_57 : decode cX6_opensList 57 = .ok (.iconst 1, 1) := by decide +kernel
theorem dX6_opensList_58 : decode cX6_opensList 58 = .ok (.ireturn, 1) := by decide +kernel
theorem dX6_closesList_0 : decode cX6_closesList 0 = .ok (.aload_n 0, 1) := by decide +kernel
theorem dX6_closesList_1 : decode cX6_closesList 1 = .ok (.getfield 36, 3) := by decide +kernel
theorem dX6_closesList_4 : decode cX6_closesList 4 = .ok (.ifCond .gt 5, 3) := by decide +kernel
theorem dX6_closesList_7 : decode cX6_closesList 7 = .ok (.iconst 0, 1) := by decide +kernel
theorem dX6_closesList_8 : decode cX6_closesList 8 = .ok (.ireturn, 1) := by decide +kernel
theorem dX6_closesList_9 : decode cX6_closesList 9 = .ok (.aload_n 0, 1) := by decide +kernel
theorem dX6_closesList_10 : decode cX6_closesList 10 = .ok (.dup, 1) := by decide +kernel
theorem dX6_closesList_11 : decode cX6_closesList 11 = .ok (.getfield 36, 3) := by decide +kernel
theorem dX6_closesList_14 : decode cX6_closesList 14 = .ok (.iconst 1, 1) := by decide +kernel
theorem dX6_closesList_15 : decode cX6_closesList 15 = .ok (.isub, 1) := by decide +kernel
theorem dX6_closesList_16 : decode cX6_closesList 16 = .ok (.putfield 36, 3) := by decide +kernel
theorem dX6_closesList_19 : decode cX6_closesList 19 = .ok (.iconst 1, 1) := by decide +kernel
theorem dX6_closesList_20 : decode cX6_closesList 20 = .ok (.ireturn, 1) := by decide +kernel
theorem dX8_init_0 : decode cX8_init 0 = .ok (.aload_n 0, 1) := by decide +kernel
theorem dX8_init_1 : decode cX8_init 1 = .ok (.invokespecial 3, 3) := by decide +kernel
theorem dX8_init_4 : decode cX8_init 4 = .ok (.aload_n 0, 1) := by decide +kernel
theorem dX8_init_5 : decode cX8_init 5 = .ok (.sipush 960, 3) := by decide +kernel
theorem dX8_init_8 : decode cX8_init 8 = .ok (.newarray .int, 2) := by decide +kernel
theorem dX8_init_10 : decode cX8_init 10 = .ok (.putfield 9, 3) := by decide +kernel
theorem dX8_init_13 : decode cX8_init 13 = .ok (.aload_n 0, 1) := by decide +kernel
theorem dX8_init_14 : decode cX8_init 14 = .ok (.bipush 8, 2) := by decide +kernel
theorem dX8_init_16 : decode cX8_init 16 = .ok (.newarray .int, 2) := by decide +kernel
theorem dX8_init_18 : decode cX8_init 18 = .ok (.putfield 15, 3) := by decide +kernel
theorem dX8_init_21 : decode cX8_init 21 = .ok (.aload_n 0, 1) := by decide +kernel
theorem dX8_init_22 : decode cX8_init 22 = .ok (.bipush 8, 2) := by decide +kernel
theorem dX8_init_24 : decode cX8_init 24 = .ok (.newarray .int, 2) := by decide +kernel
theorem dX8_init_26 : decode cX8_init 26 = .ok (.putfield 18, 3) := by decide +kernel
theorem dX8_init_29 : decode cX8_init 29 = .ok (.aload_n 0, 1) := by decide +kernel
theorem dX8_init_30 : decode cX8_init 30 = .ok (.bipush 8, 2) := by decide +kernel
theorem dX8_init_32 : decode cX8_init 32 = .ok (.newarray .boolean, 2) := by decide +kernel
theorem dX8_init_34 : decode cX8_init 34 = .ok (.putfield 21, 3) := by decide +kernel
theorem dX8_init_37 : decode cX8_init 37 = .ok (.aload_n 0, 1) := by decide +kernel
theorem dX8_init_38 : decode cX8_init 38 = .ok (.new 25, 3) := by decide +kernel
theorem dX8_init_41 : decode cX8_init 41 = .ok (.dup, 1) := by decide +kernel
theorem dX8_init_42 : decode cX8_init 42 = .ok (.aload_n 1, 1) := by decide +kernel
theorem dX8_init_43 : decode cX8_init 43 = .ok (.invokespecial 27, 3) := by decide +kernel
theorem dX8_init_46 : decode cX8_init 46 = .ok (.putfield 30, 3) := by decide +kernel
theorem dX8_init_49 : decode cX8_init 49 = .ok (.return_, 1) := by decide +kernel
theorem dX8_lengthOf_0 : decode cX8_lengthOf 0 = .ok (.aload_n 0, 1) := by decide +kernel
theorem dX8_lengthOf_1 : decode cX8_lengthOf 1 = .ok (.getfield 15, 3) := by decide +kernel
theorem dX8_lengthOf_4 : decode cX8_lengthOf 4 = .ok (.iload_n 1, 1) := by decide +kernel
theorem dX8_lengthOf_5 : decode cX8_lengthOf 5 = .ok (.iaload, 1) := by decide +kernel
theorem dX8_lengthOf_6 : decode cX8_lengthOf 6 = .ok (.ireturn, 1) := by decide +kernel
theorem dX8_signAt_0 : decode cX8_signAt 0 = .ok (.aload_n 0, 1) := by decide +kernel
theorem dX8_signAt_1 : decode cX8_signAt 1 = .ok (.getfield 9, 3) := by decide +kernel
theorem dX8_signAt_4 : decode cX8_signAt 4 = .ok (.iload_n 1, 1) := by decide +kernel
theorem dX8_signAt_5 : decode cX8_signAt 5 = .ok (.bipush 120, 2) := by decide +kernel
theorem dX8_signAt_7 : decode cX8_signAt 7 = .ok (.imul, 1) := by decide +kernel
theorem dX8_signAt_8 : decode cX8_signAt 8 = .ok (.iload_n 2, 1) := by decide +kernel
theorem dX8_signAt_9 : decode cX8_signAt 9 = .ok (.iadd, 1) := by decide +kernel
theorem dX8_signAt_10 : decode cX8_signAt 10 = .ok (.iaload, 1) := by decide +kernel
theorem dX8_signAt_11 : decode cX8_signAt 11 = .ok (.ireturn, 1) := by decide +kernel
theorem dX8_append_0 : decode cX8_append 0 = .ok (.aload_n 0, 1) := by decide +kernel
theorem dX8_append_1 : decode cX8_append 1 = .ok (.getfield 9, 3) := by decide +kernel
theorem dX8_append_4 : decode cX8_append 4 = .ok (.iload_n 1, 1) := by decide +kernel
theorem dX8_append_5 : decode cX8_append 5 = .ok (.bipush 120, 2) := by decide +kernel
theorem dX8_append_7 : decode cX8_append 7 = .ok (.imul, 1) := by decide +kernel
theorem dX8_append_8 : decode cX8_append 8 = .ok (.aload_n 0, 1) := by decide +kernel
theorem dX8_append_9 : decode cX8_append 9 = .ok (.getfield 15, 3) := by decide +kernel
theorem dX8_append_12 : decode cX8_append 12 = .ok (.iload_n 1, 1) := by decide +kernel
theorem dX8_append_13 : decode cX8_append 13 = .ok (.iaload, 1) := by decide +kernel
theorem dX8_append_14 : decode cX8_append 14 = .ok (.iadd, 1) := by decide +kernel
theorem dX8_append_15 : decode cX8_append 15 = .ok (.iload_n 2, 1) := by decide +kernel
theorem dX8_append_16 : decode cX8_append 16 = .ok (.iastore, 1) := by decide +kernel
theorem dX8_append_17 : decode cX8_append 17 = .ok (.aload_n 0, 1) := by decide +kernel
theorem dX8_append_18 : decode cX8_append 18 = .ok (.getfield 15, 3) := by decide +kernel
theorem dX8_append_21 : decode cX8_append 21 = .ok (.iload_n 1, 1) := by decide +kernel
theorem dX8_append_22 : decode cX8_append 22 = .ok (.dup2, 1) := by decide +kernel
theorem dX8_append_23 : decode cX8_append 23 = .ok (.iaload, 1) := by decide +kernel
theorem dX8_append_24 : decode cX8_append 24 = .ok (.iconst 1, 1) := by decide +kernel
theorem dX8_append_25 : decode cX8_append 25 = .ok (.iadd, 1) := by decide +kernel
theorem dX8_append_26 : decode cX8_append 26 = .ok (.iastore, 1) := by decide +kernel
theorem dX8_append_27 : decode cX8_append 27 = .ok (.aload_n 0, 1) := by decide +kernel
theorem dX8_append_28 : decode cX8_append 28 = .ok (.getfield 21, 3) := by decide +kernel
theorem dX8_append_31 : decode cX8_append 31 = .ok (.iload_n 1, 1) := by decide +kernel
theorem dX8_append_32 : decode cX8_append 32 = .ok (.iconst 0, 1) := by decide +kernel
theorem dX8_append_33 : decode cX8_append 33 = .ok (.bastore, 1) := by decide +kernel
theorem dX8_append_34 : decode cX8_append 34 = .ok (.aload_n 0, 1) := by decide +kernel
theorem dX8_append_35 : decode cX8_append 35 = .ok (.getfield 15, 3) := by decide +kernel
theorem dX8_append_38 : decode cX8_append 38 = .ok (.iload_n 1, 1) := by decide +kernel
theorem dX8_append_39 : decode cX8_append 39 = .ok (.iaload, 1) := by decide +kernel
theorem dX8_append_40 : decode cX8_append 40 = .ok (.ireturn, 1) := by decide +kernel
theorem dX8_cut_0 : decode cX8_cut 0 = .ok (.aload_n 0, 1) := by decide +kernel
theorem dX8_cut_1 : decode cX8_cut 1 = .ok (.getfield 15, 3) := by decide +kernel
theorem dX8_cut_4 : decode cX8_cut 4 = .ok (.iload_n 1, 1) := by decide +kernel
theorem dX8_cut_5 : decode cX8_cut 5 = .ok (.dup2, 1) := by decide +kernel
theorem dX8_cut_6 : decode cX8_cut 6 = .ok (.iaload, 1) := by decide +kernel
theorem dX8_cut_7 : decode cX8_cut 7 = .ok (.iload_n 2, 1) := by decide +kernel
theorem dX8_cut_8 : decode cX8_cut 8 = .ok (.aload_n 0, 1) := by decide +kernel
theorem dX8_cut_9 : decode cX8_cut 9 = .ok (.getfield 15, 3) := by decide +kernel
theorem dX8_cut_12 : decode cX8_cut 12 = .ok (.iload_n 1, 1) := by decide +kernel
theorem dX8_cut_13 : decode cX8_cut 13 = .ok (.iaload, 1) := by decide +kernel
theorem dX8_cut_14 : decode cX8_cut 14 = .ok (.invokestatic 34, 3) := by decide +kernel
theorem dX8_cut_17 : decode cX8_cut 17 = .ok (.isub, 1) := by decide +kernel
theorem dX8_cut_18 : decode cX8_cut 18 = .ok (.iastore, 1) := by decide +kernel
theorem dX8_cut_19 : decode cX8_cut 19 = .ok (.aload_n 0, 1) := by decide +kernel
theorem dX8_cut_20 : decode cX8_cut 20 = .ok (.getfield 21, 3) := by decide +kernel
theorem dX8_cut_23 : decode cX8_cut 23 = .ok (.iload_n 1, 1) := by decide +kernel
theorem dX8_cut_24 : decode cX8_cut 24 = .ok (.iconst 0, 1) := by decide +kernel
theorem dX8_cut_25 : decode cX8_cut 25 = .ok (.bastore, 1) := by decide +kernel
theorem dX8_cut_26 : decode cX8_cut 26 = .ok (.aload_n 0, 1) := by decide +kernel
theorem dX8_cut_27 : decode cX8_cut 27 = .ok (.getfield 15, 3) := by decide +kernel
theorem dX8_cut_30 : decode cX8_cut 30 = .ok (.iload_n 1, 1) := by decide +kernel
theorem dX8_cut_31 : decode cX8_cut 31 = .ok (.iaload, 1) := by decide +kernel
theorem dX8_cut_32 : decode cX8_cut 32 = .ok (.ireturn, 1) := by decide +kernel
theorem dX8_readChanged_0 : decode cX8_readChanged 0 = .ok (.iconst 0, 1) := by decide +kernel
theorem dX8_readChanged_1 : decode cX8_readChanged 1 = .ok (.istore_n 1, 1) := by decide +kernel
theorem dX8_readChanged_2 : decode cX8_readChanged 2 = .ok (.iload_n 1, 1) := by decide +kernel
theorem dX8_readChanged_3 : decode cX8_readChanged 3 = .ok (.bipush 8, 2) := by decide +kernel
theorem dX8_readChanged_5 : decode cX8_readChanged 5 = .ok (.if_icmp .ge 36, 3) := by decide +kernel
theorem dX8_readChanged_8 : decode cX8_readChanged 8 = .ok (.aload_n 0, 1) := by decide +kernel
theorem dX8_readChanged_9 : decode cX8_readChanged 9 = .ok (.getfield 21, 3) := by decide +kernel
theorem dX8_readChanged_12 : decode cX8_readChanged 12 = .ok (.iload_n 1, 1) := by decide +kernel
theorem dX8_readChanged_13 : decode cX8_readChanged 13 = .ok (.baload, 1) := by decide +kernel
theorem dX8_readChanged_14 : decode cX8_readChanged 14 = .ok (.ifCond .ne 21, 3) := by decide +kernel
theorem dX8_readChanged_17 : decode cX8_readChanged 17 = .ok (.aload_n 0, 1) := by decide +kernel
theorem dX8_readChanged_18 : decode cX8_readChanged 18 = .ok (.getfield 18, 3) := by decide +kernel
theorem dX8_readChanged_21 : decode cX8_readChanged 21 = .ok (.iload_n 1, 1) := by decide +kernel
theorem dX8_readChanged_22 : decode cX8_readChanged 22 = .ok (.aload_n 0, 1) := by decide +kernel
theorem dX8_readChanged_23 : decode cX8_readChanged 23 = .ok (.iload_n 1, 1) := by decide +kernel
theorem dX8_readChanged_24 : decode cX8_readChanged 24 = .ok (.invokevirtual 40, 3) := by decide +kernel
theorem dX8_readChanged_27 : decode cX8_readChanged 27 = .ok (.iastore, 1) := by decide +kernel
theorem dX8_readChanged_28 : decode cX8_readChanged 28 = .ok (.aload_n 0, 1) := by decide +kernel
theorem dX8_readChanged_29 : decode cX8_readChanged 29 = .ok (.getfield 21, 3) := by decide +kernel
theorem dX8_readChanged_32 : decode cX8_readChanged 32 = .ok (.iload_n 1, 1) := by decide +kernel
theorem dX8_readChanged_33 : decode cX8_readChanged 33 = .ok (.iconst 1, 1) := by decide +kernel
theorem dX8_readChanged_34 : decode cX8_readChanged 34 = .ok (.bastore, 1) := by decide +kernel
theorem dX8_readChanged_35 : decode cX8_readChanged 35 = .ok (.iinc 1 1, 3) := by decide +kernel
theorem dX8_readChanged_38 : decode cX8_readChanged 38 = .ok (.goto (-36), 3) := by decide +kernel
theorem dX8_readChanged_41 : decode cX8_readChanged 41 = .ok (.return_, 1) := by decide +kernel
theorem dX8_faultOf_0 : decode cX8_faultOf 0 = .ok (.aload_n 0, 1) := by decide +kernel
theorem dX8_faultOf_1 : decode cX8_faultOf 1 = .ok (.getfield 18, 3) := by decide +kernel
theorem dX8_faultOf_4 : decode cX8_faultOf 4 = .ok (.iload_n 1, 1) := by decide +kernel
theorem dX8_faultOf_5 : decode cX8_faultOf 5 = .ok (.iaload, 1) := by decide +kernel
theorem dX8_faultOf_6 : decode cX8_faultOf 6 = .ok (.ireturn, 1) := by decide +kernel
theorem dX8_faultRead_0 : decode cX8_faultRead 0 = .ok (.aload_n 0, 1) := by decide +kernel
theorem dX8_faultRead_1 : decode cX8_faultRead 1 = .ok (.getfield 30, 3) := by decide +kernel
theorem dX8_faultRead_4 : decode cX8_faultRead 4 = .ok (.iload_n 1, 1) := by decide +kernel
theorem dX8_faultRead_5 : decode cX8_faultRead 5 = .ok (.invokestatic 44, 3) := by decide +kernel
theorem dX8_faultRead_8 : decode cX8_faultRead 8 = .ok (.invokevirtual 49, 3) := by decide +kernel
theorem dX8_faultRead_11 : decode cX8_faultRead 11 = .ok (.iconst 0, 1) := by decide +kernel
theorem dX8_faultRead_12 : decode cX8_faultRead 12 = .ok (.istore_n 2, 1) := by decide +kernel
theorem dX8_faultRead_13 : decode cX8_faultRead 13 = .ok (.iload_n 2, 1) := by decide +kernel
theorem dX8_faultRead_14 : decode cX8_faultRead 14 = .ok (.aload_n 0, 1) := by decide +kernel
theorem dX8_faultRead_15 : decode cX8_faultRead 15 = .ok (.getfield 15, 3) := by decide +kernel
theorem dX8_faultRead_18 : decode cX8_faultRead 18 = .ok (.iload_n 1, 1) := by decide +kernel
theorem dX8_faultRead_19 : decode cX8_faultRead 19 = .ok (.iaload, 1) := by decide +kernel
theorem dX8_faultRead_20 : decode cX8_faultRead 20 = .ok (.if_icmp .ge 32, 3) := by decide +kernel
theorem dX8_faultRead_23 : decode cX8_faultRead 23 = .ok (.aload_n 0, 1) := by decide +kernel
theorem dX8_faultRead_24 : decode cX8_faultRead 24 = .ok (.getfield 30, 3) := by decide +kernel
theorem dX8_faultRead_27 : decode cX8_faultRead 27 = .ok (.iload_n 1, 1) := by decide +kernel
theorem dX8_faultRead_28 : decode cX8_faultRead 28 = .ok (.iload_n 2, 1) := by decide +kernel
theorem dX8_faultRead_29 : decode cX8_faultRead 29 = .ok (.invokestatic 53, 3) := by decide +kernel
theorem dX8_faultRead_32 : decode cX8_faultRead 32 = .ok (.aload_n 0, 1) := by decide +kernel
theorem dX8_faultRead_33 : decode cX8_faultRead 33 = .ok (.iload_n 1, 1) := by decide +kernel
theorem dX8_faultRead_34 : decode cX8_faultRead 34 = .ok (.iload_n 2, 1) := by decide +kernel
theorem dX8_faultRead_35 : decode cX8_faultRead 35 = .ok (.invokevirtual 56, 3) := by decide +kernel
theorem dX8_faultRead_38 : decode cX8_faultRead 38 = .ok (.invokevirtual 59, 3) := by decide +kernel
theorem dX8_faultRead_41 : decode cX8_faultRead 41 = .ok (.ifCond .ne 5, 3) := by decide +kernel
theorem dX8_faultRead_44 : decode cX8_faultRead 44 = .ok (.iload_n 2, 1) := by decide +kernel
theorem dX8_faultRead_45 : decode cX8_faultRead 45 = .ok (.ireturn, 1) := by decide +kernel
theorem dX8_faultRead_46 : decode cX8_faultRead 46 = .ok (.iinc 2 1, 3) := by decide +kernel
theorem dX8_faultRead_49 : decode cX8_faultRead 49 = .ok (.goto (-36), 3) := by decide +kernel
theorem dX8_faultRead_52 : decode cX8_faultRead 52 = .ok (.aload_n 0, 1) := by decide +kernel
theorem dX8_faultRead_53 : decode cX8_faultRead 53 = .ok (.getfield 30, 3) := by decide +kernel
theorem dX8_faultRead_56 : decode cX8_faultRead 56 = .ok (.invokevirtual 63, 3) := by decide +kernel
theorem dX8_faultRead_59 : decode cX8_faultRead 59 = .ok (.ifCond .eq 7, 3) := by decide +kernel
theorem dX8_faultRead_62 : decode cX8_faultRead 62 = .ok (.iconst (-1), 1) := by decide +kernel
theorem dX8_faultRead_63 : decode cX8_faultRead 63 = .ok (.goto 9, 3) := by decide +kernel
theorem dX8_faultRead_66 : decode cX8_faultRead 66 = .ok (.aload_n 0, 1) := by decide +kernel
theorem dX8_faultRead_67 : decode cX8_faultRead 67 = .ok (.getfield 15, 3) := by decide +kernel
theorem dX8_faultRead_70 : decode cX8_faultRead 70 = .ok (.iload_n 1, 1) := by decide +kernel
theorem dX8_faultRead_71 : decode cX8_faultRead 71 = .ok (.iaload, 1) := by decide +kernel
theorem dX8_faultRead_72 : decode cX8_faultRead 72 = .ok (.ireturn, 1) := by decide +kernel
theorem dX9_init_0 : decode cX9_init 0 = .ok (.aload_n 0, 1) := by decide +kernel
theorem dX9_init_1 : decode cX9_init 1 = .ok (.invokespecial 5, 3) := by decide +kernel
theorem dX9_init_4 : decode cX9_init 4 = .ok (.aload_n 0, 1) := by decide +kernel
theorem dX9_init_5 : decode cX9_init 5 = .ok (.sipush 968, 3) := by decide +kernel
theorem dX9_init_8 : decode cX9_init 8 = .ok (.newarray .int, 2) := by decide +kernel
theorem dX9_init_10 : decode cX9_init 10 = .ok (.putfield 11, 3) := by decide +kernel
theorem dX9_init_13 : decode cX9_init 13 = .ok (.aload_n 0, 1) := by decide +kernel
theorem dX9_init_14 : decode cX9_init 14 = .ok (.sipush 968, 3) := by decide +kernel
theorem dX9_init_17 : decode cX9_init 17 = .ok (.newarray .int, 2) := by decide +kernel
theorem dX9_init_19 : decode cX9_init 19 = .ok (.putfield 15, 3) := by decide +kernel
theorem dX9_init_22 : decode cX9_init 22 = .ok (.aload_n 0, 1) := by decide +kernel
theorem dX9_init_23 : decode cX9_init 23 = .ok (.sipush 968, 3) := by decide +kernel
theorem dX9_init_26 : decode cX9_init 26 = .ok (.newarray .int, 2) := by decide +kernel
theorem dX9_init_28 : decode cX9_init 28 = .ok (.putfield 18, 3) := by decide +kernel
theorem dX9_init_31 : decode cX9_init 31 = .ok (.aload_n 0, 1) := by decide +kernel
theorem dX9_init_32 : decode cX9_init 32 = .ok (.sipush 968, 3) := by decide +kernel
theorem dX9_init_35 : decode cX9_init 35 = .ok (.newarray .int, 2) := by decide +kernel
theorem dX9_init_37 : decode cX9_init 37 = .ok (.putfield 21, 3) := by decide +kernel
theorem dX9_init_40 : decode cX9_init 40 = .ok (.aload_n 0, 1) := by decide +kernel
theorem dX9_init_41 : decode cX9_init 41 = .ok (.sipush 968, 3) := by decide +kernel
theorem dX9_init_44 : decode cX9_init 44 = .ok (.newarray .int, 2) := by decide +kernel
theorem dX9_init_46 : decode cX9_init 46 = .ok (.putfield 24, 3) := by decide +kernel
theorem dX9_init_49 : decode cX9_init 49 = .ok (.aload_n 0, 1) := by decide +kernel
theorem dX9_init_50 : decode cX9_init 50 = .ok (.sipush 968, 3) := by decide +kernel
theorem dX9_init_53 : decode cX9_init 53 = .ok (.newarray .int, 2) := by decide +kernel
theorem dX9_init_55 : decode cX9_init 55 = .ok (.putfield 27, 3) := by decide +kernel
theorem dX9_init_58 : decode cX9_init 58 = .ok (.return_, 1) := by decide +kernel
theorem dX9_placeOf_0 : decode cX9_placeOf 0 = .ok (.iload_n 0, 1) := by decide +kernel
theorem dX9_placeOf_1 : decode cX9_placeOf 1 = .ok (.bipush 121, 2) := by decide +kernel
theorem dX9_placeOf_3 : decode cX9_placeOf 3 = .ok (.imul, 1) := by decide +kernel
theorem dX9_placeOf_4 : decode cX9_placeOf 4 = .ok (.iload_n 1, 1) := by decide +kernel
theorem dX9_placeOf_5 : decode cX9_placeOf 5 = .ok (.iadd, 1) := by decide +kernel
theorem dX9_placeOf_6 : decode cX9_placeOf 6 = .ok (.ireturn, 1) := by decide +kernel
theorem dX9_rowOf_0 : decode cX9_rowOf 0 = .ok (.iload_n 0, 1) := by decide +kernel
theorem dX9_rowOf_1 : decode cX9_rowOf 1 = .ok (.bipush 120, 2) := by decide +kernel
theorem dX9_rowOf_3 : decode cX9_rowOf 3 = .ok (.invokestatic 30, 3) := by decide +kernel
theorem dX9_rowOf_6 : decode cX9_rowOf 6 = .ok (.ireturn, 1) := by decide +kernel
theorem dX9_make_0 : decode cX9_make 0 = .ok (.iload_n 1, 1) := by decide +kernel
theorem dX9_make_1 : decode cX9_make 1 = .ok (.ifCond .lt 52, 3) := by decide +kernel
theorem dX9_make_4 : decode cX9_make 4 = .ok (.iload_n 1, 1) := by decide +kernel
theorem dX9_make_5 : decode cX9_make 5 = .ok (.sipush 968, 3) := by decide +kernel
theorem dX9_make_8 : decode cX9_make 8 = .ok (.if_icmp .ge 45, 3) := by decide +kernel
theorem dX9_make_11 : decode cX9_make 11 = .ok (.aload_n 0, 1) := by decide +kernel
theorem dX9_make_12 : decode cX9_make 12 = .ok (.getfield 11, 3) := by decide +kernel
theorem dX9_make_15 : decode cX9_make 15 = .ok (.iload_n 1, 1) := by decide +kernel
theorem dX9_make_16 : decode cX9_make 16 = .ok (.iload_n 2, 1) := by decide +kernel
theorem dX9_make_17 : decode cX9_make 17 = .ok (.iastore, 1) := by decide +kernel
theorem dX9_make_18 : decode cX9_make 18 = .ok (.aload_n 0, 1) := by decide +kernel
theorem dX9_make_19 : decode cX9_make 19 = .ok (.getfield 15, 3) := by decide +kernel
theorem dX9_make_22 : decode cX9_make 22 = .ok (.iload_n 1, 1) := by decide +kernel
theorem dX9_make_23 : decode cX9_make 23 = .ok (.iconst 0, 1) := by decide +kernel
theorem dX9_make_24 : decode cX9_make 24 = .ok (.iastore, 1) := by decide +kernel
theorem dX9_make_25 : decode cX9_make 25 = .ok (.aload_n 0, 1) := by decide +kernel
theorem dX9_make_26 : decode cX9_make 26 = .ok (.getfield 18, 3) := by decide +kernel
theorem dX9_make_29 : decode cX9_make 29 = .ok (.iload_n 1, 1) := by decide +kernel
theorem dX9_make_30 : decode cX9_make 30 = .ok (.iconst 0, 1) := by decide +kernel
theorem dX9_make_31 : decode cX9_make 31 = .ok (.iastore, 1) := by decide +kernel
theorem dX9_make_32 : decode cX9_make 32 = .ok (.aload_n 0, 1) := by decide +kernel
theorem dX9_make_33 : decode cX9_make 33 = .ok (.getfield 21, 3) := by decide +kernel
theorem dX9_make_36 : decode cX9_make 36 = .ok (.iload_n 1, 1) := by decide +kernel
theorem dX9_make_37 : decode cX9_make 37 = .ok (.iconst (-1), 1) := by decide +kernel
theorem dX9_make_38 : decode cX9_make 38 = .ok (.iastore, 1) := by decide +kernel
theorem dX9_make_39 : decode cX9_make 39 = .ok (.aload_n 0, 1) := by decide +kernel
theorem dX9_make_40 : decode cX9_make 40 = .ok (.getfield 24, 3) := by decide +kernel
theorem dX9_make_43 : decode cX9_make 43 = .ok (.iload_n 1, 1) := by decide +kernel
theorem dX9_make_44 : decode cX9_make 44 = .ok (.iconst (-1), 1) := by decide +kernel
theorem dX9_make_45 : decode cX9_make 45 = .ok (.iastore, 1) := by decide +kernel
theorem dX9_make_46 : decode cX9_make 46 = .ok (.aload_n 0, 1) := by decide +kernel
theorem dX9_make_47 : decode cX9_make 47 = .ok (.getfield 27, 3) := by decide +kernel
theorem dX9_make_50 : decode cX9_make 50 = .ok (.iload_n 1, 1) := by decide +kernel
theorem dX9_make_51 : decode cX9_make 51 = .ok (.iconst (-1), 1) := by decide +kernel
theorem dX9_make_52 : decode cX9_make 52 = .ok (.iastore, 1) := by decide +kernel
theorem dX9_make_53 : decode cX9_make 53 = .ok (.return_, 1) := by decide +kernel
theorem dX9_hang_0 : decode cX9_hang 0 = .ok (.iload_n 1, 1) := by decide +kernel
theorem dX9_hang_1 : decode cX9_hang 1 = .ok (.ifCond .lt 10, 3) := by decide +kernel
theorem dX9_hang_4 : decode cX9_hang 4 = .ok (.iload_n 1, 1) := by decide +kernel
theorem dX9_hang_5 : decode cX9_hang 5 = .ok (.sipush 968, 3) := by decide +kernel
theorem dX9_hang_8 : decode cX9_hang 8 = .ok (.if_icmp .lt 4, 3) := by decide +kernel
theorem dX9_hang_11 : decode cX9_hang 11 = .ok (.return_, 1) := by decide +kernel
theorem dX9_hang_12 : decode cX9_hang 12 = .ok (.aload_n 0, 1) := by decide +kernel
theorem dX9_hang_13 : decode cX9_hang 13 = .ok (.getfield 24, 3) := by decide +kernel
theorem dX9_hang_16 : decode cX9_hang 16 = .ok (.iload_n 1, 1) := by decide +kernel
theorem dX9_hang_17 : decode cX9_hang 17 = .ok (.iaload, 1) := by decide +kernel
theorem dX9_hang_18 : decode cX9_hang 18 = .ok (.istore_n 3, 1) := by decide +kernel
theorem dX9_hang_19 : decode cX9_hang 19 = .ok (.iload_n 3, 1) := by decide +kernel
theorem dX9_hang_20 : decode cX9_hang 20 = .ok (.ifCond .lt 20, 3) := by decide +kernel
theorem dX9_hang_23 : decode cX9_hang 23 = .ok (.iload_n 3, 1) := by decide +kernel
theorem dX9_hang_24 : decode cX9_hang 24 = .ok (.sipush 968, 3) := by decide +kernel
theorem dX9_hang_27 : decode cX9_hang 27 = .ok (.if_icmp .ge 13, 3) := by decide +kernel
theorem dX9_hang_30 : decode cX9_hang 30 = .ok (.aload_n 0, 1) := by decide +kernel
theorem dX9_hang_31 : decode cX9_hang 31 = .ok (.getfield 27, 3) := by decide +kernel
theorem dX9_hang_34 : decode cX9_hang 34 = .ok (.iload_n 3, 1) := by decide +kernel
theorem dX9_hang_35 : decode cX9_hang 35 = .ok (.iload_n 2, 1) := by decide +kernel
theorem dX9_hang_36 : decode cX9_hang 36 = .ok (.iastore, 1) := by decide +kernel
theorem dX9_hang_37 : decode cX9_hang 37 = .ok (.goto 10, 3) := by decide +kernel
theorem dX9_hang_40 : decode cX9_hang 40 = .ok (.aload_n 0, 1) := by decide +kernel
theorem dX9_hang_41 : decode cX9_hang 41 = .ok (.getfield 21, 3) := by decide +kernel
theorem dX9_hang_44 : decode cX9_hang 44 = .ok (.iload_n 1, 1) := by decide +kernel
theorem dX9_hang_45 : decode cX9_hang 45 = .ok (.iload_n 2, 1) := by decide +kernel
theorem dX9_hang_46 : decode cX9_hang 46 = .ok (.iastore, 1) := by decide +kernel
theorem dX9_hang_47 : decode cX9_hang 47 = .ok (.aload_n 0, 1) := by decide +kernel
theorem dX9_hang_48 : decode cX9_hang 48 = .ok (.getfield 24, 3) := by decide +kernel
theorem dX9_hang_51 : decode cX9_hang 51 = .ok (.iload_n 1, 1) := by decide +kernel
theorem dX9_hang_52 : decode cX9_hang 52 = .ok (.iload_n 2, 1) := by decide +kernel
theorem dX9_hang_53 : decode cX9_hang 53 = .ok (.iastore, 1) := by decide +kernel
theorem dX9_hang_54 : decode cX9_hang 54 = .ok (.aload_n 0, 1) := by decide +kernel
theorem dX9_hang_55 : decode cX9_hang 55 = .ok (.getfield 18, 3) := by decide +kernel
theorem dX9_hang_58 : decode cX9_hang 58 = .ok (.iload_n 1, 1) := by decide +kernel
theorem dX9_hang_59 : decode cX9_hang 59 = .ok (.dup2, 1) := by decide +kernel
theorem dX9_hang_60 : decode cX9_hang 60 = .ok (.iaload, 1) := by decide +kernel
theorem dX9_hang_61 : decode cX9_hang 61 = .ok (.iconst 1, 1) := by decide +kernel
theorem dX9_hang_62 : decode cX9_hang 62 = .ok (.iadd, 1) := by decide +kernel
theorem dX9_hang_63 : decode cX9_hang 63 = .ok (.iastore, 1) := by decide +kernel
theorem dX9_hang_64 : decode cX9_hang 64 = .ok (.return_, 1) := by decide +kernel
theorem dX9_setContent_0 : decode cX9_setContent 0 = .ok (.iload_n 1, 1) := by decide +kernel
theorem dX9_setContent_1 : decode cX9_setContent 1 = .ok (.ifCond .lt 17, 3) := by decide +kernel
theorem dX9_setContent_4 : decode cX9_setContent 4 = .ok (.iload_n 1, 1) := by decide +kernel
theorem dX9_setContent_5 : decode cX9_setContent 5 = .ok (.sipush 968, 3) := by decide +kernel
theorem dX9_setContent_8 : decode cX9_setContent 8 = .ok (.if_icmp .ge 10, 3) := by decide +kernel
theorem dX9_setContent_11 : decode cX9_setContent 11 = .ok (.aload_n 0, 1) := by decide +kernel
theorem dX9_setContent_12 : decode cX9_setContent 12 = .ok (.getfield 15, 3) := by decide +kernel
theorem dX9_setContent_15 : decode cX9_setContent 15 = .ok (.iload_n 1, 1) := by decide +kernel
theorem dX9_setContent_16 : decode cX9_setContent 16 = .ok (.iload_n 2, 1) := by decide +kernel
theorem dX9_setContent_17 : decode cX9_setContent 17 = .ok (.iastore, 1) := by decide +kernel
theorem dX9_setContent_18 : decode cX9_setContent 18 = .ok (.return_, 1) := by decide +kernel
theorem dX9_kindOf_0 : decode cX9_kindOf 0 = .ok (.iload_n 1, 1) := by decide +kernel
theorem dX9_kindOf_1 : decode cX9_kindOf 1 = .ok (.ifCond .lt 19, 3) := by decide +kernel
theorem dX9_kindOf_4 : decode cX9_kindOf 4 = .ok (.iload_n 1, 1) := by decide +kernel
theorem dX9_kindOf_5 : decode cX9_kindOf 5 = .ok (.sipush 968, 3) := by decide +kernel
theorem dX9_kindOf_8 : decode cX9_kindOf 8 = .ok (.if_icmp .ge 12, 3) := by decide +kernel
theorem dX9_kindOf_11 : decode cX9_kindOf 11 = .ok (.aload_n 0, 1) := by decide +kernel
theorem dX9_kindOf_12 : decode cX9_kindOf 12 = .ok (.getfield 11, 3) := by decide +kernel
theorem dX9_kindOf_15 : decode cX9_kindOf 15 = .ok (.iload_n 1, 1) := by decide +kernel
theorem dX9_kindOf_16 : decode cX9_kindOf 16 = .ok (.iaload, 1) := by decide +kernel
theorem dX9_kindOf_17 : decode cX9_kindOf 17 = .ok (.goto 4, 3) := by decide +kernel
theorem dX9_kindOf_20 : decode cX9_kindOf 20 = .ok (.iconst 0, 1) := by decide +kernel
theorem dX9_kindOf_21 : decode cX9_kindOf 21 = .ok (.ireturn, 1) := by decide +kernel
theorem dX9_contentOf_0 : decode cX9_contentOf 0 = .ok (.iload_n 1, 1) := by decide +kernel
theorem dX9_contentOf_1 : decode cX9_contentOf 1 = .ok (.ifCond .lt 19, 3) := by decide +kernel
theorem dX9_contentOf_4 : decode cX9_contentOf 4 = .ok (.iload_n 1, 1) := by decide +kernel
theorem dX9_contentOf_5 : decode cX9_contentOf 5 = .ok (.sipush 968, 3) := by decide +kernel
theorem dX9_contentOf_8 : decode cX9_contentOf 8 = .ok (.if_icmp .ge 12, 3) := by decide +kernel
theorem dX9_contentOf_11 : decode cX9_contentOf 11 = .ok (.aload_n 0, 1) := by decide +kernel
theorem dX9_contentOf_12 : decode cX9_contentOf 12 = .ok (.getfield 15, 3) := by decide +kernel
theorem dX9_contentOf_15 : decode cX9_contentOf 15 = .ok (.iload_n 1, 1) := by decide +kernel
theorem dX9_contentOf_16 : decode cX9_contentOf 16 = .ok (.iaload, 1) := by decide +kernel
theorem dX9_contentOf_17 : decode cX9_contentOf 17 = .ok (.goto 4, 3) := by decide +kernel
theorem dX9_contentOf_20 : decode cX9_contentOf 20 = .ok (.iconst 0, 1) := by decide +kernel
theorem dX9_contentOf_21 : decode cX9_contentOf 21 = .ok (.ireturn, 1) := by decide +kernel
theorem dX9_partsOf_0 : decode cX9_partsOf 0 = .ok (.iload_n 1, 1) := by decide +kernel
theorem dX9_partsOf_1 : decode cX9_partsOf 1 = .ok (.ifCond .lt 19, 3) := by decide +kernel
theorem dX9_partsOf_4 : decode cX9_partsOf 4 = .ok (.iload_n 1, 1) := by decide +kernel
theorem dX9_partsOf_5 : decode cX9_partsOf 5 = .ok (.sipush 968, 3) := by decide +kernel
theorem dX9_partsOf_8 : decode cX9_partsOf 8 = .ok (.if_icmp .ge 12, 3) := by decide +kernel
theorem dX9_partsOf_11 : decode cX9_partsOf 11 = .ok (.aload_n 0, 1) := by decide +kernel
theorem dX9_partsOf_12 : decode cX9_partsOf 12 = .ok (.getfield 18, 3) := by decide +kernel
theorem dX9_partsOf_15 : decode cX9_partsOf 15 = .ok (.iload_n 1, 1) := by decide +kernel
theorem dX9_partsOf_16 : decode cX9_partsOf 16 = .ok (.iaload, 1) := by decide +kernel
theorem dX9_partsOf_17 : decode cX9_partsOf 17 = .ok (.goto 4, 3) := by decide +kernel
theorem dX9_partsOf_20 : decode cX9_partsOf 20 = .ok (.iconst 0, 1) := by decide +kernel
theorem dX9_partsOf_21 : decode cX9_partsOf 21 = .ok (.ireturn, 1) := by decide +kernel
theorem dX9_partOf_0 : decode cX9_partOf 0 = .ok (.iload_n 1, 1) := by decide +kernel
theorem dX9_partOf_1 : decode cX9_partOf 1 = .ok (.ifCond .lt 24, 3) := by decide +kernel
theorem dX9_partOf_4 : decode cX9_partOf 4 = .ok (.iload_n 1, 1) := by decide +kernel
theorem dX9_partOf_5 : decode cX9_partOf 5 = .ok (.sipush 968, 3) := by decide +kernel
theorem dX9_partOf_8 : decode cX9_partOf 8 = .ok (.if_icmp .ge 17, 3) := by decide +kernel
theorem dX9_partOf_11 : decode cX9_partOf 11 = .ok (.iload_n 2, 1) := by decide +kernel
theorem dX9_partOf_12 : decode cX9_partOf 12 = .ok (.ifCond .lt 13, 3) := by decide +kernel
theorem dX9_partOf_15 : decode cX9_partOf 15 = .ok (.iload_n 2, 1) := by decide +kernel
theorem dX9_partOf_16 : decode cX9_partOf 16 = .ok (.aload_n 0, 1) := by decide +kernel
theorem dX9_partOf_17 : decode cX9_partOf 17 = .ok (.getfield 18, 3) := by decide +kernel
theorem dX9_partOf_20 : decode cX9_partOf 20 = .ok (.iload_n 1, 1) := by decide +kernel
theorem dX9_partOf_21 : decode cX9_partOf 21 = .ok (.iaload, 1) := by decide +kernel
theorem dX9_partOf_22 : decode cX9_partOf 22 = .ok (.if_icmp .lt 5, 3) := by decide +kernel
theorem dX9_partOf_25 : decode cX9_partOf 25 = .ok (.iconst (-1), 1) := by decide +kernel
theorem dX9_partOf_26 : decode cX9_partOf 26 = .ok (.ireturn, 1) := by decide +kernel
theorem dX9_partOf_27 : decode cX9_partOf 27 = .ok (.aload_n 0, 1) := by decide +kernel
theorem dX9_partOf_28 : decode cX9_partOf 28 = .ok (.getfield 21, 3) := by decide +kernel
theorem dX9_partOf_31 : decode cX9_partOf 31 = .ok (.iload_n 1, 1) := by decide +kernel
theorem dX9_partOf_32 : decode cX9_partOf 32 = .ok (.iaload, 1) := by decide +kernel
theorem dX9_partOf_33 : decode cX9_partOf 33 = .ok (.istore_n 3, 1) := by decide +kernel
theorem dX9_partOf_34 : decode cX9_partOf 34 = .ok (.iconst 0, 1) := by decide +kernel
theorem dX9_partOf_35 : decode cX9_partOf 35 = .ok (.istore 4, 2) := by decide +kernel
theorem dX9_partOf_37 : decode cX9_partOf 37 = .ok (.iload 4, 2) := by decide +kernel
theorem dX9_partOf_39 : decode cX9_partOf 39 = .ok (.iload_n 2, 1) := by decide +kernel
theorem dX9_partOf_40 : decode cX9_partOf 40 = .ok (.if_icmp .ge 27, 3) := by decide +kernel
theorem dX9_partOf_43 : decode cX9_partOf 43 = .ok (.iload_n 3, 1) := by decide +kernel
theorem dX9_partOf_44 : decode cX9_partOf 44 = .ok (.ifCond .lt 23, 3) := by decide +kernel
theorem dX9_partOf_47 : decode cX9_partOf 47 = .ok (.iload_n 3, 1) := by decide +kernel
theorem dX9_partOf_48 : decode cX9_partOf 48 = .ok (.sipush 968, 3) := by decide +kernel
theorem dX9_partOf_51 : decode cX9_partOf 51 = .ok (.if_icmp .ge 16, 3) := by decide +kernel
theorem dX9_partOf_54 : decode cX9_partOf 54 = .ok (.aload_n 0, 1) := by decide +kernel
theorem dX9_partOf_55 : decode cX9_partOf 55 = .ok (.getfield 27, 3) := by decide +kernel
theorem dX9_partOf_58 : decode cX9_partOf 58 = .ok (.iload_n 3, 1) := by decide +kernel
theorem dX9_partOf_59 : decode cX9_partOf 59 = .ok (.iaload, 1) := by decide +kernel
theorem dX9_partOf_60 : decode cX9_partOf 60 = .ok (.istore_n 3, 1) := by decide +kernel
theorem dX9_partOf_61 : decode cX9_partOf 61 = .ok (.iinc 4 1, 3) := by decide +kernel
theorem dX9_partOf_64 : decode cX9_partOf 64 = .ok (.goto (-27), 3) := by decide +kernel
theorem dX9_partOf_67 : decode cX9_partOf 67 = .ok (.iload_n 3, 1) := by decide +kernel
theorem dX9_partOf_68 : decode cX9_partOf 68 = .ok (.ireturn, 1) := by decide +kernel
theorem dX9_nextOf_0 : decode cX9_nextOf 0 = .ok (.iload_n 1, 1) := by decide +kernel
theorem dX9_nextOf_1 : decode cX9_nextOf 1 = .ok (.ifCond .lt 19, 3) := by decide +kernel
theorem dX9_nextOf_4 : decode cX9_nextOf 4 = .ok (.iload_n 1, 1) := by decide +kernel
theorem dX9_nextOf_5 : decode cX9_nextOf 5 = .ok (.sipush 968, 3) := by decide +kernel
theorem dX9_nextOf_8 : decode cX9_nextOf 8 = .ok (.if_icmp .ge 12, 3) := by decide +kernel
theorem dX9_nextOf_11 : decode cX9_nextOf 11 = .ok (.aload_n 0, 1) := by decide +kernel
theorem dX9_nextOf_12 : decode cX9_nextOf 12 = .ok (.getfield 27, 3) := by decide +kernel
theorem dX9_nextOf_15 : decode cX9_nextOf 15 = .ok (.iload_n 1, 1) := by decide +kernel
theorem dX9_nextOf_16 : decode cX9_nextOf 16 = .ok (.iaload, 1) := by decide +kernel
theorem dX9_nextOf_17 : decode cX9_nextOf 17 = .ok (.goto 4, 3) := by decide +kernel
theorem dX9_nextOf_20 : decode cX9_nextOf 20 = .ok (.iconst (-1), 1) := by decide +kernel
theorem dX9_nextOf_21 : decode cX9_nextOf 21 = .ok (.ireturn, 1) := by decide +kernel
theorem dX10_digitOf_0 : decode cX10_digitOf 0 = .ok (.iload_n 0, 1) := by decide +kernel
theorem dX10_digitOf_1 : decode cX10_digitOf 1 = .ok (.bipush 97, 2) := by decide +kernel
theorem dX10_digitOf_3 : decode cX10_digitOf 3 = .ok (.isub, 1) := by decide +kernel
theorem dX10_digitOf_4 : decode cX10_digitOf 4 = .ok (.iconst 1, 1) := by decide +kernel
theorem dX10_digitOf_5 : decode cX10_digitOf 5 = .ok (.iadd, 1) := by decide +kernel
theorem dX10_digitOf_6 : decode cX10_digitOf 6 = .ok (.ireturn, 1) := by decide +kernel
theorem dX10_goodOf_0 : decode cX10_goodOf 0 = .ok (.iload_n 0, 1) := by decide +kernel
theorem dX10_goodOf_1 : decode cX10_goodOf 1 = .ok (.iconst 1, 1) := by decide +kernel
theorem dX10_goodOf_2 : decode cX10_goodOf 2 = .ok (.if_icmp .lt 15, 3) := by decide +kernel
theorem dX10_goodOf_5 : decode cX10_goodOf 5 = .ok (.iload_n 0, 1) := by decide +kernel
theorem dX10_goodOf_6 : decode cX10_goodOf 6 = .ok (.bipush 8, 2) := by decide +kernel
theorem dX10_goodOf_8 : decode cX10_goodOf 8 = .ok (.if_icmp .gt 9, 3) := by decide +kernel
theorem dX10_goodOf_11 : decode cX10_goodOf 11 = .ok (.iload_n 0, 1) := by decide +kernel
theorem dX10_goodOf_12 : decode cX10_goodOf 12 = .ok (.iconst 1, 1) := by decide +kernel
theorem dX10_goodOf_13 : decode cX10_goodOf 13 = .ok (.isub, 1) := by decide +kernel
theorem dX10_goodOf_14 : decode cX10_goodOf 14 = .ok (.goto 4, 3) := by decide +kernel
theorem dX10_goodOf_17 : decode cX10_goodOf 17 = .ok (.iconst (-1), 1) := by decide +kernel
theorem dX10_goodOf_18 : decode cX10_goodOf 18 = .ok (.ireturn, 1) := by decide +kernel
theorem dX10_of_0 : decode cX10_of 0 = .ok (.iconst 0, 1) := by decide +kernel
theorem dX10_of_1 : decode cX10_of 1 = .ok (.istore_n 1, 1) := by decide +kernel
theorem dX10_of_2 : decode cX10_of 2 = .ok (.iload_n 1, 1) := by decide +kernel
theorem dX10_of_3 : decode cX10_of 3 = .ok (.getstatic 132, 3) := by decide +kernel
theorem dX10_of_6 : decode cX10_of 6 = .ok (.arraylength, 1) := by decide +kernel
theorem dX10_of_7 : decode cX10_of 7 = .ok (.if_icmp .ge 27, 3) := by decide +kernel
theorem dX10_of_10 : decode cX10_of 10 = .ok (.getstatic 132, 3) := by decide +kernel
theorem dX10_of_13 : decode cX10_of 13 = .ok (.iload_n 1, 1) := by decide +kernel
theorem dX10_of_14 : decode cX10_of 14 = .ok (.aaload, 1) := by decide +kernel
theorem dX10_of_15 : decode cX10_of 15 = .ok (.getfield 120, 3) := by decide +kernel
theorem dX10_of_18 : decode cX10_of 18 = .ok (.iload_n 0, 1) := by decide +kernel
theorem dX10_of_19 : decode cX10_of 19 = .ok (.if_icmp .ne 9, 3) := by decide +kernel
theorem dX10_of_22 : decode cX10_of 22 = .ok (.getstatic 132, 3) := by decide +kernel
theorem dX10_of_25 : decode cX10_of 25 = .ok (.iload_n 1, 1) := by decide +kernel
theorem dX10_of_26 : decode cX10_of 26 = .ok (.aaload, 1) := by decide +kernel
theorem dX10_of_27 : decode cX10_of 27 = .ok (.areturn, 1) := by decide +kernel
theorem dX10_of_28 : decode cX10_of 28 = .ok (.iinc 1 1, 3) := by decide +kernel
theorem dX10_of_31 : decode cX10_of 31 = .ok (.goto (-29), 3) := by decide +kernel
theorem dX10_of_34 : decode cX10_of 34 = .ok (.aconst_null, 1) := by decide +kernel
theorem dX10_of_35 : decode cX10_of 35 = .ok (.areturn, 1) := by decide +kernel
theorem dX10_allows_0 : decode cX10_allows 0 = .ok (.iload_n 1, 1) := by decide +kernel
theorem dX10_allows_1 : decode cX10_allows 1 = .ok (.aload_n 0, 1) := by decide +kernel
theorem dX10_allows_2 : decode cX10_allows 2 = .ok (.getfield 124, 3) := by decide +kernel
theorem dX10_allows_5 : decode cX10_allows 5 = .ok (.invokevirtual 106, 3) := by decide +kernel
theorem dX10_allows_8 : decode cX10_allows 8 = .ok (.if_icmp .eq 21, 3) := by decide +kernel
theorem dX10_allows_11 : decode cX10_allows 11 = .ok (.aload_n 0, 1) := by decide +kernel
theorem dX10_allows_12 : decode cX10_allows 12 = .ok (.getfield 128, 3) := by decide +kernel
theorem dX10_allows_15 : decode cX10_allows 15 = .ok (.ifCond .eq 18, 3) := by decide +kernel
theorem dX10_allows_18 : decode cX10_allows 18 = .ok (.iload_n 1, 1) := by decide +kernel
theorem dX10_allows_19 : decode cX10_allows 19 = .ok (.aload_n 0, 1) := by decide +kernel
theorem dX10_allows_20 : decode cX10_allows 20 = .ok (.getfield 124, 3) := by decide +kernel
theorem dX10_allows_23 : decode cX10_allows 23 = .ok (.invokevirtual 106, 3) := by decide +kernel
theorem dX10_allows_26 : decode cX10_allows 26 = .ok (.if_icmp .le 7, 3) := by decide +kernel
theorem dX10_allows_29 : decode cX10_allows 29 = .ok (.iconst 1, 1) := by decide +kernel
theorem dX10_allows_30 : decode cX10_allows 30 = .ok (.goto 4, 3) := by decide +kernel
theorem dX10_allows_33 : decode cX10_allows 33 = .ok (.iconst 0, 1) := by decide +kernel
theorem dX10_allows_34 : decode cX10_allows 34 = .ok (.ireturn, 1) := by decide +kernel
theorem dJx29ce0_ordinal_8abf5_0 : decode cJx29ce0_ordinal_8abf5 0 = .ok (.aload_n 0, 1) := by decide +kernel
theorem dJx29ce0_ordinal_8abf5_1 : decode cJx29ce0_ordinal_8abf5 1 = .ok (.getfield 7, 3) := by decide +kernel
theorem dJx29ce0_ordinal_8abf5_4 : decode cJx29ce0_ordinal_8abf5 4 = .ok (.ireturn, 1) := by decide +kernel
theorem dJ9_max_7cf53_0 : decode cJ9_max_7cf53 0 = .ok (.iload_n 0, 1) := by decide +kernel
theorem dJ9_max_7cf53_1 : decode cJ9_max_7cf53 1 = .ok (.iload_n 1, 1) := by decide +kernel
theorem dJ9_max_7cf53_2 : decode cJ9_max_7cf53 2 = .ok (.if_icmp .lt 7, 3) := by decide +kernel
theorem dJ9_max_7cf53_5 : decode cJ9_max_7cf53 5 = .ok (.iload_n 0, 1) := by decide +kernel
theorem dJ9_max_7cf53_6 : decode cJ9_max_7cf53 6 = .ok (.goto 4, 3) := by decide +kernel
theorem dJ9_max_7cf53_9 : decode cJ9_max_7cf53 9 = .ok (.iload_n 1, 1) := by decide +kernel
theorem dJ9_max_7cf53_10 : decode cJ9_max_7cf53 10 = .ok (.ireturn, 1) := by decide +kernel
theorem dJ9_min_7cf53_0 : decode cJ9_min_7cf53 0 = .ok (.iload_n 0, 1) := by decide +kernel
theorem dJ9_min_7cf53_1 : decode cJ9_min_7cf53 1 = .ok (.iload_n 1, 1) := by decide +kernel
theorem dJ9_min_7cf53_2 : decode cJ9_min_7cf53 2 = .ok (.if_icmp .gt 7, 3) := by decide +kernel
theorem dJ9_min_7cf53_5 : decode cJ9_min_7cf53 5 = .ok (.iload_n 0, 1) := by decide +kernel
theorem dJ9_min_7cf53_6 : decode cJ9_min_7cf53 6 = .ok (.goto 4, 3) := by decide +kernel
theorem dJ9_min_7cf53_9 : decode cJ9_min_7cf53 9 = .ok (.iload_n 1, 1) := by decide +kernel
theorem dJ9_min_7cf53_10 : decode cJ9_min_7cf53 10 = .ok (.ireturn, 1) := by decide +kernel
theorem dJ0_length_8abf5_0 : decode cJ0_length_8abf5 0 = .ok (.aload_n 0, 1) := by decide +kernel
theorem dJ0_length_8abf5_1 : decode cJ0_length_8abf5 1 = .ok (.getfield 9, 3) := by decide +kernel
theorem dJ0_length_8abf5_4 : decode cJ0_length_8abf5 4 = .ok (.arraylength, 1) := by decide +kernel
theorem dJ0_length_8abf5_5 : decode cJ0_length_8abf5 5 = .ok (.aload_n 0, 1) := by decide +kernel
theorem dJ0_length_8abf5_6 : decode cJ0_length_8abf5 6 = .ok (.invokevirtual 335, 3) := by decide +kernel
theorem dJ0_length_8abf5_9 : decode cJ0_length_8abf5 9 = .ok (.ishr, 1) := by decide +kernel
theorem dJ0_length_8abf5_10 : decode cJ0_length_8abf5 10 = .ok (.ireturn, 1) := by decide +kernel
theorem dJ0_charAt_5068e_0 : decode cJ0_charAt_5068e 0 = .ok (.aload_n 0, 1) := by decide +kernel
theorem dJ0_charAt_5068e_1 : decode cJ0_charAt_5068e 1 = .ok (.invokevirtual 492, 3) := by decide +kernel
theorem dJ0_charAt_5068e_4 : decode cJ0_charAt_5068e 4 = .ok (.ifCond .eq 12, 3) := by decide +kernel
theorem dJ0_charAt_5068e_7 : decode cJ0_charAt_5068e 7 = .ok (.aload_n 0, 1) := by decide +kernel
theorem dJ0_charAt_5068e_8 : decode cJ0_charAt_5068e 8 = .ok (.getfield 9, 3) := by decide +kernel
theorem dJ0_charAt_5068e_11 : decode cJ0_charAt_5068e 11 = .ok (.iload_n 1, 1) := by decide +kernel
theorem dJ0_charAt_5068e_12 : decode cJ0_charAt_5068e 12 = .ok (.invokestatic 495, 3) := by decide +kernel
theorem dJ0_charAt_5068e_15 : decode cJ0_charAt_5068e 15 = .ok (.ireturn, 1) := by decide +kernel
theorem dJ0_charAt_5068e_16 : decode cJ0_charAt_5068e 16 = .ok (.aload_n 0, 1) := by decide +kernel
theorem dJ0_charAt_5068e_17 : decode cJ0_charAt_5068e 17 = .ok (.getfield 9, 3) := by decide +kernel
theorem dJ0_charAt_5068e_20 : decode cJ0_charAt_5068e 20 = .ok (.iload_n 1, 1) := by decide +kernel
theorem dJ0_charAt_5068e_21 : decode cJ0_charAt_5068e 21 = .ok (.invokestatic 498, 3) := by decide +kernel
theorem dJ0_charAt_5068e_24 : decode cJ0_charAt_5068e 24 = .ok (.ireturn, 1) := by decide +kernel
theorem dJ0_coder_7d493_0 : decode cJ0_coder_7d493 0 = .ok (.getstatic 38, 3) := by decide +kernel
theorem dJ0_coder_7d493_3 : decode cJ0_coder_7d493 3 = .ok (.ifCond .eq 10, 3) := by decide +kernel
theorem dJ0_coder_7d493_6 : decode cJ0_coder_7d493 6 = .ok (.aload_n 0, 1) := by decide +kernel
theorem dJ0_coder_7d493_7 : decode cJ0_coder_7d493 7 = .ok (.getfield 15, 3) := by decide +kernel
theorem dJ0_coder_7d493_10 : decode cJ0_coder_7d493 10 = .ok (.goto 4, 3) := by decide +kernel
theorem dJ0_coder_7d493_13 : decode cJ0_coder_7d493 13 = .ok (.iconst 1, 1) := by decide +kernel
theorem dJ0_coder_7d493_14 : decode cJ0_coder_7d493 14 = .ok (.ireturn, 1) := by decide +kernel
theorem dJ0_isLatin1_aae02_0 : decode cJ0_isLatin1_aae02 0 = .ok (.getstatic 38, 3) := by decide +kernel
theorem dJ0_isLatin1_aae02_3 : decode cJ0_isLatin1_aae02 3 = .ok (.ifCond .eq 14, 3) := by decide +kernel
theorem dJ0_isLatin1_aae02_6 : decode cJ0_isLatin1_aae02 6 = .ok (.aload_n 0, 1) := by decide +kernel
theorem dJ0_isLatin1_aae02_7 : decode cJ0_isLatin1_aae02 7 = .ok (.getfield 15, 3) := by decide +kernel
theorem dJ0_isLatin1_aae02_10 : decode cJ0_isLatin1_aae02 10 = .ok (.ifCond .ne 7, 3) := by decide +kernel
theorem dJ0_isLatin1_aae02_13 : decode cJ0_isLatin1_aae02 13 = .ok (.iconst 1, 1) := by decide +kernel
theorem dJ0_isLatin1_aae02_14 : decode cJ0_isLatin1_aae02 14 = .ok (.goto 4, 3) := by decide +kernel
theorem dJ0_isLatin1_aae02_17 : decode cJ0_isLatin1_aae02 17 = .ok (.iconst 0, 1) := by decide +kernel
theorem dJ0_isLatin1_aae02_18 : decode cJ0_isLatin1_aae02 18 = .ok (.ireturn, 1) := by decide +kernel
theorem dJ0_checkIndex_df160_0 : decode cJ0_checkIndex_df160 0 = .ok (.iload_n 0, 1) := by decide +kernel
theorem dJ0_checkIndex_df160_1 : decode cJ0_checkIndex_df160 1 = .ok (.iload_n 1, 1) := by decide +kernel
theorem dJ0_checkIndex_df160_2 : decode cJ0_checkIndex_df160 2 = .ok (.getstatic 1053, 3) := by decide +kernel
theorem dJ0_checkIndex_df160_5 : decode cJ0_checkIndex_df160 5 = .ok (.invokestatic 1059, 3) := by decide +kernel
theorem dJ0_checkIndex_df160_8 : decode cJ0_checkIndex_df160 8 = .ok (.pop, 1) := by decide +kernel
theorem dJ0_checkIndex_df160_9 : decode cJ0_checkIndex_df160 9 = .ok (.return_, 1) := by decide +kernel
theorem dJ1_charAt_3b067_0 : decode cJ1_charAt_3b067 0 = .ok (.iload_n 1, 1) := by decide +kernel
theorem dJ1_charAt_3b067_1 : decode cJ1_charAt_3b067 1 = .ok (.aload_n 0, 1) := by decide +kernel
theorem dJ1_charAt_3b067_2 : decode cJ1_charAt_3b067 2 = .ok (.arraylength, 1) := by decide +kernel
theorem dJ1_charAt_3b067_3 : decode cJ1_charAt_3b067 3 = .ok (.invokestatic 9, 3) := by decide +kernel
theorem dJ1_charAt_3b067_6 : decode cJ1_charAt_3b067 6 = .ok (.aload_n 0, 1) := by decide +kernel
theorem dJ1_charAt_3b067_7 : decode cJ1_charAt_3b067 7 = .ok (.iload_n 1, 1) := by decide +kernel
theorem dJ1_charAt_3b067_8 : decode cJ1_charAt_3b067 8 = .ok (.baload, 1) := by decide +kernel
theorem dJ1_charAt_3b067_9 : decode cJ1_charAt_3b067 9 = .ok (.sipush 255, 3) := by decide +kernel
theorem dJ1_charAt_3b067_12 : decode cJ1_charAt_3b067 12 = .ok (.iand, 1) := by decide +kernel
theorem dJ1_charAt_3b067_13 : decode cJ1_charAt_3b067 13 = .ok (.i2c, 1) := by decide +kernel
theorem dJ1_charAt_3b067_14 : decode cJ1_charAt_3b067 14 = .ok (.ireturn, 1) := by decide +kernel
theorem dJ2_getChar_3b067_0 : decode cJ2_getChar_3b067 0 = .ok (.getstatic 44, 3) := by decide +kernel
theorem dJ2_getChar_3b067_3 : decode cJ2_getChar_3b067 3 = .ok (.ifCond .ne 25, 3) := by decide +kernel
theorem dJ2_getChar_3b067_6 : decode cJ2_getChar_3b067 6 = .ok (.iload_n 1, 1) := by decide +kernel
theorem dJ2_getChar_3b067_7 : decode cJ2_getChar_3b067 7 = .ok (.ifCond .lt 11, 3) := by decide +kernel
theorem dJ2_getChar_3b067_10 : decode cJ2_getChar_3b067 10 = .ok (.iload_n 1, 1) := by decide +kernel
theorem dJ2_getChar_3b067_11 : decode cJ2_getChar_3b067 11 = .ok (.aload_n 0, 1) := by decide +kernel
theorem dJ2_getChar_3b067_12 : decode cJ2_getChar_3b067 12 = .ok (.invokestatic 48, 3) := by decide +kernel
theorem dJ2_getChar_3b067_15 : decode cJ2_getChar_3b067 15 = .ok (.if_icmp .lt 13, 3) := by decide +kernel
theorem dJ2_getChar_3b067_18 : decode cJ2_getChar_3b067 18 = .ok (.new 52, 3) := by decide +kernel
theorem dJ2_getChar_3b067_21 : decode cJ2_getChar_3b067 21 = .ok (.dup, 1) := by decide +kernel
theorem dJ2_getChar_3b067_22 : decode cJ2_getChar_3b067 22 = .ok (.ldc 54, 2) := by decide +kernel
theorem dJ2_getChar_3b067_24 : decode cJ2_getChar_3b067 24 = .ok (.invokespecial 56, 3) := by decide +kernel
theorem dJ2_getChar_3b067_27 : decode cJ2_getChar_3b067 27 = .ok (.athrow, 1) := by decide +kernel
theorem dJ2_getChar_3b067_28 : decode cJ2_getChar_3b067 28 = .ok (.iload_n 1, 1) := by decide +kernel
theorem dJ2_getChar_3b067_29 : decode cJ2_getChar_3b067 29 = .ok (.iconst 1, 1) := by decide +kernel
theorem dJ2_getChar_3b067_30 : decode cJ2_getChar_3b067 30 = .ok (.ishl, 1) := by decide +kernel
theorem dJ2_getChar_3b067_31 : decode cJ2_getChar_3b067 31 = .ok (.istore_n 1, 1) := by decide +kernel
theorem dJ2_getChar_3b067_32 : decode cJ2_getChar_3b067 32 = .ok (.aload_n 0, 1) := by decide +kernel
theorem dJ2_getChar_3b067_33 : decode cJ2_getChar_3b067 33 = .ok (.iload_n 1, 1) := by decide +kernel
theorem dJ2_getChar_3b067_34 : decode cJ2_getChar_3b067 34 = .ok (.iinc 1 1, 3) := by decide +kernel
theorem dJ2_getChar_3b067_37 : decode cJ2_getChar_3b067 37 = .ok (.baload, 1) := by decide +kernel
theorem dJ2_getChar_3b067_38 : decode cJ2_getChar_3b067 38 = .ok (.sipush 255, 3) := by decide +kernel
theorem dJ2_getChar_3b067_41 : decode cJ2_getChar_3b067 41 = .ok (.iand, 1) := by decide +kernel
theorem dJ2_getChar_3b067_42 : decode cJ2_getChar_3b067 42 = .ok (.getstatic 59, 3) := by decide +kernel
theorem dJ2_getChar_3b067_45 : decode cJ2_getChar_3b067 45 = .ok (.ishl, 1) := by decide +kernel
theorem dJ2_getChar_3b067_46 : decode cJ2_getChar_3b067 46 = .ok (.aload_n 0, 1) := by decide +kernel
theorem dJ2_getChar_3b067_47 : decode cJ2_getChar_3b067 47 = .ok (.iload_n 1, 1) := by decide +kernel
theorem dJ2_getChar_3b067_48 : decode cJ2_getChar_3b067 48 = .ok (.baload, 1) := by decide +kernel
theorem dJ2_getChar_3b067_49 : decode cJ2_getChar_3b067 49 = .ok (.sipush 255, 3) := by decide +kernel
theorem dJ2_getChar_3b067_52 : decode cJ2_getChar_3b067 52 = .ok (.iand, 1) := by decide +kernel
theorem dJ2_getChar_3b067_53 : decode cJ2_getChar_3b067 53 = .ok (.getstatic 63, 3) := by decide +kernel
theorem dJ2_getChar_3b067_56 : decode cJ2_getChar_3b067 56 = .ok (.ishl, 1) := by decide +kernel
theorem dJ2_getChar_3b067_57 : decode cJ2_getChar_3b067 57 = .ok (.ior, 1) := by decide +kernel
theorem dJ2_getChar_3b067_58 : decode cJ2_getChar_3b067 58 = .ok (.i2c, 1) := by decide +kernel
theorem dJ2_getChar_3b067_59 : decode cJ2_getChar_3b067 59 = .ok (.ireturn, 1) := by decide +kernel
theorem dJ2_length_9d52b_0 : decode cJ2_length_9d52b 0 = .ok (.aload_n 0, 1) := by decide +kernel
theorem dJ2_length_9d52b_1 : decode cJ2_length_9d52b 1 = .ok (.arraylength, 1) := by decide +kernel
theorem dJ2_length_9d52b_2 : decode cJ2_length_9d52b 2 = .ok (.iconst 1, 1) := by decide +kernel
theorem dJ2_length_9d52b_3 : decode cJ2_length_9d52b 3 = .ok (.ishr, 1) := by decide +kernel
theorem dJ2_length_9d52b_4 : decode cJ2_length_9d52b 4 = .ok (.ireturn, 1) := by decide +kernel
theorem dJ2_charAt_3b067_0 : decode cJ2_charAt_3b067 0 = .ok (.iload_n 1, 1) := by decide +kernel
theorem dJ2_charAt_3b067_1 : decode cJ2_charAt_3b067 1 = .ok (.aload_n 0, 1) := by decide +kernel
theorem dJ2_charAt_3b067_2 : decode cJ2_charAt_3b067 2 = .ok (.invokestatic 67, 3) := by decide +kernel
theorem dJ2_charAt_3b067_5 : decode cJ2_charAt_3b067 5 = .ok (.aload_n 0, 1) := by decide +kernel
theorem dJ2_charAt_3b067_6 : decode cJ2_charAt_3b067 6 = .ok (.iload_n 1, 1) := by decide +kernel
theorem dJ2_charAt_3b067_7 : decode cJ2_charAt_3b067 7 = .ok (.invokestatic 71, 3) := by decide +kernel
theorem dJ2_charAt_3b067_10 : decode cJ2_charAt_3b067 10 = .ok (.ireturn, 1) := by decide +kernel
theorem dJ2_checkIndex_2214a_0 : decode cJ2_checkIndex_2214a 0 = .ok (.iload_n 0, 1) := by decide +kernel
theorem dJ2_checkIndex_2214a_1 : decode cJ2_checkIndex_2214a 1 = .ok (.aload_n 1, 1) := by decide +kernel
theorem dJ2_checkIndex_2214a_2 : decode cJ2_checkIndex_2214a 2 = .ok (.invokestatic 48, 3) := by decide +kernel
theorem dJ2_checkIndex_2214a_5 : decode cJ2_checkIndex_2214a 5 = .ok (.invokestatic 414, 3) := by decide +kernel
theorem dJ2_checkIndex_2214a_8 : decode cJ2_checkIndex_2214a 8 = .ok (.return_, 1) := by decide +kernel
theorem dJ3_checkIndex_8e157_0 : decode cJ3_checkIndex_8e157 0 = .ok (.iload_n 0, 1) := by decide +kernel
theorem dJ3_checkIndex_8e157_1 : decode cJ3_checkIndex_8e157 1 = .ok (.ifCond .lt 8, 3) := by decide +kernel
theorem dJ3_checkIndex_8e157_4 : decode cJ3_checkIndex_8e157 4 = .ok (.iload_n 0, 1) := by decide +kernel
theorem dJ3_checkIndex_8e157_5 : decode cJ3_checkIndex_8e157 5 = .ok (.iload_n 1, 1) := by decide +kernel
theorem dJ3_checkIndex_8e157_6 : decode cJ3_checkIndex_8e157 6 = .ok (.if_icmp .lt 10, 3) := by decide +kernel
theorem dJ3_checkIndex_8e157_9 : decode cJ3_checkIndex_8e157 9 = .ok (.aload_n 2, 1) := by decide +kernel
theorem dJ3_checkIndex_8e157_10 : decode cJ3_checkIndex_8e157 10 = .ok (.iload_n 0, 1) := by decide +kernel
theorem dJ3_checkIndex_8e157_11 : decode cJ3_checkIndex_8e157 11 = .ok (.iload_n 1, 1) := by decide +kernel
theorem dJ3_checkIndex_8e157_12 : decode cJ3_checkIndex_8e157 12 = .ok (.invokestatic 95, 3) := by decide +kernel
theorem dJ3_checkIndex_8e157_15 : decode cJ3_checkIndex_8e157 15 = .ok (.athrow, 1) := by decide +kernel
theorem dJ3_checkIndex_8e157_16 : decode cJ3_checkIndex_8e157 16 = .ok (.iload_n 0, 1) := by decide +kernel
theorem dJ3_checkIndex_8e157_17 : decode cJ3_checkIndex_8e157 17 = .ok (.ireturn, 1) := by decide +kernel
theorem dX7_init_0 : decode cX7_init 0 = .ok (.aload_n 0, 1) := by decide +kernel
theorem dX7_init_1 : decode cX7_init 1 = .ok (.invokespecial 3, 3) := by decide +kernel
theorem dX7_init_4 : decode cX7_init 4 = .ok (.aload_n 0, 1) := by decide +kernel
theorem dX7_init_5 : decode cX7_init 5 = .ok (.new 9, 3) := by decide +kernel
theorem dX7_init_8 : decode cX7_init 8 = .ok (.dup, 1) := by decide +kernel
theorem dX7_init_9 : decode cX7_init 9 = .ok (.invokespecial 11, 3) := by decide +kernel
theorem dX7_init_12 : decode cX7_init 12 = .ok (.putfield 12, 3) := by decide +kernel
theorem dX7_init_15 : decode cX7_init 15 = .ok (.aload_n 0, 1) := by decide +kernel
theorem dX7_init_16 : decode cX7_init 16 = .ok (.aload_n 1, 1) := by decide +kernel
theorem dX7_init_17 : decode cX7_init 17 = .ok (.putfield 18, 3) := by decide +kernel
theorem dX7_init_20 : decode cX7_init 20 = .ok (.aload_n 0, 1) := by decide +kernel
theorem dX7_init_21 : decode cX7_init 21 = .ok (.aload_n 2, 1) := by decide +kernel
theorem dX7_init_22 : decode cX7_init 22 = .ok (.putfield 22, 3) := by decide +kernel
theorem dX7_init_25 : decode cX7_init 25 = .ok (.aload_n 0, 1) := by decide +kernel
theorem dX7_init_26 : decode cX7_init 26 = .ok (.aload_n 3, 1) := by decide +kernel
theorem dX7_init_27 : decode cX7_init 27 = .ok (.putfield 26, 3) := by decide +kernel
theorem dX7_init_30 : decode cX7_init 30 = .ok (.aload_n 0, 1) := by decide +kernel
theorem dX7_init_31 : decode cX7_init 31 = .ok (.aload 4, 2) := by decide +kernel
theorem dX7_init_33 : decode cX7_init 33 = .ok (.putfield 30, 3) := by decide +kernel
theorem dX7_init_36 : decode cX7_init 36 = .ok (.aload_n 0, 1) := by decide +kernel
theorem dX7_init_37 : decode cX7_init 37 = .ok (.aload 5, 2) := by decide +kernel
theorem dX7_init_39 : decode cX7_init 39 = .ok (.putfield 34, 3) := by decide +kernel
theorem dX7_init_42 : decode cX7_init 42 = .ok (.return_, 1) := by decide +kernel
theorem dX7_execute_0 : decode cX7_execute 0 = .ok (.aload_n 0, 1) := by decide +kernel
theorem dX7_execute_1 : decode cX7_execute 1 = .ok (.getfield 34, 3) := by decide +kernel
theorem dX7_execute_4 : decode cX7_execute 4 = .ok (.getfield 38, 3) := by decide +kernel
theorem dX7_execute_7 : decode cX7_execute 7 = .ok (.iload_n 1, 1) := by decide +kernel
theorem dX7_execute_8 : decode cX7_execute 8 = .ok (.aaload, 1) := by decide +kernel
theorem dX7_execute_9 : decode cX7_execute 9 = .ok (.astore_n 3, 1) := by decide +kernel
theorem dX7_execute_10 : decode cX7_execute 10 = .ok (.aload_n 0, 1) := by decide +kernel
theorem dX7_execute_11 : decode cX7_execute 11 = .ok (.iload_n 1, 1) := by decide +kernel
theorem dX7_execute_12 : decode cX7_execute 12 = .ok (.putfield 44, 3) := by decide +kernel
theorem dX7_execute_15 : decode cX7_execute 15 = .ok (.aload_n 0, 1) := by decide +kernel
theorem dX7_execute_16 : decode cX7_execute 16 = .ok (.aload_n 3, 1) := by decide +kernel
theorem dX7_execute_17 : decode cX7_execute 17 = .ok (.getfield 48, 3) := by decide +kernel
theorem dX7_execute_20 : decode cX7_execute 20 = .ok (.putfield 53, 3) := by decide +kernel
theorem dX7_execute_23 : decode cX7_execute 23 = .ok (.aload_n 0, 1) := by decide +kernel
theorem dX7_execute_24 : decode cX7_execute 24 = .ok (.iload_n 2, 1) := by decide +kernel
theorem dX7_execute_25 : decode cX7_execute 25 = .ok (.putfield 54, 3) := by decide +kernel
theorem dX7_execute_28 : decode cX7_execute 28 = .ok (.aload_n 0, 1) := by decide +kernel
theorem dX7_execute_29 : decode cX7_execute 29 = .ok (.iconst 0, 1) := by decide +kernel
theorem dX7_execute_30 : decode cX7_execute 30 = .ok (.putfield 57, 3) := by decide +kernel
theorem dX7_execute_33 : decode cX7_execute 33 = .ok (.aload_n 0, 1) := by decide +kernel
theorem dX7_execute_34 : decode cX7_execute 34 = .ok (.iconst 0, 1) := by decide +kernel
theorem dX7_execute_35 : decode cX7_execute 35 = .ok (.putfield 60, 3) := by decide +kernel
theorem dX7_execute_38 : decode cX7_execute 38 = .ok (.aload_n 0, 1) := by decide +kernel
theorem dX7_execute_39 : decode cX7_execute 39 = .ok (.getfield 12, 3) := by decide +kernel
theorem dX7_execute_42 : decode cX7_execute 42 = .ok (.invokevirtual 63, 3) := by decide +kernel
theorem dX7_execute_45 : decode cX7_execute 45 = .ok (.aload_n 0, 1) := by decide +kernel
theorem dX7_execute_46 : decode cX7_execute 46 = .ok (.getfield 22, 3) := by decide +kernel
theorem dX7_execute_49 : decode cX7_execute 49 = .ok (.invokevirtual 66, 3) := by decide +kernel
theorem dX7_execute_52 : decode cX7_execute 52 = .ok (.aload_n 0, 1) := by decide +kernel
theorem dX7_execute_53 : decode cX7_execute 53 = .ok (.getfield 22, 3) := by decide +kernel
theorem dX7_execute_56 : decode cX7_execute 56 = .ok (.aload_n 3, 1) := by decide +kernel
theorem dX7_execute_57 : decode cX7_execute 57 = .ok (.getfield 71, 3) := by decide +kernel
theorem dX7_execute_60 : decode cX7_execute 60 = .ok (.invokevirtual 74, 3) := by decide +kernel
theorem dX7_execute_63 : decode cX7_execute 63 = .ok (.iconst (-1), 1) := by decide +kernel
theorem dX7_execute_64 : decode cX7_execute 64 = .ok (.if_icmp .eq 11, 3) := by decide +kernel
theorem dX7_execute_67 : decode cX7_execute 67 = .ok (.aload_n 0, 1) := by decide +kernel
theorem dX7_execute_68 : decode cX7_execute 68 = .ok (.iconst 1, 1) := by decide +kernel
theorem dX7_execute_69 : decode cX7_execute 69 = .ok (.putfield 60, 3) := by decide +kernel
theorem dX7_execute_72 : decode cX7_execute 72 = .ok (.goto 78, 3) := by decide +kernel
theorem dX7_execute_75 : decode cX7_execute 75 = .ok (.aload_n 3, 1) := by decide +kernel
theorem dX7_execute_76 : decode cX7_execute 76 = .ok (.getfield 71, 3) := by decide +kernel
theorem dX7_execute_79 : decode cX7_execute 79 = .ok (.invokestatic 78, 3) := by decide +kernel
theorem dX7_execute_82 : decode cX7_execute 82 = .ok (.istore 4, 2) := by decide +kernel
theorem dX7_execute_84 : decode cX7_execute 84 = .ok (.aload_n 0, 1) := by decide +kernel
theorem dX7_execute_85 : decode cX7_execute 85 = .ok (.getfield 18, 3) := by decide +kernel
theorem dX7_execute_88 : decode cX7_execute 88 = .ok (.iload 4, 2) := by decide +kernel
theorem dX7_execute_90 : decode cX7_execute 90 = .ok (.aload_n 3, 1) := by decide +kernel
theorem dX7_execute_91 : decode cX7_execute 91 = .ok (.getfield 83, 3) := by decide +kernel
theorem dX7_execute_94 : decode cX7_execute 94 = .ok (.invokevirtual 86, 3) := by decide +kernel
theorem dX7_execute_97 : decode cX7_execute 97 = .ok (.istore 5, 2) := by decide +kernel
theorem dX7_execute_99 : decode cX7_execute 99 = .ok (.aload_n 3, 1) := by decide +kernel
theorem dX7_execute_100 : decode cX7_execute 100 = .ok (.getfield 83, 3) := by decide +kernel
theorem dX7_execute_103 : decode cX7_execute 103 = .ok (.istore 6, 2) := by decide +kernel
theorem dX7_execute_105 : decode cX7_execute 105 = .ok (.iload 6, 2) := by decide +kernel
theorem dX7_execute_107 : decode cX7_execute 107 = .ok (.aload_n 0, 1) := by decide +kernel
theorem dX7_execute_108 : decode cX7_execute 108 = .ok (.getfield 18, 3) := by decide +kernel
theorem dX7_execute_111 : decode cX7_execute 111 = .ok (.iload 4, 2) := by decide +kernel
theorem dX7_execute_113 : decode cX7_execute 113 = .ok (.invokevirtual 90, 3) := by decide +kernel
theorem dX7_execute_116 : decode cX7_execute 116 = .ok (.if_icmp .ge 34, 3) := by decide +kernel
theorem dX7_execute_119 : decode cX7_execute 119 = .ok (.aload_n 0, 1) := by decide +kernel
theorem dX7_execute_120 : decode cX7_execute 120 = .ok (.getfield 60, 3) := by decide +kernel
theorem dX7_execute_123 : decode cX7_execute 123 = .ok (.ifCond .ne 27, 3) := by decide +kernel
theorem dX7_execute_126 : decode cX7_execute 126 = .ok (.aload_n 0, 1) := by decide +kernel
theorem dX7_execute_127 : decode cX7_execute 127 = .ok (.aload_n 3, 1) := by decide +kernel
theorem dX7_execute_128 : decode cX7_execute 128 = .ok (.iload 5, 2) := by decide +kernel
theorem dX7_execute_130 : decode cX7_execute 130 = .ok (.invokevirtual 93, 3) := by decide +kernel
theorem dX7_execute_133 : decode cX7_execute 133 = .ok (.aload_n 0, 1) := by decide +kernel
theorem dX7_execute_134 : decode cX7_execute 134 = .ok (.getfield 18, 3) := by decide +kernel
theorem dX7_execute_137 : decode cX7_execute 137 = .ok (.iload 5, 2) := by decide +kernel
theorem dX7_execute_139 : decode cX7_execute 139 = .ok (.invokevirtual 97, 3) := by decide +kernel
theorem dX7_execute_142 : decode cX7_execute 142 = .ok (.istore 5, 2) := by decide +kernel
theorem dX7_execute_144 : decode cX7_execute 144 = .ok (.iinc 6 1, 3) := by decide +kernel
theorem dX7_execute_147 : decode cX7_execute 147 = .ok (.goto (-42), 3) := by decide +kernel
theorem dX7_execute_150 : decode cX7_execute 150 = .ok (.aload_n 3, 1) := by decide +kernel
theorem dX7_execute_151 : decode cX7_execute 151 = .ok (.dup, 1) := by decide +kernel
theorem dX7_execute_152 : decode cX7_execute 152 = .ok (.getfield 100, 3) := by decide +kernel
theorem dX7_execute_155 : decode cX7_execute 155 = .ok (.aload_n 0, 1) := by decide +kernel
theorem dX7_execute_156 : decode cX7_execute 156 = .ok (.getfield 57, 3) := by decide +kernel
theorem dX7_execute_159 : decode cX7_execute 159 = .ok (.iadd, 1) := by decide +kernel
theorem dX7_execute_160 : decode cX7_execute 160 = .ok (.putfield 100, 3) := by decide +kernel
theorem dX7_execute_163 : decode cX7_execute 163 = .ok (.aload_n 3, 1) := by decide +kernel
theorem dX7_execute_164 : decode cX7_execute 164 = .ok (.aload_n 0, 1) := by decide +kernel
theorem dX7_execute_165 : decode cX7_execute 165 = .ok (.invokevirtual 101, 3) := by decide +kernel
theorem dX7_execute_168 : decode cX7_execute 168 = .ok (.putfield 105, 3) := by decide +kernel
theorem dX7_execute_171 : decode cX7_execute 171 = .ok (.aload_n 3, 1) := by decide +kernel
theorem dX7_execute_172 : decode cX7_execute 172 = .ok (.aload_n 3, 1) := by decide +kernel
theorem dX7_execute_173 : decode cX7_execute 173 = .ok (.getfield 105, 3) := by decide +kernel
theorem dX7_execute_176 : decode cX7_execute 176 = .ok (.iconst 3, 1) := by decide +kernel
theorem dX7_execute_177 : decode cX7_execute 177 = .ok (.if_icmp .ne 10, 3) := by decide +kernel
theorem dX7_execute_180 : decode cX7_execute 180 = .ok (.aload_n 0, 1) := by decide +kernel
theorem dX7_execute_181 : decode cX7_execute 181 = .ok (.getfield 60, 3) := by decide +kernel
theorem dX7_execute_184 : decode cX7_execute 184 = .ok (.goto 4, 3) := by decide +kernel
theorem dX7_execute_187 : decode cX7_execute 187 = .ok (.iconst 0, 1) := by decide +kernel
theorem dX7_execute_188 : decode cX7_execute 188 = .ok (.putfield 108, 3) := by decide +kernel
theorem dX7_execute_191 : decode cX7_execute 191 = .ok (.return_, 1) := by decide +kernel
theorem dX7_stateThen_0 : decode cX7_stateThen 0 = .ok (.aload_n 0, 1) := by decide +kernel
theorem dX7_stateThen_1 : decode cX7_stateThen 1 = .ok (.getfield 60, 3) := by decide +kernel
theorem dX7_stateThen_4 : decode cX7_stateThen 4 = .ok (.ifCond .ne 5, 3) := by decide +kernel
theorem dX7_stateThen_7 : decode cX7_stateThen 7 = .ok (.iconst 1, 1) := by decide +kernel
theorem dX7_stateThen_8 : decode cX7_stateThen 8 = .ok (.ireturn, 1) := by decide +kernel
theorem dX7_stateThen_9 : decode cX7_stateThen 9 = .ok (.aload_n 0, 1) := by decide +kernel
theorem dX7_stateThen_10 : decode cX7_stateThen 10 = .ok (.getfield 60, 3) := by decide +kernel
theorem dX7_stateThen_13 : decode cX7_stateThen 13 = .ok (.bipush 7, 2) := by decide +kernel
theorem dX7_stateThen_15 : decode cX7_stateThen 15 = .ok (.if_icmp .ne 7, 3) := by decide +kernel
theorem dX7_stateThen_18 : decode cX7_stateThen 18 = .ok (.iconst 2, 1) := by decide +kernel
theorem dX7_stateThen_19 : decode cX7_stateThen 19 = .ok (.goto 4, 3) := by decide +kernel
theorem dX7_stateThen_22 : decode cX7_stateThen 22 = .ok (.iconst 3, 1) := by decide +kernel
theorem dX7_stateThen_23 : decode cX7_stateThen 23 = .ok (.ireturn, 1) := by decide +kernel
theorem dX7_runExpression_0 : decode cX7_runExpression 0 = .ok (.aload_n 0, 1) := by decide +kernel
theorem dX7_runExpression_1 : decode cX7_runExpression 1 = .ok (.getfield 30, 3) := by decide +kernel
theorem dX7_runExpression_4 : decode cX7_runExpression 4 = .ok (.getfield 111, 3) := by decide +kernel
theorem dX7_runExpression_7 : decode cX7_runExpression 7 = .ok (.istore_n 3, 1) := by decide +kernel
theorem dX7_runExpression_8 : decode cX7_runExpression 8 = .ok (.aload_n 0, 1) := by decide +kernel
theorem dX7_runExpression_9 : decode cX7_runExpression 9 = .ok (.getfield 34, 3) := by decide +kernel
theorem dX7_runExpression_12 : decode cX7_runExpression 12 = .ok (.getfield 116, 3) := by decide +kernel
theorem dX7_runExpression_15 : decode cX7_runExpression 15 = .ok (.istore 4, 2) := by decide +kernel
theorem dX7_runExpression_17 : decode cX7_runExpression 17 = .ok (.aload_n 0, 1) := by decide +kernel
theorem dX7_runExpression_18 : decode cX7_runExpression 18 = .ok (.iload_n 2, 1) := by decide +kernel
theorem dX7_runExpression_19 : decode cX7_runExpression 19 = .ok (.iconst 0, 1) := by decide +kernel
theorem dX7_runExpression_20 : decode cX7_runExpression 20 = .ok (.invokevirtual 117, 3) := by decide +kernel
theorem dX7_runExpression_23 : decode cX7_runExpression 23 = .ok (.istore 5, 2) := by decide +kernel
theorem dX7_runExpression_25 : decode cX7_runExpression 25 = .ok (.aload_n 0, 1) := by decide +kernel
theorem dX7_runExpression_26 : decode cX7_runExpression 26 = .ok (.getfield 60, 3) := by decide +kernel
theorem dX7_runExpression_29 : decode cX7_runExpression 29 = .ok (.ifCond .ne 22, 3) := by decide +kernel
theorem dX7_runExpression_32 : decode cX7_runExpression 32 = .ok (.aload_n 1, 1) := by decide +kernel
theorem dX7_runExpression_33 : decode cX7_runExpression 33 = .ok (.iload 5, 2) := by decide +kernel
theorem dX7_runExpression_35 : decode cX7_runExpression 35 = .ok (.putfield 120, 3) := by decide +kernel
theorem dX7_runExpression_38 : decode cX7_runExpression 38 = .ok (.aload_n 1, 1) := by decide +kernel
theorem dX7_runExpression_39 : decode cX7_runExpression 39 = .ok (.dup, 1) := by decide +kernel
theorem dX7_runExpression_40 : decode cX7_runExpression 40 = .ok (.getfield 83, 3) := by decide +kernel
theorem dX7_runExpression_43 : decode cX7_runExpression 43 = .ok (.iconst 1, 1) := by decide +kernel
theorem dX7_runExpression_44 : decode cX7_runExpression 44 = .ok (.iadd, 1) := by decide +kernel
theorem dX7_runExpression_45 : decode cX7_runExpression 45 = .ok (.putfield 83, 3) := by decide +kernel
theorem dX7_runExpression_48 : decode cX7_runExpression 48 = .ok (.goto 20, 3) := by decide +kernel
theorem dX7_runExpression_51 : decode cX7_runExpression 51 = .ok (.aload_n 0, 1) := by decide +kernel
theorem dX7_runExpression_52 : decode cX7_runExpression 52 = .ok (.getfield 30, 3) := by decide +kernel
theorem dX7_runExpression_55 : decode cX7_runExpression 55 = .ok (.iload_n 3, 1) := by decide +kernel
theorem dX7_runExpression_56 : decode cX7_runExpression 56 = .ok (.invokevirtual 123, 3) := by decide +kernel
theorem dX7_runExpression_59 : decode cX7_runExpression 59 = .ok (.aload_n 0, 1) := by decide +kernel
theorem dX7_runExpression_60 : decode cX7_runExpression 60 = .ok (.getfield 34, 3) := by decide +kernel
theorem dX7_runExpression_63 : decode cX7_runExpression 63 = .ok (.iload 4, 2) := by decide +kernel
theorem dX7_runExpression_65 : decode cX7_runExpression 65 = .ok (.invokevirtual 127, 3) := by decide +kernel
theorem dX7_runExpression_68 : decode cX7_runExpression 68 = .ok (.return_, 1) := by decide +kernel
theorem dX7_stop_0 : decode cX7_stop 0 = .ok (.aload_n 0, 1) := by decide +kernel
theorem dX7_stop_1 : decode cX7_stop 1 = .ok (.iload_n 1, 1) := by decide +kernel
theorem dX7_stop_2 : decode cX7_stop 2 = .ok (.putfield 60, 3) := by decide +kernel
theorem dX7_stop_5 : decode cX7_stop 5 = .ok (.iconst 0, 1) := by decide +kernel
theorem dX7_stop_6 : decode cX7_stop 6 = .ok (.ireturn, 1) := by decide +kernel
theorem dX7_valueAt_0 : decode cX7_valueAt 0 = .ok (.aload_n 0, 1) := by decide +kernel
theorem dX7_valueAt_1 : decode cX7_valueAt 1 = .ok (.getfield 60, 3) := by decide +kernel
theorem dX7_valueAt_4 : decode cX7_valueAt 4 = .ok (.ifCond .eq 5, 3) := by decide +kernel
theorem dX7_valueAt_7 : decode cX7_valueAt 7 = .ok (.iconst 0, 1) := by decide +kernel
theorem dX7_valueAt_8 : decode cX7_valueAt 8 = .ok (.ireturn, 1) := by decide +kernel
theorem dX7_valueAt_9 : decode cX7_valueAt 9 = .ok (.aload_n 0, 1) := by decide +kernel
theorem dX7_valueAt_10 : decode cX7_valueAt 10 = .ok (.getfield 57, 3) := by decide +kernel
theorem dX7_valueAt_13 : decode cX7_valueAt 13 = .ok (.aload_n 0, 1) := by decide +kernel
theorem dX7_valueAt_14 : decode cX7_valueAt 14 = .ok (.getfield 54, 3) := by decide +kernel
theorem dX7_valueAt_17 : decode cX7_valueAt 17 = .ok (.if_icmp .ge 17, 3) := by decide +kernel
theorem dX7_valueAt_20 : decode cX7_valueAt 20 = .ok (.aload_n 0, 1) := by decide +kernel
theorem dX7_valueAt_21 : decode cX7_valueAt 21 = .ok (.getfield 26, 3) := by decide +kernel
theorem dX7_valueAt_24 : decode cX7_valueAt 24 = .ok (.aload_n 0, 1) := by decide +kernel
theorem dX7_valueAt_25 : decode cX7_valueAt 25 = .ok (.getfield 53, 3) := by decide +kernel
theorem dX7_valueAt_28 : decode cX7_valueAt 28 = .ok (.invokevirtual 130, 3) := by decide +kernel
theorem dX7_valueAt_31 : decode cX7_valueAt 31 = .ok (.ifCond .ne 10, 3) := by decide +kernel
theorem dX7_valueAt_34 : decode cX7_valueAt 34 = .ok (.aload_n 0, 1) := by decide +kernel
theorem dX7_valueAt_35 : decode cX7_valueAt 35 = .ok (.bipush 7, 2) := by decide +kernel
theorem dX7_valueAt_37 : decode cX7_valueAt 37 = .ok (.invokevirtual 136, 3) := by decide +kernel
theorem dX7_valueAt_40 : decode cX7_valueAt 40 = .ok (.ireturn, 1) := by decide +kernel
theorem dX7_valueAt_41 : decode cX7_valueAt 41 = .ok (.aload_n 0, 1) := by decide +kernel
theorem dX7_valueAt_42 : decode cX7_valueAt 42 = .ok (.dup, 1) := by decide +kernel
theorem dX7_valueAt_43 : decode cX7_valueAt 43 = .ok (.getfield 57, 3) := by decide +kernel
theorem dX7_valueAt_46 : decode cX7_valueAt 46 = .ok (.iconst 1, 1) := by decide +kernel
theorem dX7_valueAt_47 : decode cX7_valueAt 47 = .ok (.iadd, 1) := by decide +kernel
theorem dX7_valueAt_48 : decode cX7_valueAt 48 = .ok (.putfield 57, 3) := by decide +kernel
theorem dX7_valueAt_51 : decode cX7_valueAt 51 = .ok (.iload_n 2, 1) := by decide +kernel
theorem dX7_valueAt_52 : decode cX7_valueAt 52 = .ok (.bipush 30, 2) := by decide +kernel
theorem dX7_valueAt_54 : decode cX7_valueAt 54 = .ok (.if_icmp .lt 9, 3) := by decide +kernel
theorem dX7_valueAt_57 : decode cX7_valueAt 57 = .ok (.aload_n 0, 1) := by decide +kernel
theorem dX7_valueAt_58 : decode cX7_valueAt 58 = .ok (.iconst 2, 1) := by decide +kernel
theorem dX7_valueAt_59 : decode cX7_valueAt 59 = .ok (.invokevirtual 136, 3) := by decide +kernel
theorem dX7_valueAt_62 : decode cX7_valueAt 62 = .ok (.ireturn, 1) := by decide +kernel
theorem dX7_valueAt_63 : decode cX7_valueAt 63 = .ok (.aload_n 0, 1) := by decide +kernel
theorem dX7_valueAt_64 : decode cX7_valueAt 64 = .ok (.getfield 18, 3) := by decide +kernel
theorem dX7_valueAt_67 : decode cX7_valueAt 67 = .ok (.iload_n 1, 1) := by decide +kernel
theorem dX7_valueAt_68 : decode cX7_valueAt 68 = .ok (.invokevirtual 139, 3) := by decide +kernel
theorem dX7_valueAt_71 : decode cX7_valueAt 71 = .ok (.lookupswitch 47 #[(1, 25), (2, 34)], 25) := by decide +kernel
theorem dX7_valueAt_96 : decode cX7_valueAt 96 = .ok (.aload_n 0, 1) := by decide +kernel
theorem dX7_valueAt_97 : decode cX7_valueAt 97 = .ok (.getfield 18, 3) := by decide +kernel
theorem dX7_valueAt_100 : decode cX7_valueAt 100 = .ok (.iload_n 1, 1) := by decide +kernel
theorem dX7_valueAt_101 : decode cX7_valueAt 101 = .ok (.invokevirtual 142, 3) := by decide +kernel
theorem dX7_valueAt_104 : decode cX7_valueAt 104 = .ok (.ireturn, 1) := by decide +kernel
theorem dX7_valueAt_105 : decode cX7_valueAt 105 = .ok (.aload_n 0, 1) := by decide +kernel
theorem dX7_valueAt_106 : decode cX7_valueAt 106 = .ok (.aload_n 0, 1) := by decide +kernel
theorem dX7_valueAt_107 : decode cX7_valueAt 107 = .ok (.getfield 18, 3) := by decide +kernel
theorem dX7_valueAt_110 : decode cX7_valueAt 110 = .ok (.iload_n 1, 1) := by decide +kernel
theorem dX7_valueAt_111 : decode cX7_valueAt 111 = .ok (.invokevirtual 142, 3) := by decide +kernel
theorem dX7_valueAt_114 : decode cX7_valueAt 114 = .ok (.invokevirtual 145, 3) := by decide +kernel
theorem dX7_valueAt_117 : decode cX7_valueAt 117 = .ok (.ireturn, 1) := by decide +kernel
theorem dX7_valueAt_118 : decode cX7_valueAt 118 = .ok (.aload_n 0, 1) := by decide +kernel
theorem dX7_valueAt_119 : decode cX7_valueAt 119 = .ok (.iload_n 1, 1) := by decide +kernel
theorem dX7_valueAt_120 : decode cX7_valueAt 120 = .ok (.iload_n 2, 1) := by decide +kernel
theorem dX7_valueAt_121 : decode cX7_valueAt 121 = .ok (.invokevirtual 148, 3) := by decide +kernel
theorem dX7_valueAt_124 : decode cX7_valueAt 124 = .ok (.ireturn, 1) := by decide +kernel
theorem dX7_valueOfName_0 : decode cX7_valueOfName 0 = .ok (.aload_n 0, 1) := by decide +kernel
theorem dX7_valueOfName_1 : decode cX7_valueOfName 1 = .ok (.getfield 12, 3) := by decide +kernel
theorem dX7_valueOfName_4 : decode cX7_valueOfName 4 = .ok (.iload_n 1, 1) := by decide +kernel
theorem dX7_valueOfName_5 : decode cX7_valueOfName 5 = .ok (.invokevirtual 151, 3) := by decide +kernel
theorem dX7_valueOfName_8 : decode cX7_valueOfName 8 = .ok (.istore_n 2, 1) := by decide +kernel
theorem dX7_valueOfName_9 : decode cX7_valueOfName 9 = .ok (.iload_n 2, 1) := by decide +kernel
theorem dX7_valueOfName_10 : decode cX7_valueOfName 10 = .ok (.iconst (-1), 1) := by decide +kernel
theorem dX7_valueOfName_11 : decode cX7_valueOfName 11 = .ok (.if_icmp .eq 12, 3) := by decide +kernel
theorem dX7_valueOfName_14 : decode cX7_valueOfName 14 = .ok (.aload_n 0, 1) := by decide +kernel
theorem dX7_valueOfName_15 : decode cX7_valueOfName 15 = .ok (.getfield 12, 3) := by decide +kernel
theorem dX7_valueOfName_18 : decode cX7_valueOfName 18 = .ok (.iload_n 2, 1) := by decide +kernel
theorem dX7_valueOfName_19 : decode cX7_valueOfName 19 = .ok (.invokevirtual 154, 3) := by decide +kernel
theorem dX7_valueOfName_22 : decode cX7_valueOfName 22 = .ok (.ireturn, 1) := by decide +kernel
theorem dX7_valueOfName_23 : decode cX7_valueOfName 23 = .ok (.iload_n 1, 1) := by decide +kernel
theorem dX7_valueOfName_24 : decode cX7_valueOfName 24 = .ok (.invokestatic 156, 3) := by decide +kernel
theorem dX7_valueOfName_27 : decode cX7_valueOfName 27 = .ok (.istore_n 3, 1) := by decide +kernel
theorem dX7_valueOfName_28 : decode cX7_valueOfName 28 = .ok (.iload_n 3, 1) := by decide +kernel
theorem dX7_valueOfName_29 : decode cX7_valueOfName 29 = .ok (.iconst (-1), 1) := by decide +kernel
theorem dX7_valueOfName_30 : decode cX7_valueOfName 30 = .ok (.if_icmp .ne 11, 3) := by decide +kernel
theorem dX7_valueOfName_33 : decode cX7_valueOfName 33 = .ok (.aload_n 0, 1) := by decide +kernel
theorem dX7_valueOfName_34 : decode cX7_valueOfName 34 = .ok (.iconst 3, 1) := by decide +kernel
theorem dX7_valueOfName_35 : decode cX7_valueOfName 35 = .ok (.invokevirtual 136, 3) := by decide +kernel
theorem dX7_valueOfName_38 : decode cX7_valueOfName 38 = .ok (.goto 15, 3) := by decide +kernel
theorem dX7_valueOfName_41 : decode cX7_valueOfName 41 = .ok (.aload_n 0, 1) := by decide +kernel
theorem dX7_valueOfName_42 : decode cX7_valueOfName 42 = .ok (.getfield 30, 3) := by decide +kernel
theorem dX7_valueOfName_45 : decode cX7_valueOfName 45 = .ok (.aload_n 0, 1) := by decide +kernel
theorem dX7_valueOfName_46 : decode cX7_valueOfName 46 = .ok (.getfield 53, 3) := by decide +kernel
theorem dX7_valueOfName_49 : decode cX7_valueOfName 49 = .ok (.iload_n 3, 1) := by decide +kernel
theorem dX7_valueOfName_50 : decode cX7_valueOfName 50 = .ok (.invokevirtual 161, 3) := by decide +kernel
theorem dX7_valueOfName_53 : decode cX7_valueOfName 53 = .ok (.ireturn, 1) := by decide +kernel
theorem dX7_valueOfList_0 : decode cX7_valueOfList 0 = .ok (.aload_n 0, 1) := by decide +kernel
theorem dX7_valueOfList_1 : decode cX7_valueOfList 1 = .ok (.getfield 18, 3) := by decide +kernel
theorem dX7_valueOfList_4 : decode cX7_valueOfList 4 = .ok (.iload_n 1, 1) := by decide +kernel
theorem dX7_valueOfList_5 : decode cX7_valueOfList 5 = .ok (.iconst 0, 1) := by decide +kernel
theorem dX7_valueOfList_6 : decode cX7_valueOfList 6 = .ok (.invokevirtual 86, 3) := by decide +kernel
theorem dX7_valueOfList_9 : decode cX7_valueOfList 9 = .ok (.istore_n 3, 1) := by decide +kernel
theorem dX7_valueOfList_10 : decode cX7_valueOfList 10 = .ok (.aload_n 0, 1) := by decide +kernel
theorem dX7_valueOfList_11 : decode cX7_valueOfList 11 = .ok (.getfield 18, 3) := by decide +kernel
theorem dX7_valueOfList_14 : decode cX7_valueOfList 14 = .ok (.iload_n 3, 1) := by decide +kernel
theorem dX7_valueOfList_15 : decode cX7_valueOfList 15 = .ok (.invokevirtual 139, 3) := by decide +kernel
theorem dX7_valueOfList_18 : decode cX7_valueOfList 18 = .ok (.iconst 2, 1) := by decide +kernel
theorem dX7_valueOfList_19 : decode cX7_valueOfList 19 = .ok (.if_icmp .eq 9, 3) := by decide +kernel
theorem dX7_valueOfList_22 : decode cX7_valueOfList 22 = .ok (.aload_n 0, 1) := by decide +kernel
theorem dX7_valueOfList_23 : decode cX7_valueOfList 23 = .ok (.iconst 4, 1) := by decide +kernel
theorem dX7_valueOfList_24 : decode cX7_valueOfList 24 = .ok (.invokevirtual 136, 3) := by decide +kernel
theorem dX7_valueOfList_27 : decode cX7_valueOfList 27 = .ok (.ireturn, 1) := by decide +kernel
theorem dX7_valueOfList_28 : decode cX7_valueOfList 28 = .ok (.aload_n 0, 1) := by decide +kernel
theorem dX7_valueOfList_29 : decode cX7_valueOfList 29 = .ok (.getfield 18, 3) := by decide +kernel
theorem dX7_valueOfList_32 : decode cX7_valueOfList 32 = .ok (.iload_n 3, 1) := by decide +kernel
theorem dX7_valueOfList_33 : decode cX7_valueOfList 33 = .ok (.invokevirtual 142, 3) := by decide +kernel
theorem dX7_valueOfList_36 : decode cX7_valueOfList 36 = .ok (.invokestatic 164, 3) := by decide +kernel
theorem dX7_valueOfList_39 : decode cX7_valueOfList 39 = .ok (.astore 4, 2) := by decide +kernel
theorem dX7_valueOfList_41 : decode cX7_valueOfList 41 = .ok (.aload 4, 2) := by decide +kernel
theorem dX7_valueOfList_43 : decode cX7_valueOfList 43 = .ok (.ifnonnull 18, 3) := by decide +kernel
theorem dX7_valueOfList_46 : decode cX7_valueOfList 46 = .ok (.aload_n 0, 1) := by decide +kernel
theorem dX7_valueOfList_47 : decode cX7_valueOfList 47 = .ok (.aload_n 0, 1) := by decide +kernel
theorem dX7_valueOfList_48 : decode cX7_valueOfList 48 = .ok (.getfield 18, 3) := by decide +kernel
theorem dX7_valueOfList_51 : decode cX7_valueOfList 51 = .ok (.iload_n 3, 1) := by decide +kernel
theorem dX7_valueOfList_52 : decode cX7_valueOfList 52 = .ok (.invokevirtual 142, 3) := by decide +kernel
theorem dX7_valueOfList_55 : decode cX7_valueOfList 55 = .ok (.iload_n 1, 1) := by decide +kernel
theorem dX7_valueOfList_56 : decode cX7_valueOfList 56 = .ok (.iload_n 2, 1) := by decide +kernel
theorem dX7_valueOfList_57 : decode cX7_valueOfList 57 = .ok (.invokevirtual 168, 3) := by decide +kernel
theorem dX7_valueOfList_60 : decode cX7_valueOfList 60 = .ok (.ireturn, 1) := by decide +kernel
theorem dX7_valueOfList_61 : decode cX7_valueOfList 61 = .ok (.aload_n 0, 1) := by decide +kernel
theorem dX7_valueOfList_62 : decode cX7_valueOfList 62 = .ok (.iload_n 1, 1) := by decide +kernel
theorem dX7_valueOfList_63 : decode cX7_valueOfList 63 = .ok (.aload 4, 2) := by decide +kernel
theorem dX7_valueOfList_65 : decode cX7_valueOfList 65 = .ok (.invokevirtual 172, 3) := by decide +kernel
theorem dX7_valueOfList_68 : decode cX7_valueOfList 68 = .ok (.ifCond .ne 9, 3) := by decide +kernel
theorem dX7_valueOfList_71 : decode cX7_valueOfList 71 = .ok (.aload_n 0, 1) := by decide +kernel
theorem dX7_valueOfList_72 : decode cX7_valueOfList 72 = .ok (.iconst 4, 1) := by decide +kernel
theorem dX7_valueOfList_73 : decode cX7_valueOfList 73 = .ok (.invokevirtual 136, 3) := by decide +kernel
theorem dX7_valueOfList_76 : decode cX7_valueOfList 76 = .ok (.ireturn, 1) := by decide +kernel
theorem dX7_valueOfList_77 : decode cX7_valueOfList 77 = .ok (.getstatic 176, 3) := by decide +kernel
theorem dX7_valueOfList_80 : decode cX7_valueOfList 80 = .ok (.aload 4, 2) := by decide +kernel
theorem dX7_valueOfList_82 : decode cX7_valueOfList 82 = .ok (.invokevirtual 182, 3) := by decide +kernel
theorem dX7_valueOfList_85 : decode cX7_valueOfList 85 = .ok (.iaload, 1) := by decide +kernel
theorem dX7_valueOfList_86 : decode cX7_valueOfList 86 = .ok (.tableswitch 253 1 17 #[82, 98, 98, 98, 107, 114, 122, 129, 136, 142, 168, 194, 201, 208, 221, 233, 245], 82) := by decide +kernel
theorem dX7_valueOfList_168 : decode cX7_valueOfList 168 = .ok (.aload_n 0, 1) := by decide +kernel
theorem dX7_valueOfList_169 : decode cX7_valueOfList 169 = .ok (.iload_n 1, 1) := by decide +kernel
theorem dX7_valueOfList_170 : decode cX7_valueOfList 170 = .ok (.iconst 1, 1) := by decide +kernel
theorem dX7_valueOfList_171 : decode cX7_valueOfList 171 = .ok (.iload_n 2, 1) := by decide +kernel
theorem dX7_valueOfList_172 : decode cX7_valueOfList 172 = .ok (.invokevirtual 185, 3) := by decide +kernel
theorem dX7_valueOfList_175 : decode cX7_valueOfList 175 = .ok (.ifCond .ne 7, 3) := by decide +kernel
theorem dX7_valueOfList_178 : decode cX7_valueOfList 178 = .ok (.iconst 1, 1) := by decide +kernel
theorem dX7_valueOfList_179 : decode cX7_valueOfList 179 = .ok (.goto 4, 3) := by decide +kernel
theorem dX7_valueOfList_182 : decode cX7_valueOfList 182 = .ok (.iconst 0, 1) := by decide +kernel
theorem dX7_valueOfList_183 : decode cX7_valueOfList 183 = .ok (.ireturn, 1) := by decide +kernel
theorem dX7_valueOfList_184 : decode cX7_valueOfList 184 = .ok (.aload_n 0, 1) := by decide +kernel
theorem dX7_valueOfList_185 : decode cX7_valueOfList 185 = .ok (.aload 4, 2) := by decide +kernel
theorem dX7_valueOfList_187 : decode cX7_valueOfList 187 = .ok (.iload_n 1, 1) := by decide +kernel
theorem dX7_valueOfList_188 : decode cX7_valueOfList 188 = .ok (.iload_n 2, 1) := by decide +kernel
theorem dX7_valueOfList_189 : decode cX7_valueOfList 189 = .ok (.invokevirtual 188, 3) := by decide +kernel
theorem dX7_valueOfList_192 : decode cX7_valueOfList 192 = .ok (.ireturn, 1) := by decide +kernel
theorem dX7_valueOfList_193 : decode cX7_valueOfList 193 = .ok (.aload_n 0, 1) := by decide +kernel
theorem dX7_valueOfList_194 : decode cX7_valueOfList 194 = .ok (.iload_n 1, 1) := by decide +kernel
theorem dX7_valueOfList_195 : decode cX7_valueOfList 195 = .ok (.iload_n 2, 1) := by decide +kernel
theorem dX7_valueOfList_196 : decode cX7_valueOfList 196 = .ok (.invokevirtual 192, 3) := by decide +kernel
theorem dX7_valueOfList_199 : decode cX7_valueOfList 199 = .ok (.ireturn, 1) := by decide +kernel
theorem dX7_valueOfList_200 : decode cX7_valueOfList 200 = .ok (.aload_n 0, 1) := by decide +kernel
theorem dX7_valueOfList_201 : decode cX7_valueOfList 201 = .ok (.iload_n 1, 1) := by decide +kernel
theorem dX7_valueOfList_202 : decode cX7_valueOfList 202 = .ok (.iconst 1, 1) := by decide +kernel
theorem dX7_valueOfList_203 : decode cX7_valueOfList 203 = .ok (.iload_n 2, 1) := by decide +kernel
theorem dX7_valueOfList_204 : decode cX7_valueOfList 204 = .ok (.invokevirtual 195, 3) := by decide +kernel
theorem dX7_valueOfList_207 : decode cX7_valueOfList 207 = .ok (.ireturn, 1) := by decide +kernel
theorem dX7_valueOfList_208 : decode cX7_valueOfList 208 = .ok (.aload_n 0, 1) := by decide +kernel
theorem dX7_valueOfList_209 : decode cX7_valueOfList 209 = .ok (.iload_n 1, 1) := by decide +kernel
theorem dX7_valueOfList_210 : decode cX7_valueOfList 210 = .ok (.iload_n 2, 1) := by decide +kernel
theorem dX7_valueOfList_211 : decode cX7_valueOfList 211 = .ok (.invokevirtual 198, 3) := by decide +kernel
theorem dX7_valueOfList_214 : decode cX7_valueOfList 214 = .ok (.ireturn, 1) := by decide +kernel
theorem dX7_valueOfList_215 : decode cX7_valueOfList 215 = .ok (.aload_n 0, 1) := by decide +kernel
theorem dX7_valueOfList_216 : decode cX7_valueOfList 216 = .ok (.iload_n 1, 1) := by decide +kernel
theorem dX7_valueOfList_217 : decode cX7_valueOfList 217 = .ok (.iload_n 2, 1) := by decide +kernel
theorem dX7_valueOfList_218 : decode cX7_valueOfList 218 = .ok (.invokevirtual 201, 3) := by decide +kernel
theorem dX7_valueOfList_221 : decode cX7_valueOfList 221 = .ok (.ireturn, 1) := by decide +kernel
theorem dX7_valueOfList_222 : decode cX7_valueOfList 222 = .ok (.aload_n 0, 1) := by decide +kernel
theorem dX7_valueOfList_223 : decode cX7_valueOfList 223 = .ok (.iload_n 1, 1) := by decide +kernel
theorem dX7_valueOfList_224 : decode cX7_valueOfList 224 = .ok (.invokevirtual 204, 3) := by decide +kernel
theorem dX7_valueOfList_227 : decode cX7_valueOfList 227 = .ok (.ireturn, 1) := by decide +kernel
theorem dX7_valueOfList_228 : decode cX7_valueOfList 228 = .ok (.aload_n 0, 1) := by decide +kernel
theorem dX7_valueOfList_229 : decode cX7_valueOfList 229 = .ok (.iconst (-1), 1) := by decide +kernel
theorem dX7_valueOfList_230 : decode cX7_valueOfList 230 = .ok (.aload_n 0, 1) := by decide +kernel
theorem dX7_valueOfList_231 : decode cX7_valueOfList 231 = .ok (.getfield 53, 3) := by decide +kernel
theorem dX7_valueOfList_234 : decode cX7_valueOfList 234 = .ok (.aload_n 0, 1) := by decide +kernel
theorem dX7_valueOfList_235 : decode cX7_valueOfList 235 = .ok (.getfield 18, 3) := by decide +kernel
theorem dX7_valueOfList_238 : decode cX7_valueOfList 238 = .ok (.iload_n 1, 1) := by decide +kernel
theorem dX7_valueOfList_239 : decode cX7_valueOfList 239 = .ok (.iconst 1, 1) := by decide +kernel
theorem dX7_valueOfList_240 : decode cX7_valueOfList 240 = .ok (.invokevirtual 86, 3) := by decide +kernel
theorem dX7_valueOfList_243 : decode cX7_valueOfList 243 = .ok (.aload_n 0, 1) := by decide +kernel
theorem dX7_valueOfList_244 : decode cX7_valueOfList 244 = .ok (.iload_n 1, 1) := by decide +kernel
theorem dX7_valueOfList_245 : decode cX7_valueOfList 245 = .ok (.iconst 2, 1) := by decide +kernel
theorem dX7_valueOfList_246 : decode cX7_valueOfList 246 = .ok (.iload_n 2, 1) := by decide +kernel
theorem dX7_valueOfList_247 : decode cX7_valueOfList 247 = .ok (.invokevirtual 185, 3) := by decide +kernel
theorem dX7_valueOfList_250 : decode cX7_valueOfList 250 = .ok (.invokevirtual 207, 3) := by decide +kernel
theorem dX7_valueOfList_253 : decode cX7_valueOfList 253 = .ok (.ireturn, 1) := by decide +kernel
theorem dX7_valueOfList_254 : decode cX7_valueOfList 254 = .ok (.aload_n 0, 1) := by decide +kernel
theorem dX7_valueOfList_255 : decode cX7_valueOfList 255 = .ok (.aload_n 0, 1) := by decide +kernel
theorem dX7_valueOfList_256 : decode cX7_valueOfList 256 = .ok (.getfield 53, 3) := by decide +kernel
theorem dX7_valueOfList_259 : decode cX7_valueOfList 259 = .ok (.iconst (-1), 1) := by decide +kernel
theorem dX7_valueOfList_260 : decode cX7_valueOfList 260 = .ok (.aload_n 0, 1) := by decide +kernel
theorem dX7_valueOfList_261 : decode cX7_valueOfList 261 = .ok (.getfield 18, 3) := by decide +kernel
theorem dX7_valueOfList_264 : decode cX7_valueOfList 264 = .ok (.iload_n 1, 1) := by decide +kernel
theorem dX7_valueOfList_265 : decode cX7_valueOfList 265 = .ok (.iconst 1, 1) := by decide +kernel
theorem dX7_valueOfList_266 : decode cX7_valueOfList 266 = .ok (.invokevirtual 86, 3) := by decide +kernel
theorem dX7_valueOfList_269 : decode cX7_valueOfList 269 = .ok (.aload_n 0, 1) := by decide +kernel
theorem dX7_valueOfList_270 : decode cX7_valueOfList 270 = .ok (.iload_n 1, 1) := by decide +kernel
theorem dX7_valueOfList_271 : decode cX7_valueOfList 271 = .ok (.iconst 2, 1) := by decide +kernel
theorem dX7_valueOfList_272 : decode cX7_valueOfList 272 = .ok (.iload_n 2, 1) := by decide +kernel
theorem dX7_valueOfList_273 : decode cX7_valueOfList 273 = .ok (.invokevirtual 185, 3) := by decide +kernel
theorem dX7_valueOfList_276 : decode cX7_valueOfList 276 = .ok (.invokevirtual 207, 3) := by decide +kernel
theorem dX7_valueOfList_279 : decode cX7_valueOfList 279 = .ok (.ireturn, 1) := by decide +kernel
theorem dX7_valueOfList_280 : decode cX7_valueOfList 280 = .ok (.aload_n 0, 1) := by decide +kernel
theorem dX7_valueOfList_281 : decode cX7_valueOfList 281 = .ok (.iload_n 1, 1) := by decide +kernel
theorem dX7_valueOfList_282 : decode cX7_valueOfList 282 = .ok (.iload_n 2, 1) := by decide +kernel
theorem dX7_valueOfList_283 : decode cX7_valueOfList 283 = .ok (.invokevirtual 211, 3) := by decide +kernel
theorem dX7_valueOfList_286 : decode cX7_valueOfList 286 = .ok (.ireturn, 1) := by decide +kernel
theorem dX7_valueOfList_287 : decode cX7_valueOfList 287 = .ok (.aload_n 0, 1) := by decide +kernel
theorem dX7_valueOfList_288 : decode cX7_valueOfList 288 = .ok (.iload_n 1, 1) := by decide +kernel
theorem dX7_valueOfList_289 : decode cX7_valueOfList 289 = .ok (.iload_n 2, 1) := by decide +kernel
theorem dX7_valueOfList_290 : decode cX7_valueOfList 290 = .ok (.invokevirtual 214, 3) := by decide +kernel
theorem dX7_valueOfList_293 : decode cX7_valueOfList 293 = .ok (.ireturn, 1) := by decide +kernel
theorem dX7_valueOfList_294 : decode cX7_valueOfList 294 = .ok (.aload_n 0, 1) := by decide +kernel
theorem dX7_valueOfList_295 : decode cX7_valueOfList 295 = .ok (.aload_n 0, 1) := by decide +kernel
theorem dX7_valueOfList_296 : decode cX7_valueOfList 296 = .ok (.iload_n 1, 1) := by decide +kernel
theorem dX7_valueOfList_297 : decode cX7_valueOfList 297 = .ok (.iconst 1, 1) := by decide +kernel
theorem dX7_valueOfList_298 : decode cX7_valueOfList 298 = .ok (.iload_n 2, 1) := by decide +kernel
theorem dX7_valueOfList_299 : decode cX7_valueOfList 299 = .ok (.invokevirtual 185, 3) := by decide +kernel
theorem dX7_valueOfList_302 : decode cX7_valueOfList 302 = .ok (.iload_n 2, 1) := by decide +kernel
theorem dX7_valueOfList_303 : decode cX7_valueOfList 303 = .ok (.invokevirtual 217, 3) := by decide +kernel
theorem dX7_valueOfList_306 : decode cX7_valueOfList 306 = .ok (.ireturn, 1) := by decide +kernel
theorem dX7_valueOfList_307 : decode cX7_valueOfList 307 = .ok (.aload_n 0, 1) := by decide +kernel
theorem dX7_valueOfList_308 : decode cX7_valueOfList 308 = .ok (.aload_n 0, 1) := by decide +kernel
theorem dX7_valueOfList_309 : decode cX7_valueOfList 309 = .ok (.iload_n 1, 1) := by decide +kernel
theorem dX7_valueOfList_310 : decode cX7_valueOfList 310 = .ok (.iconst 1, 1) := by decide +kernel
theorem dX7_valueOfList_311 : decode cX7_valueOfList 311 = .ok (.iload_n 2, 1) := by decide +kernel
theorem dX7_valueOfList_312 : decode cX7_valueOfList 312 = .ok (.invokevirtual 185, 3) := by decide +kernel
theorem dX7_valueOfList_315 : decode cX7_valueOfList 315 = .ok (.invokevirtual 220, 3) := by decide +kernel
theorem dX7_valueOfList_318 : decode cX7_valueOfList 318 = .ok (.ireturn, 1) := by decide +kernel
theorem dX7_valueOfList_319 : decode cX7_valueOfList 319 = .ok (.aload_n 0, 1) := by decide +kernel
theorem dX7_valueOfList_320 : decode cX7_valueOfList 320 = .ok (.getfield 26, 3) := by decide +kernel
theorem dX7_valueOfList_323 : decode cX7_valueOfList 323 = .ok (.aload_n 0, 1) := by decide +kernel
theorem dX7_valueOfList_324 : decode cX7_valueOfList 324 = .ok (.getfield 53, 3) := by decide +kernel
theorem dX7_valueOfList_327 : decode cX7_valueOfList 327 = .ok (.invokevirtual 223, 3) := by decide +kernel
theorem dX7_valueOfList_330 : decode cX7_valueOfList 330 = .ok (.ireturn, 1) := by decide +kernel
theorem dX7_valueOfList_331 : decode cX7_valueOfList 331 = .ok (.aload_n 0, 1) := by decide +kernel
theorem dX7_valueOfList_332 : decode cX7_valueOfList 332 = .ok (.getfield 34, 3) := by decide +kernel
theorem dX7_valueOfList_335 : decode cX7_valueOfList 335 = .ok (.getfield 226, 3) := by decide +kernel
theorem dX7_valueOfList_338 : decode cX7_valueOfList 338 = .ok (.ireturn, 1) := by decide +kernel
theorem dX7_valueOfList_339 : decode cX7_valueOfList 339 = .ok (.aload_n 0, 1) := by decide +kernel
theorem dX7_valueOfList_340 : decode cX7_valueOfList 340 = .ok (.aload 4, 2) := by decide +kernel
theorem dX7_valueOfList_342 : decode cX7_valueOfList 342 = .ok (.aload_n 0, 1) := by decide +kernel
theorem dX7_valueOfList_343 : decode cX7_valueOfList 343 = .ok (.iload_n 1, 1) := by decide +kernel
theorem dX7_valueOfList_344 : decode cX7_valueOfList 344 = .ok (.iconst 1, 1) := by decide +kernel
theorem dX7_valueOfList_345 : decode cX7_valueOfList 345 = .ok (.iload_n 2, 1) := by decide +kernel
theorem dX7_valueOfList_346 : decode cX7_valueOfList 346 = .ok (.invokevirtual 185, 3) := by decide +kernel
theorem dX7_valueOfList_349 : decode cX7_valueOfList 349 = .ok (.aload_n 0, 1) := by decide +kernel
theorem dX7_valueOfList_350 : decode cX7_valueOfList 350 = .ok (.iload_n 1, 1) := by decide +kernel
theorem dX7_valueOfList_351 : decode cX7_valueOfList 351 = .ok (.iconst 2, 1) := by decide +kernel
theorem dX7_valueOfList_352 : decode cX7_valueOfList 352 = .ok (.iload_n 2, 1) := by decide +kernel
theorem dX7_valueOfList_353 : decode cX7_valueOfList 353 = .ok (.invokevirtual 185, 3) := by decide +kernel
theorem dX7_valueOfList_356 : decode cX7_valueOfList 356 = .ok (.invokevirtual 229, 3) := by decide +kernel
theorem dX7_valueOfList_359 : decode cX7_valueOfList 359 = .ok (.ireturn, 1) := by decide +kernel
theorem dX7_fits_0 : decode cX7_fits 0 = .ok (.aload_n 2, 1) := by decide +kernel
theorem dX7_fits_1 : decode cX7_fits 1 = .ok (.aload_n 0, 1) := by decide +kernel
theorem dX7_fits_2 : decode cX7_fits 2 = .ok (.getfield 18, 3) := by decide +kernel
theorem dX7_fits_5 : decode cX7_fits 5 = .ok (.iload_n 1, 1) := by decide +kernel
theorem dX7_fits_6 : decode cX7_fits 6 = .ok (.invokevirtual 90, 3) := by decide +kernel
theorem dX7_fits_9 : decode cX7_fits 9 = .ok (.iconst 1, 1) := by decide +kernel
theorem dX7_fits_10 : decode cX7_fits 10 = .ok (.isub, 1) := by decide +kernel
theorem dX7_fits_11 : decode cX7_fits 11 = .ok (.invokevirtual 232, 3) := by decide +kernel
theorem dX7_fits_14 : decode cX7_fits 14 = .ok (.ifCond .ne 5, 3) := by decide +kernel
theorem dX7_fits_17 : decode cX7_fits 17 = .ok (.iconst 0, 1) := by decide +kernel
theorem dX7_fits_18 : decode cX7_fits 18 = .ok (.ireturn, 1) := by decide +kernel
theorem dX7_fits_19 : decode cX7_fits 19 = .ok (.aload_n 0, 1) := by decide +kernel
theorem dX7_fits_20 : decode cX7_fits 20 = .ok (.getfield 18, 3) := by decide +kernel
theorem dX7_fits_23 : decode cX7_fits 23 = .ok (.iload_n 1, 1) := by decide +kernel
theorem dX7_fits_24 : decode cX7_fits 24 = .ok (.iconst 1, 1) := by decide +kernel
theorem dX7_fits_25 : decode cX7_fits 25 = .ok (.invokevirtual 86, 3) := by decide +kernel
theorem dX7_fits_28 : decode cX7_fits 28 = .ok (.istore_n 3, 1) := by decide +kernel
theorem dX7_fits_29 : decode cX7_fits 29 = .ok (.iconst 0, 1) := by decide +kernel
theorem dX7_fits_30 : decode cX7_fits 30 = .ok (.istore 4, 2) := by decide +kernel
theorem dX7_fits_32 : decode cX7_fits 32 = .ok (.iload 4, 2) := by decide +kernel
theorem dX7_fits_34 : decode cX7_fits 34 = .ok (.aload_n 2, 1) := by decide +kernel
theorem dX7_fits_35 : decode cX7_fits 35 = .ok (.getfield 235, 3) := by decide +kernel
theorem dX7_fits_38 : decode cX7_fits 38 = .ok (.invokevirtual 239, 3) := by decide +kernel
theorem dX7_fits_41 : decode cX7_fits 41 = .ok (.if_icmp .ge 37, 3) := by decide +kernel
theorem dX7_fits_44 : decode cX7_fits 44 = .ok (.aload_n 0, 1) := by decide +kernel
theorem dX7_fits_45 : decode cX7_fits 45 = .ok (.iload_n 3, 1) := by decide +kernel
theorem dX7_fits_46 : decode cX7_fits 46 = .ok (.aload_n 2, 1) := by decide +kernel
theorem dX7_fits_47 : decode cX7_fits 47 = .ok (.getfield 235, 3) := by decide +kernel
theorem dX7_fits_50 : decode cX7_fits 50 = .ok (.iload 4, 2) := by decide +kernel
theorem dX7_fits_52 : decode cX7_fits 52 = .ok (.invokevirtual 244, 3) := by decide +kernel
theorem dX7_fits_55 : decode cX7_fits 55 = .ok (.invokevirtual 248, 3) := by decide +kernel
theorem dX7_fits_58 : decode cX7_fits 58 = .ok (.ifCond .ne 5, 3) := by decide +kernel
theorem dX7_fits_61 : decode cX7_fits 61 = .ok (.iconst 0, 1) := by decide +kernel
theorem dX7_fits_62 : decode cX7_fits 62 = .ok (.ireturn, 1) := by decide +kernel
theorem dX7_fits_63 : decode cX7_fits 63 = .ok (.aload_n 0, 1) := by decide +kernel
theorem dX7_fits_64 : decode cX7_fits 64 = .ok (.getfield 18, 3) := by decide +kernel
theorem dX7_fits_67 : decode cX7_fits 67 = .ok (.iload_n 3, 1) := by decide +kernel
theorem dX7_fits_68 : decode cX7_fits 68 = .ok (.invokevirtual 97, 3) := by decide +kernel
theorem dX7_fits_71 : decode cX7_fits 71 = .ok (.istore_n 3, 1) := by decide +kernel
theorem dX7_fits_72 : decode cX7_fits 72 = .ok (.iinc 4 1, 3) := by decide +kernel
theorem dX7_fits_75 : decode cX7_fits 75 = .ok (.goto (-43), 3) := by decide +kernel
theorem dX7_fits_78 : decode cX7_fits 78 = .ok (.iconst 1, 1) := by decide +kernel
theorem dX7_fits_79 : decode cX7_fits 79 = .ok (.ireturn, 1) := by decide +kernel
theorem dX7_suits_0 : decode cX7_suits 0 = .ok (.aload_n 0, 1) := by decide +kernel
theorem dX7_suits_1 : decode cX7_suits 1 = .ok (.getfield 18, 3) := by decide +kernel
theorem dX7_suits_4 : decode cX7_suits 4 = .ok (.iload_n 1, 1) := by decide +kernel
theorem dX7_suits_5 : decode cX7_suits 5 = .ok (.invokevirtual 139, 3) := by decide +kernel
theorem dX7_suits_8 : decode cX7_suits 8 = .ok (.istore_n 3, 1) := by decide +kernel
theorem dX7_suits_9 : decode cX7_suits 9 = .ok (.iload_n 2, 1) := by decide +kernel
theorem dX7_suits_10 : decode cX7_suits 10 = .ok (.lookupswitch 82 #[(103, 34), (108, 71), (120, 60)], 34) := by decide +kernel
theorem dX7_suits_44 : decode cX7_suits 44 = .ok (.iload_n 3, 1) := by decide +kernel
theorem dX7_suits_45 : decode cX7_suits 45 = .ok (.iconst 2, 1) := by decide +kernel
theorem dX7_suits_46 : decode cX7_suits 46 = .ok (.if_icmp .ne 22, 3) := by decide +kernel
theorem dX7_suits_49 : decode cX7_suits 49 = .ok (.aload_n 0, 1) := by decide +kernel
theorem dX7_suits_50 : decode cX7_suits 50 = .ok (.getfield 18, 3) := by decide +kernel
theorem dX7_suits_53 : decode cX7_suits 53 = .ok (.iload_n 1, 1) := by decide +kernel
theorem dX7_suits_54 : decode cX7_suits 54 = .ok (.invokevirtual 142, 3) := by decide +kernel
theorem dX7_suits_57 : decode cX7_suits 57 = .ok (.invokestatic 156, 3) := by decide +kernel
theorem dX7_suits_60 : decode cX7_suits 60 = .ok (.iconst (-1), 1) := by decide +kernel
theorem dX7_suits_61 : decode cX7_suits 61 = .ok (.if_icmp .eq 7, 3) := by decide +kernel
theorem dX7_suits_64 : decode cX7_suits 64 = .ok (.iconst 1, 1) := by decide +kernel
theorem dX7_suits_65 : decode cX7_suits 65 = .ok (.goto 4, 3) := by decide +kernel
theorem dX7_suits_68 : decode cX7_suits 68 = .ok (.iconst 0, 1) := by decide +kernel
theorem dX7_suits_69 : decode cX7_suits 69 = .ok (.ireturn, 1) := by decide +kernel
theorem dX7_suits_70 : decode cX7_suits 70 = .ok (.iload_n 3, 1) := by decide +kernel
theorem dX7_suits_71 : decode cX7_suits 71 = .ok (.iconst 2, 1) := by decide +kernel
theorem dX7_suits_72 : decode cX7_suits 72 = .ok (.if_icmp .ne 7, 3) := by decide +kernel
theorem dX7_suits_75 : decode cX7_suits 75 = .ok (.iconst 1, 1) := by decide +kernel
theorem dX7_suits_76 : decode cX7_suits 76 = .ok (.goto 4, 3) := by decide +kernel
theorem dX7_suits_79 : decode cX7_suits 79 = .ok (.iconst 0, 1) := by decide +kernel
theorem dX7_suits_80 : decode cX7_suits 80 = .ok (.ireturn, 1) := by decide +kernel
theorem dX7_suits_81 : decode cX7_suits 81 = .ok (.iload_n 3, 1) := by decide +kernel
theorem dX7_suits_82 : decode cX7_suits 82 = .ok (.iconst 3, 1) := by decide +kernel
theorem dX7_suits_83 : decode cX7_suits 83 = .ok (.if_icmp .ne 7, 3) := by decide +kernel
theorem dX7_suits_86 : decode cX7_suits 86 = .ok (.iconst 1, 1) := by decide +kernel
theorem dX7_suits_87 : decode cX7_suits 87 = .ok (.goto 4, 3) := by decide +kernel
theorem dX7_suits_90 : decode cX7_suits 90 = .ok (.iconst 0, 1) := by decide +kernel
theorem dX7_suits_91 : decode cX7_suits 91 = .ok (.ireturn, 1) := by decide +kernel
theorem dX7_suits_92 : decode cX7_suits 92 = .ok (.iconst 1, 1) := by decide +kernel
theorem dX7_suits_93 : decode cX7_suits 93 = .ok (.ireturn, 1) := by decide +kernel
theorem dX7_valueOfPart_0 : decode cX7_valueOfPart 0 = .ok (.aload_n 0, 1) := by decide +kernel
theorem dX7_valueOfPart_1 : decode cX7_valueOfPart 1 = .ok (.aload_n 0, 1) := by decide +kernel
theorem dX7_valueOfPart_2 : decode cX7_valueOfPart 2 = .ok (.getfield 18, 3) := by decide +kernel
theorem dX7_valueOfPart_5 : decode cX7_valueOfPart 5 = .ok (.iload_n 1, 1) := by decide +kernel
theorem dX7_valueOfPart_6 : decode cX7_valueOfPart 6 = .ok (.iload_n 2, 1) := by decide +kernel
theorem dX7_valueOfPart_7 : decode cX7_valueOfPart 7 = .ok (.invokevirtual 86, 3) := by decide +kernel
theorem dX7_valueOfPart_10 : decode cX7_valueOfPart 10 = .ok (.iload_n 3, 1) := by decide +kernel
theorem dX7_valueOfPart_11 : decode cX7_valueOfPart 11 = .ok (.iconst 1, 1) := by decide +kernel
theorem dX7_valueOfPart_12 : decode cX7_valueOfPart 12 = .ok (.iadd, 1) := by decide +kernel
theorem dX7_valueOfPart_13 : decode cX7_valueOfPart 13 = .ok (.invokevirtual 117, 3) := by decide +kernel
theorem dX7_valueOfPart_16 : decode cX7_valueOfPart 16 = .ok (.ireturn, 1) := by decide +kernel
theorem dX7_valueOfRow_0 : decode cX7_valueOfRow 0 = .ok (.iconst 0, 1) := by decide +kernel
theorem dX7_valueOfRow_1 : decode cX7_valueOfRow 1 = .ok (.istore 4, 2) := by decide +kernel
theorem dX7_valueOfRow_3 : decode cX7_valueOfRow 3 = .ok (.aload_n 0, 1) := by decide +kernel
theorem dX7_valueOfRow_4 : decode cX7_valueOfRow 4 = .ok (.getfield 18, 3) := by decide +kernel
theorem dX7_valueOfRow_7 : decode cX7_valueOfRow 7 = .ok (.iload_n 1, 1) := by decide +kernel
theorem dX7_valueOfRow_8 : decode cX7_valueOfRow 8 = .ok (.iload_n 2, 1) := by decide +kernel
theorem dX7_valueOfRow_9 : decode cX7_valueOfRow 9 = .ok (.invokevirtual 86, 3) := by decide +kernel
theorem dX7_valueOfRow_12 : decode cX7_valueOfRow 12 = .ok (.istore 5, 2) := by decide +kernel
theorem dX7_valueOfRow_14 : decode cX7_valueOfRow 14 = .ok (.iload_n 2, 1) := by decide +kernel
theorem dX7_valueOfRow_15 : decode cX7_valueOfRow 15 = .ok (.istore 6, 2) := by decide +kernel
theorem dX7_valueOfRow_17 : decode cX7_valueOfRow 17 = .ok (.iload 6, 2) := by decide +kernel
theorem dX7_valueOfRow_19 : decode cX7_valueOfRow 19 = .ok (.aload_n 0, 1) := by decide +kernel
theorem dX7_valueOfRow_20 : decode cX7_valueOfRow 20 = .ok (.getfield 18, 3) := by decide +kernel
theorem dX7_valueOfRow_23 : decode cX7_valueOfRow 23 = .ok (.iload_n 1, 1) := by decide +kernel
theorem dX7_valueOfRow_24 : decode cX7_valueOfRow 24 = .ok (.invokevirtual 90, 3) := by decide +kernel
theorem dX7_valueOfRow_27 : decode cX7_valueOfRow 27 = .ok (.if_icmp .ge 38, 3) := by decide +kernel
theorem dX7_valueOfRow_30 : decode cX7_valueOfRow 30 = .ok (.aload_n 0, 1) := by decide +kernel
theorem dX7_valueOfRow_31 : decode cX7_valueOfRow 31 = .ok (.getfield 60, 3) := by decide +kernel
theorem dX7_valueOfRow_34 : decode cX7_valueOfRow 34 = .ok (.ifCond .ne 31, 3) := by decide +kernel
theorem dX7_valueOfRow_37 : decode cX7_valueOfRow 37 = .ok (.aload_n 0, 1) := by decide +kernel
theorem dX7_valueOfRow_38 : decode cX7_valueOfRow 38 = .ok (.iload 5, 2) := by decide +kernel
theorem dX7_valueOfRow_40 : decode cX7_valueOfRow 40 = .ok (.iload_n 3, 1) := by decide +kernel
theorem dX7_valueOfRow_41 : decode cX7_valueOfRow 41 = .ok (.iconst 1, 1) := by decide +kernel
theorem dX7_valueOfRow_42 : decode cX7_valueOfRow 42 = .ok (.iadd, 1) := by decide +kernel
theorem dX7_valueOfRow_43 : decode cX7_valueOfRow 43 = .ok (.invokevirtual 117, 3) := by decide +kernel
theorem dX7_valueOfRow_46 : decode cX7_valueOfRow 46 = .ok (.istore 4, 2) := by decide +kernel
theorem dX7_valueOfRow_48 : decode cX7_valueOfRow 48 = .ok (.aload_n 0, 1) := by decide +kernel
theorem dX7_valueOfRow_49 : decode cX7_valueOfRow 49 = .ok (.getfield 18, 3) := by decide +kernel
theorem dX7_valueOfRow_52 : decode cX7_valueOfRow 52 = .ok (.iload 5, 2) := by decide +kernel
theorem dX7_valueOfRow_54 : decode cX7_valueOfRow 54 = .ok (.invokevirtual 97, 3) := by decide +kernel
theorem dX7_valueOfRow_57 : decode cX7_valueOfRow 57 = .ok (.istore 5, 2) := by decide +kernel
theorem dX7_valueOfRow_59 : decode cX7_valueOfRow 59 = .ok (.iinc 6 1, 3) := by decide +kernel
theorem dX7_valueOfRow_62 : decode cX7_valueOfRow 62 = .ok (.goto (-45), 3) := by decide +kernel
theorem dX7_valueOfRow_65 : decode cX7_valueOfRow 65 = .ok (.iload 4, 2) := by decide +kernel
theorem dX7_valueOfRow_67 : decode cX7_valueOfRow 67 = .ok (.ireturn, 1) := by decide +kernel
theorem dX7_combine_0 : decode cX7_combine 0 = .ok (.aload_n 0, 1) := by decide +kernel
theorem dX7_combine_1 : decode cX7_combine 1 = .ok (.getfield 60, 3) := by decide +kernel
theorem dX7_combine_4 : decode cX7_combine 4 = .ok (.ifCond .eq 5, 3) := by decide +kernel
theorem dX7_combine_7 : decode cX7_combine 7 = .ok (.iconst 0, 1) := by decide +kernel
theorem dX7_combine_8 : decode cX7_combine 8 = .ok (.ireturn, 1) := by decide +kernel
theorem dX7_combine_9 : decode cX7_combine 9 = .ok (.getstatic 176, 3) := by decide +kernel
theorem dX7_combine_12 : decode cX7_combine 12 = .ok (.aload_n 1, 1) := by decide +kernel
theorem dX7_combine_13 : decode cX7_combine 13 = .ok (.invokevirtual 182, 3) := by decide +kernel
theorem dX7_combine_16 : decode cX7_combine 16 = .ok (.iaload, 1) := by decide +kernel
theorem dX7_combine_17 : decode cX7_combine 17 = .ok (.tableswitch 114 18 25 #[47, 51, 55, 59, 65, 71, 87, 103], 47) := by decide +kernel
theorem dX7_combine_64 : decode cX7_combine 64 = .ok (.iload_n 2, 1) := by decide +kernel
theorem dX7_combine_65 : decode cX7_combine 65 = .ok (.iload_n 3, 1) := by decide +kernel
theorem dX7_combine_66 : decode cX7_combine 66 = .ok (.iadd, 1) := by decide +kernel
theorem dX7_combine_67 : decode cX7_combine 67 = .ok (.ireturn, 1) := by decide +kernel
theorem dX7_combine_68 : decode cX7_combine 68 = .ok (.iload_n 2, 1) := by decide +kernel
theorem dX7_combine_69 : decode cX7_combine 69 = .ok (.iload_n 3, 1) := by decide +kernel
theorem dX7_combine_70 : decode cX7_combine 70 = .ok (.isub, 1) := by decide +kernel
theorem dX7_combine_71 : decode cX7_combine 71 = .ok (.ireturn, 1) := by decide +kernel
theorem dX7_combine_72 : decode cX7_combine 72 = .ok (.iload_n 2, 1) := by decide +kernel
theorem dX7_combine_73 : decode cX7_combine 73 = .ok (.iload_n 3, 1) := by decide +kernel
theorem dX7_combine_74 : decode cX7_combine 74 = .ok (.imul, 1) := by decide +kernel
theorem dX7_combine_75 : decode cX7_combine 75 = .ok (.ireturn, 1) := by decide +kernel
theorem dX7_combine_76 : decode cX7_combine 76 = .ok (.iload_n 2, 1) := by decide +kernel
theorem dX7_combine_77 : decode cX7_combine 77 = .ok (.iload_n 3, 1) := by decide +kernel
theorem dX7_combine_78 : decode cX7_combine 78 = .ok (.invokestatic 252, 3) := by decide +kernel
theorem dX7_combine_81 : decode cX7_combine 81 = .ok (.ireturn, 1) := by decide +kernel
theorem dX7_combine_82 : decode cX7_combine 82 = .ok (.iload_n 2, 1) := by decide +kernel
theorem dX7_combine_83 : decode cX7_combine 83 = .ok (.iload_n 3, 1) := by decide +kernel
theorem dX7_combine_84 : decode cX7_combine 84 = .ok (.invokestatic 257, 3) := by decide +kernel
theorem dX7_combine_87 : decode cX7_combine 87 = .ok (.ireturn, 1) := by decide +kernel
theorem dX7_combine_88 : decode cX7_combine 88 = .ok (.iload_n 3, 1) := by decide +kernel
theorem dX7_combine_89 : decode cX7_combine 89 = .ok (.ifCond .ne 11, 3) := by decide +kernel
theorem dX7_combine_92 : decode cX7_combine 92 = .ok (.aload_n 0, 1) := by decide +kernel
theorem dX7_combine_93 : decode cX7_combine 93 = .ok (.iconst 5, 1) := by decide +kernel
theorem dX7_combine_94 : decode cX7_combine 94 = .ok (.invokevirtual 136, 3) := by decide +kernel
theorem dX7_combine_97 : decode cX7_combine 97 = .ok (.goto 6, 3) := by decide +kernel
theorem dX7_combine_100 : decode cX7_combine 100 = .ok (.iload_n 2, 1) := by decide +kernel
theorem dX7_combine_101 : decode cX7_combine 101 = .ok (.iload_n 3, 1) := by decide +kernel
theorem dX7_combine_102 : decode cX7_combine 102 = .ok (.idiv, 1) := by decide +kernel
theorem dX7_combine_103 : decode cX7_combine 103 = .ok (.ireturn, 1) := by decide +kernel
theorem dX7_combine_104 : decode cX7_combine 104 = .ok (.iload_n 3, 1) := by decide +kernel
theorem dX7_combine_105 : decode cX7_combine 105 = .ok (.ifCond .ne 11, 3) := by decide +kernel
theorem dX7_combine_108 : decode cX7_combine 108 = .ok (.aload_n 0, 1) := by decide +kernel
theorem dX7_combine_109 : decode cX7_combine 109 = .ok (.iconst 5, 1) := by decide +kernel
theorem dX7_combine_110 : decode cX7_combine 110 = .ok (.invokevirtual 136, 3) := by decide +kernel
theorem dX7_combine_113 : decode cX7_combine 113 = .ok (.goto 6, 3) := by decide +kernel
theorem dX7_combine_116 : decode cX7_combine 116 = .ok (.iload_n 2, 1) := by decide +kernel
theorem dX7_combine_117 : decode cX7_combine 117 = .ok (.iload_n 3, 1) := by decide +kernel
theorem dX7_combine_118 : decode cX7_combine 118 = .ok (.irem, 1) := by decide +kernel
theorem dX7_combine_119 : decode cX7_combine 119 = .ok (.ireturn, 1) := by decide +kernel
theorem dX7_combine_120 : decode cX7_combine 120 = .ok (.iload_n 2, 1) := by decide +kernel
theorem dX7_combine_121 : decode cX7_combine 121 = .ok (.iload_n 3, 1) := by decide +kernel
theorem dX7_combine_122 : decode cX7_combine 122 = .ok (.if_icmp .ge 7, 3) := by decide +kernel
theorem dX7_combine_125 : decode cX7_combine 125 = .ok (.iconst 1, 1) := by decide +kernel
theorem dX7_combine_126 : decode cX7_combine 126 = .ok (.goto 4, 3) := by decide +kernel
theorem dX7_combine_129 : decode cX7_combine 129 = .ok (.iconst 0, 1) := by decide +kernel
theorem dX7_combine_130 : decode cX7_combine 130 = .ok (.ireturn, 1) := by decide +kernel
theorem dX7_combine_131 : decode cX7_combine 131 = .ok (.iload_n 2, 1) := by decide +kernel
theorem dX7_combine_132 : decode cX7_combine 132 = .ok (.iload_n 3, 1) := by decide +kernel
theorem dX7_combine_133 : decode cX7_combine 133 = .ok (.if_icmp .ne 7, 3) := by decide +kernel
theorem dX7_combine_136 : decode cX7_combine 136 = .ok (.iconst 1, 1) := by decide +kernel
theorem dX7_combine_137 : decode cX7_combine 137 = .ok (.goto 4, 3) := by decide +kernel
theorem dX7_combine_140 : decode cX7_combine 140 = .ok (.iconst 0, 1) := by decide +kernel
theorem dX7_combine_141 : decode cX7_combine 141 = .ok (.ireturn, 1) := by decide +kernel
theorem dX7_valueOfChoice_0 : decode cX7_valueOfChoice 0 = .ok (.aload_n 0, 1) := by decide +kernel
theorem dX7_valueOfChoice_1 : decode cX7_valueOfChoice 1 = .ok (.iload_n 2, 1) := by decide +kernel
theorem dX7_valueOfChoice_2 : decode cX7_valueOfChoice 2 = .ok (.iconst 1, 1) := by decide +kernel
theorem dX7_valueOfChoice_3 : decode cX7_valueOfChoice 3 = .ok (.iload_n 3, 1) := by decide +kernel
theorem dX7_valueOfChoice_4 : decode cX7_valueOfChoice 4 = .ok (.invokevirtual 185, 3) := by decide +kernel
theorem dX7_valueOfChoice_7 : decode cX7_valueOfChoice 7 = .ok (.istore 4, 2) := by decide +kernel
theorem dX7_valueOfChoice_9 : decode cX7_valueOfChoice 9 = .ok (.aload_n 1, 1) := by decide +kernel
theorem dX7_valueOfChoice_10 : decode cX7_valueOfChoice 10 = .ok (.getstatic 260, 3) := by decide +kernel
theorem dX7_valueOfChoice_13 : decode cX7_valueOfChoice 13 = .ok (.if_acmp .ne 20, 3) := by decide +kernel
theorem dX7_valueOfChoice_16 : decode cX7_valueOfChoice 16 = .ok (.aload_n 0, 1) := by decide +kernel
theorem dX7_valueOfChoice_17 : decode cX7_valueOfChoice 17 = .ok (.iload_n 2, 1) := by decide +kernel
theorem dX7_valueOfChoice_18 : decode cX7_valueOfChoice 18 = .ok (.iload 4, 2) := by decide +kernel
theorem dX7_valueOfChoice_20 : decode cX7_valueOfChoice 20 = .ok (.ifCond .eq 7, 3) := by decide +kernel
theorem dX7_valueOfChoice_23 : decode cX7_valueOfChoice 23 = .ok (.iconst 2, 1) := by decide +kernel
theorem dX7_valueOfChoice_24 : decode cX7_valueOfChoice 24 = .ok (.goto 4, 3) := by decide +kernel
theorem dX7_valueOfChoice_27 : decode cX7_valueOfChoice 27 = .ok (.iconst 3, 1) := by decide +kernel
theorem dX7_valueOfChoice_28 : decode cX7_valueOfChoice 28 = .ok (.iload_n 3, 1) := by decide +kernel
theorem dX7_valueOfChoice_29 : decode cX7_valueOfChoice 29 = .ok (.invokevirtual 185, 3) := by decide +kernel
theorem dX7_valueOfChoice_32 : decode cX7_valueOfChoice 32 = .ok (.ireturn, 1) := by decide +kernel
theorem dX7_valueOfChoice_33 : decode cX7_valueOfChoice 33 = .ok (.aload_n 1, 1) := by decide +kernel
theorem dX7_valueOfChoice_34 : decode cX7_valueOfChoice 34 = .ok (.getstatic 264, 3) := by decide +kernel
theorem dX7_valueOfChoice_37 : decode cX7_valueOfChoice 37 = .ok (.if_acmp .ne 16, 3) := by decide +kernel
theorem dX7_valueOfChoice_40 : decode cX7_valueOfChoice 40 = .ok (.iload 4, 2) := by decide +kernel
theorem dX7_valueOfChoice_42 : decode cX7_valueOfChoice 42 = .ok (.ifCond .ne 7, 3) := by decide +kernel
theorem dX7_valueOfChoice_45 : decode cX7_valueOfChoice 45 = .ok (.iconst 1, 1) := by decide +kernel
theorem dX7_valueOfChoice_46 : decode cX7_valueOfChoice 46 = .ok (.goto 17, 3) := by decide +kernel
theorem dX7_valueOfChoice_49 : decode cX7_valueOfChoice 49 = .ok (.iconst 0, 1) := by decide +kernel
theorem dX7_valueOfChoice_50 : decode cX7_valueOfChoice 50 = .ok (.goto 13, 3) := by decide +kernel
theorem dX7_valueOfChoice_53 : decode cX7_valueOfChoice 53 = .ok (.iload 4, 2) := by decide +kernel
theorem dX7_valueOfChoice_55 : decode cX7_valueOfChoice 55 = .ok (.ifCond .eq 7, 3) := by decide +kernel
theorem dX7_valueOfChoice_58 : decode cX7_valueOfChoice 58 = .ok (.iconst 1, 1) := by decide +kernel
theorem dX7_valueOfChoice_59 : decode cX7_valueOfChoice 59 = .ok (.goto 4, 3) := by decide +kernel
theorem dX7_valueOfChoice_62 : decode cX7_valueOfChoice 62 = .ok (.iconst 0, 1) := by decide +kernel
theorem dX7_valueOfChoice_63 : decode cX7_valueOfChoice 63 = .ok (.istore 5, 2) := by decide +kernel
theorem dX7_valueOfChoice_65 : decode cX7_valueOfChoice 65 = .ok (.iload 5, 2) := by decide +kernel
theorem dX7_valueOfChoice_67 : decode cX7_valueOfChoice 67 = .ok (.ifCond .eq 8, 3) := by decide +kernel
theorem dX7_valueOfChoice_70 : decode cX7_valueOfChoice 70 = .ok (.iload 4, 2) := by decide +kernel
theorem dX7_valueOfChoice_72 : decode cX7_valueOfChoice 72 = .ok (.goto 10, 3) := by decide +kernel
theorem dX7_valueOfChoice_75 : decode cX7_valueOfChoice 75 = .ok (.aload_n 0, 1) := by decide +kernel
theorem dX7_valueOfChoice_76 : decode cX7_valueOfChoice 76 = .ok (.iload_n 2, 1) := by decide +kernel
theorem dX7_valueOfChoice_77 : decode cX7_valueOfChoice 77 = .ok (.iconst 2, 1) := by decide +kernel
theorem dX7_valueOfChoice_78 : decode cX7_valueOfChoice 78 = .ok (.iload_n 3, 1) := by decide +kernel
theorem dX7_valueOfChoice_79 : decode cX7_valueOfChoice 79 = .ok (.invokevirtual 185, 3) := by decide +kernel
theorem dX7_valueOfChoice_82 : decode cX7_valueOfChoice 82 = .ok (.ireturn, 1) := by decide +kernel
theorem dX7_valueOfWhile_0 : decode cX7_valueOfWhile 0 = .ok (.iconst 0, 1) := by decide +kernel
theorem dX7_valueOfWhile_1 : decode cX7_valueOfWhile 1 = .ok (.istore_n 3, 1) := by decide +kernel
theorem dX7_valueOfWhile_2 : decode cX7_valueOfWhile 2 = .ok (.iload_n 3, 1) := by decide +kernel
theorem dX7_valueOfWhile_3 : decode cX7_valueOfWhile 3 = .ok (.ldc_w 267, 3) := by decide +kernel
theorem dX7_valueOfWhile_6 : decode cX7_valueOfWhile 6 = .ok (.if_icmp .ge 27, 3) := by decide +kernel
theorem dX7_valueOfWhile_9 : decode cX7_valueOfWhile 9 = .ok (.aload_n 0, 1) := by decide +kernel
theorem dX7_valueOfWhile_10 : decode cX7_valueOfWhile 10 = .ok (.iload_n 1, 1) := by decide +kernel
theorem dX7_valueOfWhile_11 : decode cX7_valueOfWhile 11 = .ok (.iconst 1, 1) := by decide +kernel
theorem dX7_valueOfWhile_12 : decode cX7_valueOfWhile 12 = .ok (.iload_n 2, 1) := by decide +kernel
theorem dX7_valueOfWhile_13 : decode cX7_valueOfWhile 13 = .ok (.invokevirtual 185, 3) := by decide +kernel
theorem dX7_valueOfWhile_16 : decode cX7_valueOfWhile 16 = .ok (.ifCond .eq 17, 3) := by decide +kernel
theorem dX7_valueOfWhile_19 : decode cX7_valueOfWhile 19 = .ok (.aload_n 0, 1) := by decide +kernel
theorem dX7_valueOfWhile_20 : decode cX7_valueOfWhile 20 = .ok (.iload_n 1, 1) := by decide +kernel
theorem dX7_valueOfWhile_21 : decode cX7_valueOfWhile 21 = .ok (.iconst 2, 1) := by decide +kernel
theorem dX7_valueOfWhile_22 : decode cX7_valueOfWhile 22 = .ok (.iload_n 2, 1) := by decide +kernel
theorem dX7_valueOfWhile_23 : decode cX7_valueOfWhile 23 = .ok (.invokevirtual 195, 3) := by decide +kernel
theorem dX7_valueOfWhile_26 : decode cX7_valueOfWhile 26 = .ok (.pop, 1) := by decide +kernel
theorem dX7_valueOfWhile_27 : decode cX7_valueOfWhile 27 = .ok (.iinc 3 1, 3) := by decide +kernel
theorem dX7_valueOfWhile_30 : decode cX7_valueOfWhile 30 = .ok (.goto (-28), 3) := by decide +kernel
theorem dX7_valueOfWhile_33 : decode cX7_valueOfWhile 33 = .ok (.iload_n 3, 1) := by decide +kernel
theorem dX7_valueOfWhile_34 : decode cX7_valueOfWhile 34 = .ok (.ireturn, 1) := by decide +kernel
theorem dX7_valueOfLet_0 : decode cX7_valueOfLet 0 = .ok (.aload_n 0, 1) := by decide +kernel
theorem dX7_valueOfLet_1 : decode cX7_valueOfLet 1 = .ok (.iload_n 1, 1) := by decide +kernel
theorem dX7_valueOfLet_2 : decode cX7_valueOfLet 2 = .ok (.iconst 2, 1) := by decide +kernel
theorem dX7_valueOfLet_3 : decode cX7_valueOfLet 3 = .ok (.iload_n 2, 1) := by decide +kernel
theorem dX7_valueOfLet_4 : decode cX7_valueOfLet 4 = .ok (.invokevirtual 185, 3) := by decide +kernel
theorem dX7_valueOfLet_7 : decode cX7_valueOfLet 7 = .ok (.istore_n 3, 1) := by decide +kernel
theorem dX7_valueOfLet_8 : decode cX7_valueOfLet 8 = .ok (.aload_n 0, 1) := by decide +kernel
theorem dX7_valueOfLet_9 : decode cX7_valueOfLet 9 = .ok (.getfield 12, 3) := by decide +kernel
theorem dX7_valueOfLet_12 : decode cX7_valueOfLet 12 = .ok (.aload_n 0, 1) := by decide +kernel
theorem dX7_valueOfLet_13 : decode cX7_valueOfLet 13 = .ok (.getfield 18, 3) := by decide +kernel
theorem dX7_valueOfLet_16 : decode cX7_valueOfLet 16 = .ok (.aload_n 0, 1) := by decide +kernel
theorem dX7_valueOfLet_17 : decode cX7_valueOfLet 17 = .ok (.getfield 18, 3) := by decide +kernel
theorem dX7_valueOfLet_20 : decode cX7_valueOfLet 20 = .ok (.iload_n 1, 1) := by decide +kernel
theorem dX7_valueOfLet_21 : decode cX7_valueOfLet 21 = .ok (.iconst 1, 1) := by decide +kernel
theorem dX7_valueOfLet_22 : decode cX7_valueOfLet 22 = .ok (.invokevirtual 86, 3) := by decide +kernel
theorem dX7_valueOfLet_25 : decode cX7_valueOfLet 25 = .ok (.invokevirtual 142, 3) := by decide +kernel
theorem dX7_valueOfLet_28 : decode cX7_valueOfLet 28 = .ok (.iload_n 3, 1) := by decide +kernel
theorem dX7_valueOfLet_29 : decode cX7_valueOfLet 29 = .ok (.invokevirtual 268, 3) := by decide +kernel
theorem dX7_valueOfLet_32 : decode cX7_valueOfLet 32 = .ok (.aload_n 0, 1) := by decide +kernel
theorem dX7_valueOfLet_33 : decode cX7_valueOfLet 33 = .ok (.iload_n 1, 1) := by decide +kernel
theorem dX7_valueOfLet_34 : decode cX7_valueOfLet 34 = .ok (.iconst 3, 1) := by decide +kernel
theorem dX7_valueOfLet_35 : decode cX7_valueOfLet 35 = .ok (.iload_n 2, 1) := by decide +kernel
theorem dX7_valueOfLet_36 : decode cX7_valueOfLet 36 = .ok (.invokevirtual 195, 3) := by decide +kernel
theorem dX7_valueOfLet_39 : decode cX7_valueOfLet 39 = .ok (.istore 4, 2) := by decide +kernel
theorem dX7_valueOfLet_41 : decode cX7_valueOfLet 41 = .ok (.aload_n 0, 1) := by decide +kernel
theorem dX7_valueOfLet_42 : decode cX7_valueOfLet 42 = .ok (.getfield 12, 3) := by decide +kernel
theorem dX7_valueOfLet_45 : decode cX7_valueOfLet 45 = .ok (.invokevirtual 272, 3) := by decide +kernel
theorem dX7_valueOfLet_48 : decode cX7_valueOfLet 48 = .ok (.iload 4, 2) := by decide +kernel
theorem dX7_valueOfLet_50 : decode cX7_valueOfLet 50 = .ok (.ireturn, 1) := by decide +kernel
theorem dX7_setBinding_0 : decode cX7_setBinding 0 = .ok (.aload_n 0, 1) := by decide +kernel
theorem dX7_setBinding_1 : decode cX7_setBinding 1 = .ok (.iload_n 1, 1) := by decide +kernel
theorem dX7_setBinding_2 : decode cX7_setBinding 2 = .ok (.iconst 2, 1) := by decide +kernel
theorem dX7_setBinding_3 : decode cX7_setBinding 3 = .ok (.iload_n 2, 1) := by decide +kernel
theorem dX7_setBinding_4 : decode cX7_setBinding 4 = .ok (.invokevirtual 185, 3) := by decide +kernel
theorem dX7_setBinding_7 : decode cX7_setBinding 7 = .ok (.istore_n 3, 1) := by decide +kernel
theorem dX7_setBinding_8 : decode cX7_setBinding 8 = .ok (.aload_n 0, 1) := by decide +kernel
theorem dX7_setBinding_9 : decode cX7_setBinding 9 = .ok (.getfield 60, 3) := by decide +kernel
theorem dX7_setBinding_12 : decode cX7_setBinding 12 = .ok (.ifCond .eq 5, 3) := by decide +kernel
theorem dX7_setBinding_15 : decode cX7_setBinding 15 = .ok (.iconst 0, 1) := by decide +kernel
theorem dX7_setBinding_16 : decode cX7_setBinding 16 = .ok (.ireturn, 1) := by decide +kernel
theorem dX7_setBinding_17 : decode cX7_setBinding 17 = .ok (.aload_n 0, 1) := by decide +kernel
theorem dX7_setBinding_18 : decode cX7_setBinding 18 = .ok (.getfield 12, 3) := by decide +kernel
theorem dX7_setBinding_21 : decode cX7_setBinding 21 = .ok (.aload_n 0, 1) := by decide +kernel
theorem dX7_setBinding_22 : decode cX7_setBinding 22 = .ok (.getfield 18, 3) := by decide +kernel
theorem dX7_setBinding_25 : decode cX7_setBinding 25 = .ok (.aload_n 0, 1) := by decide +kernel
theorem dX7_setBinding_26 : decode cX7_setBinding 26 = .ok (.getfield 18, 3) := by decide +kernel
theorem dX7_setBinding_29 : decode cX7_setBinding 29 = .ok (.iload_n 1, 1) := by decide +kernel
theorem dX7_setBinding_30 : decode cX7_setBinding 30 = .ok (.iconst 1, 1) := by decide +kernel
theorem dX7_setBinding_31 : decode cX7_setBinding 31 = .ok (.invokevirtual 86, 3) := by decide +kernel
theorem dX7_setBinding_34 : decode cX7_setBinding 34 = .ok (.invokevirtual 142, 3) := by decide +kernel
theorem dX7_setBinding_37 : decode cX7_setBinding 37 = .ok (.invokevirtual 151, 3) := by decide +kernel
theorem dX7_setBinding_40 : decode cX7_setBinding 40 = .ok (.istore 4, 2) := by decide +kernel
theorem dX7_setBinding_42 : decode cX7_setBinding 42 = .ok (.iload 4, 2) := by decide +kernel
theorem dX7_setBinding_44 : decode cX7_setBinding 44 = .ok (.iconst (-1), 1) := by decide +kernel
theorem dX7_setBinding_45 : decode cX7_setBinding 45 = .ok (.if_icmp .ne 9, 3) := by decide +kernel
theorem dX7_setBinding_48 : decode cX7_setBinding 48 = .ok (.aload_n 0, 1) := by decide +kernel
theorem dX7_setBinding_49 : decode cX7_setBinding 49 = .ok (.iconst 3, 1) := by decide +kernel
theorem dX7_setBinding_50 : decode cX7_setBinding 50 = .ok (.invokevirtual 136, 3) := by decide +kernel
theorem dX7_setBinding_53 : decode cX7_setBinding 53 = .ok (.ireturn, 1) := by decide +kernel
theorem dX7_setBinding_54 : decode cX7_setBinding 54 = .ok (.aload_n 0, 1) := by decide +kernel
theorem dX7_setBinding_55 : decode cX7_setBinding 55 = .ok (.getfield 12, 3) := by decide +kernel
theorem dX7_setBinding_58 : decode cX7_setBinding 58 = .ok (.iload 4, 2) := by decide +kernel
theorem dX7_setBinding_60 : decode cX7_setBinding 60 = .ok (.iload_n 3, 1) := by decide +kernel
theorem dX7_setBinding_61 : decode cX7_setBinding 61 = .ok (.invokevirtual 275, 3) := by decide +kernel
theorem dX7_setBinding_64 : decode cX7_setBinding 64 = .ok (.iload_n 3, 1) := by decide +kernel
theorem dX7_setBinding_65 : decode cX7_setBinding 65 = .ok (.ireturn, 1) := by decide +kernel
theorem dX7_define_0 : decode cX7_define 0 = .ok (.aload_n 0, 1) := by decide +kernel
theorem dX7_define_1 : decode cX7_define 1 = .ok (.getfield 18, 3) := by decide +kernel
theorem dX7_define_4 : decode cX7_define 4 = .ok (.aload_n 0, 1) := by decide +kernel
theorem dX7_define_5 : decode cX7_define 5 = .ok (.getfield 18, 3) := by decide +kernel
theorem dX7_define_8 : decode cX7_define 8 = .ok (.iload_n 1, 1) := by decide +kernel
theorem dX7_define_9 : decode cX7_define 9 = .ok (.iconst 1, 1) := by decide +kernel
theorem dX7_define_10 : decode cX7_define 10 = .ok (.invokevirtual 86, 3) := by decide +kernel
theorem dX7_define_13 : decode cX7_define 13 = .ok (.invokevirtual 142, 3) := by decide +kernel
theorem dX7_define_16 : decode cX7_define 16 = .ok (.istore_n 2, 1) := by decide +kernel
theorem dX7_define_17 : decode cX7_define 17 = .ok (.iload_n 2, 1) := by decide +kernel
theorem dX7_define_18 : decode cX7_define 18 = .ok (.invokestatic 164, 3) := by decide +kernel
theorem dX7_define_21 : decode cX7_define 21 = .ok (.ifnonnull 27, 3) := by decide +kernel
theorem dX7_define_24 : decode cX7_define 24 = .ok (.iload_n 2, 1) := by decide +kernel
theorem dX7_define_25 : decode cX7_define 25 = .ok (.invokestatic 156, 3) := by decide +kernel
theorem dX7_define_28 : decode cX7_define 28 = .ok (.iconst (-1), 1) := by decide +kernel
theorem dX7_define_29 : decode cX7_define 29 = .ok (.if_icmp .ne 19, 3) := by decide +kernel
theorem dX7_define_32 : decode cX7_define 32 = .ok (.aload_n 0, 1) := by decide +kernel
theorem dX7_define_33 : decode cX7_define 33 = .ok (.aload_n 0, 1) := by decide +kernel
theorem dX7_define_34 : decode cX7_define 34 = .ok (.getfield 18, 3) := by decide +kernel
theorem dX7_define_37 : decode cX7_define 37 = .ok (.iload_n 1, 1) := by decide +kernel
theorem dX7_define_38 : decode cX7_define 38 = .ok (.iconst 2, 1) := by decide +kernel
theorem dX7_define_39 : decode cX7_define 39 = .ok (.invokevirtual 86, 3) := by decide +kernel
theorem dX7_define_42 : decode cX7_define 42 = .ok (.invokevirtual 278, 3) := by decide +kernel
theorem dX7_define_45 : decode cX7_define 45 = .ok (.ifCond .ne 9, 3) := by decide +kernel
theorem dX7_define_48 : decode cX7_define 48 = .ok (.aload_n 0, 1) := by decide +kernel
theorem dX7_define_49 : decode cX7_define 49 = .ok (.iconst 4, 1) := by decide +kernel
theorem dX7_define_50 : decode cX7_define 50 = .ok (.invokevirtual 136, 3) := by decide +kernel
theorem dX7_define_53 : decode cX7_define 53 = .ok (.ireturn, 1) := by decide +kernel
theorem dX7_define_54 : decode cX7_define 54 = .ok (.aload_n 0, 1) := by decide +kernel
theorem dX7_define_55 : decode cX7_define 55 = .ok (.getfield 12, 3) := by decide +kernel
theorem dX7_define_58 : decode cX7_define 58 = .ok (.iload_n 2, 1) := by decide +kernel
theorem dX7_define_59 : decode cX7_define 59 = .ok (.iload_n 1, 1) := by decide +kernel
theorem dX7_define_60 : decode cX7_define 60 = .ok (.invokevirtual 281, 3) := by decide +kernel
theorem dX7_define_63 : decode cX7_define 63 = .ok (.ifCond .eq 7, 3) := by decide +kernel
theorem dX7_define_66 : decode cX7_define 66 = .ok (.iconst 0, 1) := by decide +kernel
theorem dX7_define_67 : decode cX7_define 67 = .ok (.goto 8, 3) := by decide +kernel
theorem dX7_define_70 : decode cX7_define 70 = .ok (.aload_n 0, 1) := by decide +kernel
theorem dX7_define_71 : decode cX7_define 71 = .ok (.iconst 2, 1) := by decide +kernel
theorem dX7_define_72 : decode cX7_define 72 = .ok (.invokevirtual 136, 3) := by decide +kernel
theorem dX7_define_75 : decode cX7_define 75 = .ok (.ireturn, 1) := by decide +kernel
theorem dX7_areInnerNames_0 : decode cX7_areInnerNames 0 = .ok (.aload_n 0, 1) := by decide +kernel
theorem dX7_areInnerNames_1 : decode cX7_areInnerNames 1 = .ok (.getfield 18, 3) := by decide +kernel
theorem dX7_areInnerNames_4 : decode cX7_areInnerNames 4 = .ok (.iload_n 1, 1) := by decide +kernel
theorem dX7_areInnerNames_5 : decode cX7_areInnerNames 5 = .ok (.invokevirtual 90, 3) := by decide +kernel
theorem dX7_areInnerNames_8 : decode cX7_areInnerNames 8 = .ok (.istore_n 2, 1) := by decide +kernel
theorem dX7_areInnerNames_9 : decode cX7_areInnerNames 9 = .ok (.iload_n 2, 1) := by decide +kernel
theorem dX7_areInnerNames_10 : decode cX7_areInnerNames 10 = .ok (.iconst 3, 1) := by decide +kernel
theorem dX7_areInnerNames_11 : decode cX7_areInnerNames 11 = .ok (.if_icmp .le 5, 3) := by decide +kernel
theorem dX7_areInnerNames_14 : decode cX7_areInnerNames 14 = .ok (.iconst 0, 1) := by decide +kernel
theorem dX7_areInnerNames_15 : decode cX7_areInnerNames 15 = .ok (.ireturn, 1) := by decide +kernel
theorem dX7_areInnerNames_16 : decode cX7_areInnerNames 16 = .ok (.iconst 0, 1) := by decide +kernel
theorem dX7_areInnerNames_17 : decode cX7_areInnerNames 17 = .ok (.istore_n 3, 1) := by decide +kernel
theorem dX7_areInnerNames_18 : decode cX7_areInnerNames 18 = .ok (.iload_n 3, 1) := by decide +kernel
theorem dX7_areInnerNames_19 : decode cX7_areInnerNames 19 = .ok (.iload_n 2, 1) := by decide +kernel
theorem dX7_areInnerNames_20 : decode cX7_areInnerNames 20 = .ok (.if_icmp .ge 81, 3) := by decide +kernel
theorem dX7_areInnerNames_23 : decode cX7_areInnerNames 23 = .ok (.aload_n 0, 1) := by decide +kernel
theorem dX7_areInnerNames_24 : decode cX7_areInnerNames 24 = .ok (.getfield 18, 3) := by decide +kernel
theorem dX7_areInnerNames_27 : decode cX7_areInnerNames 27 = .ok (.iload_n 1, 1) := by decide +kernel
theorem dX7_areInnerNames_28 : decode cX7_areInnerNames 28 = .ok (.iload_n 3, 1) := by decide +kernel
theorem dX7_areInnerNames_29 : decode cX7_areInnerNames 29 = .ok (.invokevirtual 86, 3) := by decide +kernel
theorem dX7_areInnerNames_32 : decode cX7_areInnerNames 32 = .ok (.istore 4, 2) := by decide +kernel
theorem dX7_areInnerNames_34 : decode cX7_areInnerNames 34 = .ok (.aload_n 0, 1) := by decide +kernel
theorem dX7_areInnerNames_35 : decode cX7_areInnerNames 35 = .ok (.getfield 18, 3) := by decide +kernel
theorem dX7_areInnerNames_38 : decode cX7_areInnerNames 38 = .ok (.iload 4, 2) := by decide +kernel
theorem dX7_areInnerNames_40 : decode cX7_areInnerNames 40 = .ok (.invokevirtual 139, 3) := by decide +kernel
theorem dX7_areInnerNames_43 : decode cX7_areInnerNames 43 = .ok (.iconst 2, 1) := by decide +kernel
theorem dX7_areInnerNames_44 : decode cX7_areInnerNames 44 = .ok (.if_icmp .eq 5, 3) := by decide +kernel
theorem dX7_areInnerNames_47 : decode cX7_areInnerNames 47 = .ok (.iconst 0, 1) := by decide +kernel
theorem dX7_areInnerNames_48 : decode cX7_areInnerNames 48 = .ok (.ireturn, 1) := by decide +kernel
theorem dX7_areInnerNames_49 : decode cX7_areInnerNames 49 = .ok (.iconst 0, 1) := by decide +kernel
theorem dX7_areInnerNames_50 : decode cX7_areInnerNames 50 = .ok (.istore 5, 2) := by decide +kernel
theorem dX7_areInnerNames_52 : decode cX7_areInnerNames 52 = .ok (.iload 5, 2) := by decide +kernel
theorem dX7_areInnerNames_54 : decode cX7_areInnerNames 54 = .ok (.iload_n 3, 1) := by decide +kernel
theorem dX7_areInnerNames_55 : decode cX7_areInnerNames 55 = .ok (.if_icmp .ge 40, 3) := by decide +kernel
theorem dX7_areInnerNames_58 : decode cX7_areInnerNames 58 = .ok (.aload_n 0, 1) := by decide +kernel
theorem dX7_areInnerNames_59 : decode cX7_areInnerNames 59 = .ok (.getfield 18, 3) := by decide +kernel
theorem dX7_areInnerNames_62 : decode cX7_areInnerNames 62 = .ok (.aload_n 0, 1) := by decide +kernel
theorem dX7_areInnerNames_63 : decode cX7_areInnerNames 63 = .ok (.getfield 18, 3) := by decide +kernel
theorem dX7_areInnerNames_66 : decode cX7_areInnerNames 66 = .ok (.iload_n 1, 1) := by decide +kernel
theorem dX7_areInnerNames_67 : decode cX7_areInnerNames 67 = .ok (.iload 5, 2) := by decide +kernel
theorem dX7_areInnerNames_69 : decode cX7_areInnerNames 69 = .ok (.invokevirtual 86, 3) := by decide +kernel
theorem dX7_areInnerNames_72 : decode cX7_areInnerNames 72 = .ok (.invokevirtual 142, 3) := by decide +kernel
theorem dX7_areInnerNames_75 : decode cX7_areInnerNames 75 = .ok (.aload_n 0, 1) := by decide +kernel
theorem dX7_areInnerNames_76 : decode cX7_areInnerNames 76 = .ok (.getfield 18, 3) := by decide +kernel
theorem dX7_areInnerNames_79 : decode cX7_areInnerNames 79 = .ok (.iload 4, 2) := by decide +kernel
theorem dX7_areInnerNames_81 : decode cX7_areInnerNames 81 = .ok (.invokevirtual 142, 3) := by decide +kernel
theorem dX7_areInnerNames_84 : decode cX7_areInnerNames 84 = .ok (.if_icmp .ne 5, 3) := by decide +kernel
theorem dX7_areInnerNames_87 : decode cX7_areInnerNames 87 = .ok (.iconst 0, 1) := by decide +kernel
theorem dX7_areInnerNames_88 : decode cX7_areInnerNames 88 = .ok (.ireturn, 1) := by decide +kernel
theorem dX7_areInnerNames_89 : decode cX7_areInnerNames 89 = .ok (.iinc 5 1, 3) := by decide +kernel
theorem dX7_areInnerNames_92 : decode cX7_areInnerNames 92 = .ok (.goto (-40), 3) := by decide +kernel
theorem dX7_areInnerNames_95 : decode cX7_areInnerNames 95 = .ok (.iinc 3 1, 3) := by decide +kernel
theorem dX7_areInnerNames_98 : decode cX7_areInnerNames 98 = .ok (.goto (-80), 3) := by decide +kernel
theorem dX7_areInnerNames_101 : decode cX7_areInnerNames 101 = .ok (.iconst 1, 1) := by decide +kernel
theorem dX7_areInnerNames_102 : decode cX7_areInnerNames 102 = .ok (.ireturn, 1) := by decide +kernel
theorem dX7_valueOfFunction_0 : decode cX7_valueOfFunction 0 = .ok (.aload_n 0, 1) := by decide +kernel
theorem dX7_valueOfFunction_1 : decode cX7_valueOfFunction 1 = .ok (.getfield 12, 3) := by decide +kernel
theorem dX7_valueOfFunction_4 : decode cX7_valueOfFunction 4 = .ok (.iload_n 1, 1) := by decide +kernel
theorem dX7_valueOfFunction_5 : decode cX7_valueOfFunction 5 = .ok (.invokevirtual 285, 3) := by decide +kernel
theorem dX7_valueOfFunction_8 : decode cX7_valueOfFunction 8 = .ok (.istore 4, 2) := by decide +kernel
theorem dX7_valueOfFunction_10 : decode cX7_valueOfFunction 10 = .ok (.iload 4, 2) := by decide +kernel
theorem dX7_valueOfFunction_12 : decode cX7_valueOfFunction 12 = .ok (.iconst (-1), 1) := by decide +kernel
theorem dX7_valueOfFunction_13 : decode cX7_valueOfFunction 13 = .ok (.if_icmp .ne 9, 3) := by decide +kernel
theorem dX7_valueOfFunction_16 : decode cX7_valueOfFunction 16 = .ok (.aload_n 0, 1) := by decide +kernel
theorem dX7_valueOfFunction_17 : decode cX7_valueOfFunction 17 = .ok (.iconst 3, 1) := by decide +kernel
theorem dX7_valueOfFunction_18 : decode cX7_valueOfFunction 18 = .ok (.invokevirtual 136, 3) := by decide +kernel
theorem dX7_valueOfFunction_21 : decode cX7_valueOfFunction 21 = .ok (.ireturn, 1) := by decide +kernel
theorem dX7_valueOfFunction_22 : decode cX7_valueOfFunction 22 = .ok (.aload_n 0, 1) := by decide +kernel
theorem dX7_valueOfFunction_23 : decode cX7_valueOfFunction 23 = .ok (.getfield 18, 3) := by decide +kernel
theorem dX7_valueOfFunction_26 : decode cX7_valueOfFunction 26 = .ok (.iload 4, 2) := by decide +kernel
theorem dX7_valueOfFunction_28 : decode cX7_valueOfFunction 28 = .ok (.iconst 2, 1) := by decide +kernel
theorem dX7_valueOfFunction_29 : decode cX7_valueOfFunction 29 = .ok (.invokevirtual 86, 3) := by decide +kernel
theorem dX7_valueOfFunction_32 : decode cX7_valueOfFunction 32 = .ok (.istore 5, 2) := by decide +kernel
theorem dX7_valueOfFunction_34 : decode cX7_valueOfFunction 34 = .ok (.aload_n 0, 1) := by decide +kernel
theorem dX7_valueOfFunction_35 : decode cX7_valueOfFunction 35 = .ok (.getfield 18, 3) := by decide +kernel
theorem dX7_valueOfFunction_38 : decode cX7_valueOfFunction 38 = .ok (.iload 5, 2) := by decide +kernel
theorem dX7_valueOfFunction_40 : decode cX7_valueOfFunction 40 = .ok (.invokevirtual 90, 3) := by decide +kernel
theorem dX7_valueOfFunction_43 : decode cX7_valueOfFunction 43 = .ok (.istore 6, 2) := by decide +kernel
theorem dX7_valueOfFunction_45 : decode cX7_valueOfFunction 45 = .ok (.aload_n 0, 1) := by decide +kernel
theorem dX7_valueOfFunction_46 : decode cX7_valueOfFunction 46 = .ok (.getfield 18, 3) := by decide +kernel
theorem dX7_valueOfFunction_49 : decode cX7_valueOfFunction 49 = .ok (.iload_n 2, 1) := by decide +kernel
theorem dX7_valueOfFunction_50 : decode cX7_valueOfFunction 50 = .ok (.invokevirtual 90, 3) := by decide +kernel
theorem dX7_valueOfFunction_53 : decode cX7_valueOfFunction 53 = .ok (.iconst 1, 1) := by decide +kernel
theorem dX7_valueOfFunction_54 : decode cX7_valueOfFunction 54 = .ok (.isub, 1) := by decide +kernel
theorem dX7_valueOfFunction_55 : decode cX7_valueOfFunction 55 = .ok (.iload 6, 2) := by decide +kernel
theorem dX7_valueOfFunction_57 : decode cX7_valueOfFunction 57 = .ok (.if_icmp .eq 9, 3) := by decide +kernel
theorem dX7_valueOfFunction_60 : decode cX7_valueOfFunction 60 = .ok (.aload_n 0, 1) := by decide +kernel
theorem dX7_valueOfFunction_61 : decode cX7_valueOfFunction 61 = .ok (.iconst 4, 1) := by decide +kernel
theorem dX7_valueOfFunction_62 : decode cX7_valueOfFunction 62 = .ok (.invokevirtual 136, 3) := by decide +kernel
theorem dX7_valueOfFunction_65 : decode cX7_valueOfFunction 65 = .ok (.ireturn, 1) := by decide +kernel
theorem dX7_valueOfFunction_66 : decode cX7_valueOfFunction 66 = .ok (.iload 6, 2) := by decide +kernel
theorem dX7_valueOfFunction_68 : decode cX7_valueOfFunction 68 = .ok (.ifCond .le 13, 3) := by decide +kernel
theorem dX7_valueOfFunction_71 : decode cX7_valueOfFunction 71 = .ok (.aload_n 0, 1) := by decide +kernel
theorem dX7_valueOfFunction_72 : decode cX7_valueOfFunction 72 = .ok (.iload_n 2, 1) := by decide +kernel
theorem dX7_valueOfFunction_73 : decode cX7_valueOfFunction 73 = .ok (.iconst 1, 1) := by decide +kernel
theorem dX7_valueOfFunction_74 : decode cX7_valueOfFunction 74 = .ok (.iload_n 3, 1) := by decide +kernel
theorem dX7_valueOfFunction_75 : decode cX7_valueOfFunction 75 = .ok (.invokevirtual 185, 3) := by decide +kernel
theorem dX7_valueOfFunction_78 : decode cX7_valueOfFunction 78 = .ok (.goto 4, 3) := by decide +kernel
theorem dX7_valueOfFunction_81 : decode cX7_valueOfFunction 81 = .ok (.iconst 0, 1) := by decide +kernel
theorem dX7_valueOfFunction_82 : decode cX7_valueOfFunction 82 = .ok (.istore 7, 2) := by decide +kernel
theorem dX7_valueOfFunction_84 : decode cX7_valueOfFunction 84 = .ok (.iload 6, 2) := by decide +kernel
theorem dX7_valueOfFunction_86 : decode cX7_valueOfFunction 86 = .ok (.iconst 1, 1) := by decide +kernel
theorem dX7_valueOfFunction_87 : decode cX7_valueOfFunction 87 = .ok (.if_icmp .le 13, 3) := by decide +kernel
theorem dX7_valueOfFunction_90 : decode cX7_valueOfFunction 90 = .ok (.aload_n 0, 1) := by decide +kernel
theorem dX7_valueOfFunction_91 : decode cX7_valueOfFunction 91 = .ok (.iload_n 2, 1) := by decide +kernel
theorem dX7_valueOfFunction_92 : decode cX7_valueOfFunction 92 = .ok (.iconst 2, 1) := by decide +kernel
theorem dX7_valueOfFunction_93 : decode cX7_valueOfFunction 93 = .ok (.iload_n 3, 1) := by decide +kernel
theorem dX7_valueOfFunction_94 : decode cX7_valueOfFunction 94 = .ok (.invokevirtual 185, 3) := by decide +kernel
theorem dX7_valueOfFunction_97 : decode cX7_valueOfFunction 97 = .ok (.goto 4, 3) := by decide +kernel
theorem dX7_valueOfFunction_100 : decode cX7_valueOfFunction 100 = .ok (.iconst 0, 1) := by decide +kernel
theorem dX7_valueOfFunction_101 : decode cX7_valueOfFunction 101 = .ok (.istore 8, 2) := by decide +kernel
theorem dX7_valueOfFunction_103 : decode cX7_valueOfFunction 103 = .ok (.iload 6, 2) := by decide +kernel
theorem dX7_valueOfFunction_105 : decode cX7_valueOfFunction 105 = .ok (.iconst 2, 1) := by decide +kernel
theorem dX7_valueOfFunction_106 : decode cX7_valueOfFunction 106 = .ok (.if_icmp .le 13, 3) := by decide +kernel
theorem dX7_valueOfFunction_109 : decode cX7_valueOfFunction 109 = .ok (.aload_n 0, 1) := by decide +kernel
theorem dX7_valueOfFunction_110 : decode cX7_valueOfFunction 110 = .ok (.iload_n 2, 1) := by decide +kernel
theorem dX7_valueOfFunction_111 : decode cX7_valueOfFunction 111 = .ok (.iconst 3, 1) := by decide +kernel
theorem dX7_valueOfFunction_112 : decode cX7_valueOfFunction 112 = .ok (.iload_n 3, 1) := by decide +kernel
theorem dX7_valueOfFunction_113 : decode cX7_valueOfFunction 113 = .ok (.invokevirtual 185, 3) := by decide +kernel
theorem dX7_valueOfFunction_116 : decode cX7_valueOfFunction 116 = .ok (.goto 4, 3) := by decide +kernel
theorem dX7_valueOfFunction_119 : decode cX7_valueOfFunction 119 = .ok (.iconst 0, 1) := by decide +kernel
theorem dX7_valueOfFunction_120 : decode cX7_valueOfFunction 120 = .ok (.istore 9, 2) := by decide +kernel
theorem dX7_valueOfFunction_122 : decode cX7_valueOfFunction 122 = .ok (.aload_n 0, 1) := by decide +kernel
theorem dX7_valueOfFunction_123 : decode cX7_valueOfFunction 123 = .ok (.getfield 12, 3) := by decide +kernel
theorem dX7_valueOfFunction_126 : decode cX7_valueOfFunction 126 = .ok (.invokevirtual 288, 3) := by decide +kernel
theorem dX7_valueOfFunction_129 : decode cX7_valueOfFunction 129 = .ok (.istore 10, 2) := by decide +kernel
theorem dX7_valueOfFunction_131 : decode cX7_valueOfFunction 131 = .ok (.aload_n 0, 1) := by decide +kernel
theorem dX7_valueOfFunction_132 : decode cX7_valueOfFunction 132 = .ok (.iload 5, 2) := by decide +kernel
theorem dX7_valueOfFunction_134 : decode cX7_valueOfFunction 134 = .ok (.iconst 0, 1) := by decide +kernel
theorem dX7_valueOfFunction_135 : decode cX7_valueOfFunction 135 = .ok (.iload 7, 2) := by decide +kernel
theorem dX7_valueOfFunction_137 : decode cX7_valueOfFunction 137 = .ok (.invokevirtual 291, 3) := by decide +kernel
theorem dX7_valueOfFunction_140 : decode cX7_valueOfFunction 140 = .ok (.aload_n 0, 1) := by decide +kernel
theorem dX7_valueOfFunction_141 : decode cX7_valueOfFunction 141 = .ok (.iload 5, 2) := by decide +kernel
theorem dX7_valueOfFunction_143 : decode cX7_valueOfFunction 143 = .ok (.iconst 1, 1) := by decide +kernel
theorem dX7_valueOfFunction_144 : decode cX7_valueOfFunction 144 = .ok (.iload 8, 2) := by decide +kernel
theorem dX7_valueOfFunction_146 : decode cX7_valueOfFunction 146 = .ok (.invokevirtual 291, 3) := by decide +kernel
theorem dX7_valueOfFunction_149 : decode cX7_valueOfFunction 149 = .ok (.aload_n 0, 1) := by decide +kernel
theorem dX7_valueOfFunction_150 : decode cX7_valueOfFunction 150 = .ok (.iload 5, 2) := by decide +kernel
theorem dX7_valueOfFunction_152 : decode cX7_valueOfFunction 152 = .ok (.iconst 2, 1) := by decide +kernel
theorem dX7_valueOfFunction_153 : decode cX7_valueOfFunction 153 = .ok (.iload 9, 2) := by decide +kernel
theorem dX7_valueOfFunction_155 : decode cX7_valueOfFunction 155 = .ok (.invokevirtual 291, 3) := by decide +kernel
theorem dX7_valueOfFunction_158 : decode cX7_valueOfFunction 158 = .ok (.aload_n 0, 1) := by decide +kernel
theorem dX7_valueOfFunction_159 : decode cX7_valueOfFunction 159 = .ok (.iload 4, 2) := by decide +kernel
theorem dX7_valueOfFunction_161 : decode cX7_valueOfFunction 161 = .ok (.iconst 3, 1) := by decide +kernel
theorem dX7_valueOfFunction_162 : decode cX7_valueOfFunction 162 = .ok (.iload_n 3, 1) := by decide +kernel
theorem dX7_valueOfFunction_163 : decode cX7_valueOfFunction 163 = .ok (.invokevirtual 185, 3) := by decide +kernel
theorem dX7_valueOfFunction_166 : decode cX7_valueOfFunction 166 = .ok (.istore 11, 2) := by decide +kernel
theorem dX7_valueOfFunction_168 : decode cX7_valueOfFunction 168 = .ok (.aload_n 0, 1) := by decide +kernel
theorem dX7_valueOfFunction_169 : decode cX7_valueOfFunction 169 = .ok (.getfield 12, 3) := by decide +kernel
theorem dX7_valueOfFunction_172 : decode cX7_valueOfFunction 172 = .ok (.iload 10, 2) := by decide +kernel
theorem dX7_valueOfFunction_174 : decode cX7_valueOfFunction 174 = .ok (.invokevirtual 295, 3) := by decide +kernel
theorem dX7_valueOfFunction_177 : decode cX7_valueOfFunction 177 = .ok (.iload 11, 2) := by decide +kernel
theorem dX7_valueOfFunction_179 : decode cX7_valueOfFunction 179 = .ok (.ireturn, 1) := by decide +kernel
theorem dX7_bindInner_0 : decode cX7_bindInner 0 = .ok (.aload_n 0, 1) := by decide +kernel
theorem dX7_bindInner_1 : decode cX7_bindInner 1 = .ok (.getfield 18, 3) := by decide +kernel
theorem dX7_bindInner_4 : decode cX7_bindInner 4 = .ok (.iload_n 1, 1) := by decide +kernel
theorem dX7_bindInner_5 : decode cX7_bindInner 5 = .ok (.iload_n 2, 1) := by decide +kernel
theorem dX7_bindInner_6 : decode cX7_bindInner 6 = .ok (.invokevirtual 86, 3) := by decide +kernel
theorem dX7_bindInner_9 : decode cX7_bindInner 9 = .ok (.istore 4, 2) := by decide +kernel
theorem dX7_bindInner_11 : decode cX7_bindInner 11 = .ok (.iload 4, 2) := by decide +kernel
theorem dX7_bindInner_13 : decode cX7_bindInner 13 = .ok (.iconst (-1), 1) := by decide +kernel
theorem dX7_bindInner_14 : decode cX7_bindInner 14 = .ok (.if_icmp .eq 20, 3) := by decide +kernel
theorem dX7_bindInner_17 : decode cX7_bindInner 17 = .ok (.aload_n 0, 1) := by decide +kernel
theorem dX7_bindInner_18 : decode cX7_bindInner 18 = .ok (.getfield 12, 3) := by decide +kernel
theorem dX7_bindInner_21 : decode cX7_bindInner 21 = .ok (.aload_n 0, 1) := by decide +kernel
theorem dX7_bindInner_22 : decode cX7_bindInner 22 = .ok (.getfield 18, 3) := by decide +kernel
theorem dX7_bindInner_25 : decode cX7_bindInner 25 = .ok (.iload 4, 2) := by decide +kernel
theorem dX7_bindInner_27 : decode cX7_bindInner 27 = .ok (.invokevirtual 142, 3) := by decide +kernel
theorem dX7_bindInner_30 : decode cX7_bindInner 30 = .ok (.iload_n 3, 1) := by decide +kernel
theorem dX7_bindInner_31 : decode cX7_bindInner 31 = .ok (.invokevirtual 268, 3) := by decide +kernel
theorem dX7_bindInner_34 : decode cX7_bindInner 34 = .ok (.return_, 1) := by decide +kernel
theorem dX7_valueOfScript_0 : decode cX7_valueOfScript 0 = .ok (.aload_n 0, 1) := by decide +kernel
theorem dX7_valueOfScript_1 : decode cX7_valueOfScript 1 = .ok (.getfield 60, 3) := by decide +kernel
theorem dX7_valueOfScript_4 : decode cX7_valueOfScript 4 = .ok (.ifCond .eq 5, 3) := by decide +kernel
theorem dX7_valueOfScript_7 : decode cX7_valueOfScript 7 = .ok (.iconst 0, 1) := by decide +kernel
theorem dX7_valueOfScript_8 : decode cX7_valueOfScript 8 = .ok (.ireturn, 1) := by decide +kernel
theorem dX7_valueOfScript_9 : decode cX7_valueOfScript 9 = .ok (.iload_n 1, 1) := by decide +kernel
theorem dX7_valueOfScript_10 : decode cX7_valueOfScript 10 = .ok (.iconst 0, 1) := by decide +kernel
theorem dX7_valueOfScript_11 : decode cX7_valueOfScript 11 = .ok (.bipush 7, 2) := by decide +kernel
theorem dX7_valueOfScript_13 : decode cX7_valueOfScript 13 = .ok (.invokestatic 298, 3) := by decide +kernel
theorem dX7_valueOfScript_16 : decode cX7_valueOfScript 16 = .ok (.ifCond .eq 15, 3) := by decide +kernel
theorem dX7_valueOfScript_19 : decode cX7_valueOfScript 19 = .ok (.aload_n 0, 1) := by decide +kernel
theorem dX7_valueOfScript_20 : decode cX7_valueOfScript 20 = .ok (.getfield 22, 3) := by decide +kernel
theorem dX7_valueOfScript_23 : decode cX7_valueOfScript 23 = .ok (.iload_n 1, 1) := by decide +kernel
theorem dX7_valueOfScript_24 : decode cX7_valueOfScript 24 = .ok (.invokevirtual 74, 3) := by decide +kernel
theorem dX7_valueOfScript_27 : decode cX7_valueOfScript 27 = .ok (.iconst (-1), 1) := by decide +kernel
theorem dX7_valueOfScript_28 : decode cX7_valueOfScript 28 = .ok (.if_icmp .eq 10, 3) := by decide +kernel
theorem dX7_valueOfScript_31 : decode cX7_valueOfScript 31 = .ok (.aload_n 0, 1) := by decide +kernel
theorem dX7_valueOfScript_32 : decode cX7_valueOfScript 32 = .ok (.bipush 6, 2) := by decide +kernel
theorem dX7_valueOfScript_34 : decode cX7_valueOfScript 34 = .ok (.invokevirtual 136, 3) := by decide +kernel
theorem dX7_valueOfScript_37 : decode cX7_valueOfScript 37 = .ok (.ireturn, 1) := by decide +kernel
theorem dX7_valueOfScript_38 : decode cX7_valueOfScript 38 = .ok (.aload_n 0, 1) := by decide +kernel
theorem dX7_valueOfScript_39 : decode cX7_valueOfScript 39 = .ok (.getfield 12, 3) := by decide +kernel
theorem dX7_valueOfScript_42 : decode cX7_valueOfScript 42 = .ok (.invokevirtual 288, 3) := by decide +kernel
theorem dX7_valueOfScript_45 : decode cX7_valueOfScript 45 = .ok (.istore_n 3, 1) := by decide +kernel
theorem dX7_valueOfScript_46 : decode cX7_valueOfScript 46 = .ok (.aload_n 0, 1) := by decide +kernel
theorem dX7_valueOfScript_47 : decode cX7_valueOfScript 47 = .ok (.iload_n 1, 1) := by decide +kernel
theorem dX7_valueOfScript_48 : decode cX7_valueOfScript 48 = .ok (.invokestatic 78, 3) := by decide +kernel
theorem dX7_valueOfScript_51 : decode cX7_valueOfScript 51 = .ok (.iconst 0, 1) := by decide +kernel
theorem dX7_valueOfScript_52 : decode cX7_valueOfScript 52 = .ok (.iload_n 2, 1) := by decide +kernel
theorem dX7_valueOfScript_53 : decode cX7_valueOfScript 53 = .ok (.invokevirtual 195, 3) := by decide +kernel
theorem dX7_valueOfScript_56 : decode cX7_valueOfScript 56 = .ok (.istore 4, 2) := by decide +kernel
theorem dX7_valueOfScript_58 : decode cX7_valueOfScript 58 = .ok (.aload_n 0, 1) := by decide +kernel
theorem dX7_valueOfScript_59 : decode cX7_valueOfScript 59 = .ok (.getfield 12, 3) := by decide +kernel
theorem dX7_valueOfScript_62 : decode cX7_valueOfScript 62 = .ok (.iload_n 3, 1) := by decide +kernel
theorem dX7_valueOfScript_63 : decode cX7_valueOfScript 63 = .ok (.invokevirtual 295, 3) := by decide +kernel
theorem dX7_valueOfScript_66 : decode cX7_valueOfScript 66 = .ok (.iload 4, 2) := by decide +kernel
theorem dX7_valueOfScript_68 : decode cX7_valueOfScript 68 = .ok (.ireturn, 1) := by decide +kernel
theorem dX7_carry_0 : decode cX7_carry 0 = .ok (.aload_n 0, 1) := by decide +kernel
theorem dX7_carry_1 : decode cX7_carry 1 = .ok (.getfield 60, 3) := by decide +kernel
theorem dX7_carry_4 : decode cX7_carry 4 = .ok (.ifCond .eq 5, 3) := by decide +kernel
theorem dX7_carry_7 : decode cX7_carry 7 = .ok (.iconst 0, 1) := by decide +kernel
theorem dX7_carry_8 : decode cX7_carry 8 = .ok (.ireturn, 1) := by decide +kernel
theorem dX7_carry_9 : decode cX7_carry 9 = .ok (.aload_n 0, 1) := by decide +kernel
theorem dX7_carry_10 : decode cX7_carry 10 = .ok (.getfield 18, 3) := by decide +kernel
theorem dX7_carry_13 : decode cX7_carry 13 = .ok (.iload_n 3, 1) := by decide +kernel
theorem dX7_carry_14 : decode cX7_carry 14 = .ok (.invokevirtual 142, 3) := by decide +kernel
theorem dX7_carry_17 : decode cX7_carry 17 = .ok (.invokestatic 156, 3) := by decide +kernel
theorem dX7_carry_20 : decode cX7_carry 20 = .ok (.istore 5, 2) := by decide +kernel
theorem dX7_carry_22 : decode cX7_carry 22 = .ok (.iload 4, 2) := by decide +kernel
theorem dX7_carry_24 : decode cX7_carry 24 = .ok (.ifCond .lt 9, 3) := by decide +kernel
theorem dX7_carry_27 : decode cX7_carry 27 = .ok (.iload 5, 2) := by decide +kernel
theorem dX7_carry_29 : decode cX7_carry 29 = .ok (.iconst (-1), 1) := by decide +kernel
theorem dX7_carry_30 : decode cX7_carry 30 = .ok (.if_icmp .ne 10, 3) := by decide +kernel
theorem dX7_carry_33 : decode cX7_carry 33 = .ok (.aload_n 0, 1) := by decide +kernel
theorem dX7_carry_34 : decode cX7_carry 34 = .ok (.bipush 6, 2) := by decide +kernel
theorem dX7_carry_36 : decode cX7_carry 36 = .ok (.invokevirtual 136, 3) := by decide +kernel
theorem dX7_carry_39 : decode cX7_carry 39 = .ok (.ireturn, 1) := by decide +kernel
theorem dX7_carry_40 : decode cX7_carry 40 = .ok (.iload 4, 2) := by decide +kernel
theorem dX7_carry_42 : decode cX7_carry 42 = .ok (.aload_n 0, 1) := by decide +kernel
theorem dX7_carry_43 : decode cX7_carry 43 = .ok (.getfield 30, 3) := by decide +kernel
theorem dX7_carry_46 : decode cX7_carry 46 = .ok (.iload_n 1, 1) := by decide +kernel
theorem dX7_carry_47 : decode cX7_carry 47 = .ok (.iload 5, 2) := by decide +kernel
theorem dX7_carry_49 : decode cX7_carry 49 = .ok (.invokevirtual 161, 3) := by decide +kernel
theorem dX7_carry_52 : decode cX7_carry 52 = .ok (.invokestatic 252, 3) := by decide +kernel
theorem dX7_carry_55 : decode cX7_carry 55 = .ok (.istore 6, 2) := by decide +kernel
theorem dX7_carry_57 : decode cX7_carry 57 = .ok (.iload_n 1, 1) := by decide +kernel
theorem dX7_carry_58 : decode cX7_carry 58 = .ok (.iload_n 2, 1) := by decide +kernel
theorem dX7_carry_59 : decode cX7_carry 59 = .ok (.if_icmp .eq 8, 3) := by decide +kernel
theorem dX7_carry_62 : decode cX7_carry 62 = .ok (.iload 6, 2) := by decide +kernel
theorem dX7_carry_64 : decode cX7_carry 64 = .ok (.ifCond .ne 5, 3) := by decide +kernel
theorem dX7_carry_67 : decode cX7_carry 67 = .ok (.iconst 0, 1) := by decide +kernel
theorem dX7_carry_68 : decode cX7_carry 68 = .ok (.ireturn, 1) := by decide +kernel
theorem dX7_carry_69 : decode cX7_carry 69 = .ok (.aload_n 0, 1) := by decide +kernel
theorem dX7_carry_70 : decode cX7_carry 70 = .ok (.getfield 30, 3) := by decide +kernel
theorem dX7_carry_73 : decode cX7_carry 73 = .ok (.invokevirtual 302, 3) := by decide +kernel
theorem dX7_carry_76 : decode cX7_carry 76 = .ok (.ifCond .eq 9, 3) := by decide +kernel
theorem dX7_carry_79 : decode cX7_carry 79 = .ok (.aload_n 0, 1) := by decide +kernel
theorem dX7_carry_80 : decode cX7_carry 80 = .ok (.iconst 2, 1) := by decide +kernel
theorem dX7_carry_81 : decode cX7_carry 81 = .ok (.invokevirtual 136, 3) := by decide +kernel
theorem dX7_carry_84 : decode cX7_carry 84 = .ok (.ireturn, 1) := by decide +kernel
theorem dX7_carry_85 : decode cX7_carry 85 = .ok (.aload_n 0, 1) := by decide +kernel
theorem dX7_carry_86 : decode cX7_carry 86 = .ok (.getfield 30, 3) := by decide +kernel
theorem dX7_carry_89 : decode cX7_carry 89 = .ok (.iload_n 1, 1) := by decide +kernel
theorem dX7_carry_90 : decode cX7_carry 90 = .ok (.iload_n 2, 1) := by decide +kernel
theorem dX7_carry_91 : decode cX7_carry 91 = .ok (.iload 5, 2) := by decide +kernel
theorem dX7_carry_93 : decode cX7_carry 93 = .ok (.iload 6, 2) := by decide +kernel
theorem dX7_carry_95 : decode cX7_carry 95 = .ok (.aload_n 0, 1) := by decide +kernel
theorem dX7_carry_96 : decode cX7_carry 96 = .ok (.getfield 44, 3) := by decide +kernel
theorem dX7_carry_99 : decode cX7_carry 99 = .ok (.invokevirtual 306, 3) := by decide +kernel
theorem dX7_carry_102 : decode cX7_carry 102 = .ok (.iload 6, 2) := by decide +kernel
theorem dX7_carry_104 : decode cX7_carry 104 = .ok (.ireturn, 1) := by decide +kernel
theorem dX7_give_0 : decode cX7_give 0 = .ok (.aload_n 0, 1) := by decide +kernel
theorem dX7_give_1 : decode cX7_give 1 = .ok (.iload_n 1, 1) := by decide +kernel
theorem dX7_give_2 : decode cX7_give 2 = .ok (.iconst 1, 1) := by decide +kernel
theorem dX7_give_3 : decode cX7_give 3 = .ok (.iload_n 2, 1) := by decide +kernel
theorem dX7_give_4 : decode cX7_give 4 = .ok (.invokevirtual 185, 3) := by decide +kernel
theorem dX7_give_7 : decode cX7_give 7 = .ok (.istore_n 3, 1) := by decide +kernel
theorem dX7_give_8 : decode cX7_give 8 = .ok (.aload_n 0, 1) := by decide +kernel
theorem dX7_give_9 : decode cX7_give 9 = .ok (.iload_n 1, 1) := by decide +kernel
theorem dX7_give_10 : decode cX7_give 10 = .ok (.iconst 3, 1) := by decide +kernel
theorem dX7_give_11 : decode cX7_give 11 = .ok (.iload_n 2, 1) := by decide +kernel
theorem dX7_give_12 : decode cX7_give 12 = .ok (.invokevirtual 185, 3) := by decide +kernel
theorem dX7_give_15 : decode cX7_give 15 = .ok (.istore 4, 2) := by decide +kernel
theorem dX7_give_17 : decode cX7_give 17 = .ok (.aload_n 0, 1) := by decide +kernel
theorem dX7_give_18 : decode cX7_give 18 = .ok (.getfield 60, 3) := by decide +kernel
theorem dX7_give_21 : decode cX7_give 21 = .ok (.ifCond .ne 19, 3) := by decide +kernel
theorem dX7_give_24 : decode cX7_give 24 = .ok (.iload_n 3, 1) := by decide +kernel
theorem dX7_give_25 : decode cX7_give 25 = .ok (.iconst 0, 1) := by decide +kernel
theorem dX7_give_26 : decode cX7_give 26 = .ok (.iconst 3, 1) := by decide +kernel
theorem dX7_give_27 : decode cX7_give 27 = .ok (.invokestatic 298, 3) := by decide +kernel
theorem dX7_give_30 : decode cX7_give 30 = .ok (.ifCond .ne 10, 3) := by decide +kernel
theorem dX7_give_33 : decode cX7_give 33 = .ok (.aload_n 0, 1) := by decide +kernel
theorem dX7_give_34 : decode cX7_give 34 = .ok (.bipush 6, 2) := by decide +kernel
theorem dX7_give_36 : decode cX7_give 36 = .ok (.invokevirtual 136, 3) := by decide +kernel
theorem dX7_give_39 : decode cX7_give 39 = .ok (.ireturn, 1) := by decide +kernel
theorem dX7_give_40 : decode cX7_give 40 = .ok (.aload_n 0, 1) := by decide +kernel
theorem dX7_give_41 : decode cX7_give 41 = .ok (.aload_n 0, 1) := by decide +kernel
theorem dX7_give_42 : decode cX7_give 42 = .ok (.getfield 53, 3) := by decide +kernel
theorem dX7_give_45 : decode cX7_give 45 = .ok (.iload_n 3, 1) := by decide +kernel
theorem dX7_give_46 : decode cX7_give 46 = .ok (.aload_n 0, 1) := by decide +kernel
theorem dX7_give_47 : decode cX7_give 47 = .ok (.getfield 18, 3) := by decide +kernel
theorem dX7_give_50 : decode cX7_give 50 = .ok (.iload_n 1, 1) := by decide +kernel
theorem dX7_give_51 : decode cX7_give 51 = .ok (.iconst 2, 1) := by decide +kernel
theorem dX7_give_52 : decode cX7_give 52 = .ok (.invokevirtual 86, 3) := by decide +kernel
theorem dX7_give_55 : decode cX7_give 55 = .ok (.iload 4, 2) := by decide +kernel
theorem dX7_give_57 : decode cX7_give 57 = .ok (.invokevirtual 207, 3) := by decide +kernel
theorem dX7_give_60 : decode cX7_give 60 = .ok (.ireturn, 1) := by decide +kernel
theorem dX7_orderAhead_0 : decode cX7_orderAhead 0 = .ok (.aload_n 0, 1) := by decide +kernel
theorem dX7_orderAhead_1 : decode cX7_orderAhead 1 = .ok (.iload_n 1, 1) := by decide +kernel
theorem dX7_orderAhead_2 : decode cX7_orderAhead 2 = .ok (.iconst 1, 1) := by decide +kernel
theorem dX7_orderAhead_3 : decode cX7_orderAhead 3 = .ok (.iload_n 2, 1) := by decide +kernel
theorem dX7_orderAhead_4 : decode cX7_orderAhead 4 = .ok (.invokevirtual 185, 3) := by decide +kernel
theorem dX7_orderAhead_7 : decode cX7_orderAhead 7 = .ok (.istore_n 3, 1) := by decide +kernel
theorem dX7_orderAhead_8 : decode cX7_orderAhead 8 = .ok (.aload_n 0, 1) := by decide +kernel
theorem dX7_orderAhead_9 : decode cX7_orderAhead 9 = .ok (.iload_n 1, 1) := by decide +kernel
theorem dX7_orderAhead_10 : decode cX7_orderAhead 10 = .ok (.iconst 2, 1) := by decide +kernel
theorem dX7_orderAhead_11 : decode cX7_orderAhead 11 = .ok (.iload_n 2, 1) := by decide +kernel
theorem dX7_orderAhead_12 : decode cX7_orderAhead 12 = .ok (.invokevirtual 185, 3) := by decide +kernel
theorem dX7_orderAhead_15 : decode cX7_orderAhead 15 = .ok (.istore 4, 2) := by decide +kernel
theorem dX7_orderAhead_17 : decode cX7_orderAhead 17 = .ok (.aload_n 0, 1) := by decide +kernel
theorem dX7_orderAhead_18 : decode cX7_orderAhead 18 = .ok (.iload_n 1, 1) := by decide +kernel
theorem dX7_orderAhead_19 : decode cX7_orderAhead 19 = .ok (.iconst 3, 1) := by decide +kernel
theorem dX7_orderAhead_20 : decode cX7_orderAhead 20 = .ok (.iload_n 2, 1) := by decide +kernel
theorem dX7_orderAhead_21 : decode cX7_orderAhead 21 = .ok (.invokevirtual 185, 3) := by decide +kernel
theorem dX7_orderAhead_24 : decode cX7_orderAhead 24 = .ok (.istore 5, 2) := by decide +kernel
theorem dX7_orderAhead_26 : decode cX7_orderAhead 26 = .ok (.aload_n 0, 1) := by decide +kernel
theorem dX7_orderAhead_27 : decode cX7_orderAhead 27 = .ok (.getfield 60, 3) := by decide +kernel
theorem dX7_orderAhead_30 : decode cX7_orderAhead 30 = .ok (.ifCond .eq 5, 3) := by decide +kernel
theorem dX7_orderAhead_33 : decode cX7_orderAhead 33 = .ok (.iconst 0, 1) := by decide +kernel
theorem dX7_orderAhead_34 : decode cX7_orderAhead 34 = .ok (.ireturn, 1) := by decide +kernel
theorem dX7_orderAhead_35 : decode cX7_orderAhead 35 = .ok (.iload_n 3, 1) := by decide +kernel
theorem dX7_orderAhead_36 : decode cX7_orderAhead 36 = .ok (.iconst 1, 1) := by decide +kernel
theorem dX7_orderAhead_37 : decode cX7_orderAhead 37 = .ok (.bipush 100, 2) := by decide +kernel
theorem dX7_orderAhead_39 : decode cX7_orderAhead 39 = .ok (.invokestatic 298, 3) := by decide +kernel
theorem dX7_orderAhead_42 : decode cX7_orderAhead 42 = .ok (.ifCond .eq 26, 3) := by decide +kernel
theorem dX7_orderAhead_45 : decode cX7_orderAhead 45 = .ok (.iload 4, 2) := by decide +kernel
theorem dX7_orderAhead_47 : decode cX7_orderAhead 47 = .ok (.iconst 0, 1) := by decide +kernel
theorem dX7_orderAhead_48 : decode cX7_orderAhead 48 = .ok (.bipush 7, 2) := by decide +kernel
theorem dX7_orderAhead_50 : decode cX7_orderAhead 50 = .ok (.invokestatic 298, 3) := by decide +kernel
theorem dX7_orderAhead_53 : decode cX7_orderAhead 53 = .ok (.ifCond .eq 15, 3) := by decide +kernel
theorem dX7_orderAhead_56 : decode cX7_orderAhead 56 = .ok (.iload 5, 2) := by decide +kernel
theorem dX7_orderAhead_58 : decode cX7_orderAhead 58 = .ok (.iconst 1, 1) := by decide +kernel
theorem dX7_orderAhead_59 : decode cX7_orderAhead 59 = .ok (.sipush 1000, 3) := by decide +kernel
theorem dX7_orderAhead_62 : decode cX7_orderAhead 62 = .ok (.invokestatic 298, 3) := by decide +kernel
theorem dX7_orderAhead_65 : decode cX7_orderAhead 65 = .ok (.ifCond .ne 10, 3) := by decide +kernel
theorem dX7_orderAhead_68 : decode cX7_orderAhead 68 = .ok (.aload_n 0, 1) := by decide +kernel
theorem dX7_orderAhead_69 : decode cX7_orderAhead 69 = .ok (.bipush 6, 2) := by decide +kernel
theorem dX7_orderAhead_71 : decode cX7_orderAhead 71 = .ok (.invokevirtual 136, 3) := by decide +kernel
theorem dX7_orderAhead_74 : decode cX7_orderAhead 74 = .ok (.ireturn, 1) := by decide +kernel
theorem dX7_orderAhead_75 : decode cX7_orderAhead 75 = .ok (.aload_n 0, 1) := by decide +kernel
theorem dX7_orderAhead_76 : decode cX7_orderAhead 76 = .ok (.getfield 34, 3) := by decide +kernel
theorem dX7_orderAhead_79 : decode cX7_orderAhead 79 = .ok (.aload_n 0, 1) := by decide +kernel
theorem dX7_orderAhead_80 : decode cX7_orderAhead 80 = .ok (.getfield 53, 3) := by decide +kernel
theorem dX7_orderAhead_83 : decode cX7_orderAhead 83 = .ok (.iload 4, 2) := by decide +kernel
theorem dX7_orderAhead_85 : decode cX7_orderAhead 85 = .ok (.iload_n 3, 1) := by decide +kernel
theorem dX7_orderAhead_86 : decode cX7_orderAhead 86 = .ok (.iload 5, 2) := by decide +kernel
theorem dX7_orderAhead_88 : decode cX7_orderAhead 88 = .ok (.invokevirtual 310, 3) := by decide +kernel
theorem dX7_orderAhead_91 : decode cX7_orderAhead 91 = .ok (.ireturn, 1) := by decide +kernel
theorem dX7_buyWith_0 : decode cX7_buyWith 0 = .ok (.aload_n 0, 1) := by decide +kernel
theorem dX7_buyWith_1 : decode cX7_buyWith 1 = .ok (.getfield 60, 3) := by decide +kernel
theorem dX7_buyWith_4 : decode cX7_buyWith 4 = .ok (.ifCond .eq 5, 3) := by decide +kernel
theorem dX7_buyWith_7 : decode cX7_buyWith 7 = .ok (.iconst 0, 1) := by decide +kernel
theorem dX7_buyWith_8 : decode cX7_buyWith 8 = .ok (.ireturn, 1) := by decide +kernel
theorem dX7_buyWith_9 : decode cX7_buyWith 9 = .ok (.iload_n 1, 1) := by decide +kernel
theorem dX7_buyWith_10 : decode cX7_buyWith 10 = .ok (.ifCond .ge 10, 3) := by decide +kernel
theorem dX7_buyWith_13 : decode cX7_buyWith 13 = .ok (.aload_n 0, 1) := by decide +kernel
theorem dX7_buyWith_14 : decode cX7_buyWith 14 = .ok (.bipush 6, 2) := by decide +kernel
theorem dX7_buyWith_16 : decode cX7_buyWith 16 = .ok (.invokevirtual 136, 3) := by decide +kernel
theorem dX7_buyWith_19 : decode cX7_buyWith 19 = .ok (.ireturn, 1) := by decide +kernel
theorem dX7_buyWith_20 : decode cX7_buyWith 20 = .ok (.aload_n 0, 1) := by decide +kernel
theorem dX7_buyWith_21 : decode cX7_buyWith 21 = .ok (.getfield 26, 3) := by decide +kernel
theorem dX7_buyWith_24 : decode cX7_buyWith 24 = .ok (.aload_n 0, 1) := by decide +kernel
theorem dX7_buyWith_25 : decode cX7_buyWith 25 = .ok (.getfield 53, 3) := by decide +kernel
theorem dX7_buyWith_28 : decode cX7_buyWith 28 = .ok (.iload_n 1, 1) := by decide +kernel
theorem dX7_buyWith_29 : decode cX7_buyWith 29 = .ok (.aload_n 0, 1) := by decide +kernel
theorem dX7_buyWith_30 : decode cX7_buyWith 30 = .ok (.getfield 26, 3) := by decide +kernel
theorem dX7_buyWith_33 : decode cX7_buyWith 33 = .ok (.aload_n 0, 1) := by decide +kernel
theorem dX7_buyWith_34 : decode cX7_buyWith 34 = .ok (.getfield 53, 3) := by decide +kernel
theorem dX7_buyWith_37 : decode cX7_buyWith 37 = .ok (.invokevirtual 313, 3) := by decide +kernel
theorem dX7_buyWith_40 : decode cX7_buyWith 40 = .ok (.invokestatic 252, 3) := by decide +kernel
theorem dX7_buyWith_43 : decode cX7_buyWith 43 = .ok (.invokevirtual 316, 3) := by decide +kernel
theorem dX7_buyWith_46 : decode cX7_buyWith 46 = .ok (.ireturn, 1) := by decide +kernel
theorem dX11_init_0 : decode cX11_init 0 = .ok (.aload_n 0, 1) := by decide +kernel
theorem dX11_init_1 : decode cX11_init 1 = .ok (.invokespecial 1, 3) := by decide +kernel
theorem dX11_init_4 : decode cX11_init 4 = .ok (.aload_n 0, 1) := by decide +kernel
theorem dX11_init_5 : decode cX11_init 5 = .ok (.new 7, 3) := by decide +kernel
theorem dX11_init_8 : decode cX11_init 8 = .ok (.dup, 1) := by decide +kernel
theorem dX11_init_9 : decode cX11_init 9 = .ok (.invokespecial 9, 3) := by decide +kernel
theorem dX11_init_12 : decode cX11_init 12 = .ok (.putfield 10, 3) := by decide +kernel
theorem dX11_init_15 : decode cX11_init 15 = .ok (.aload_n 0, 1) := by decide +kernel
theorem dX11_init_16 : decode cX11_init 16 = .ok (.new 16, 3) := by decide +kernel
theorem dX11_init_19 : decode cX11_init 19 = .ok (.dup, 1) := by decide +kernel
theorem dX11_init_20 : decode cX11_init 20 = .ok (.aload_n 0, 1) := by decide +kernel
theorem dX11_init_21 : decode cX11_init 21 = .ok (.getfield 10, 3) := by decide +kernel
theorem dX11_init_24 : decode cX11_init 24 = .ok (.invokespecial 18, 3) := by decide +kernel
theorem dX11_init_27 : decode cX11_init 27 = .ok (.putfield 21, 3) := by decide +kernel
theorem dX11_init_30 : decode cX11_init 30 = .ok (.aload_n 0, 1) := by decide +kernel
theorem dX11_init_31 : decode cX11_init 31 = .ok (.new 25, 3) := by decide +kernel
theorem dX11_init_34 : decode cX11_init 34 = .ok (.dup, 1) := by decide +kernel
theorem dX11_init_35 : decode cX11_init 35 = .ok (.invokespecial 27, 3) := by decide +kernel
theorem dX11_init_38 : decode cX11_init 38 = .ok (.putfield 28, 3) := by decide +kernel
theorem dX11_init_41 : decode cX11_init 41 = .ok (.aload_n 0, 1) := by decide +kernel
theorem dX11_init_42 : decode cX11_init 42 = .ok (.new 32, 3) := by decide +kernel
theorem dX11_init_45 : decode cX11_init 45 = .ok (.dup, 1) := by decide +kernel
theorem dX11_init_46 : decode cX11_init 46 = .ok (.invokespecial 34, 3) := by decide +kernel
theorem dX11_init_49 : decode cX11_init 49 = .ok (.putfield 35, 3) := by decide +kernel
theorem dX11_init_52 : decode cX11_init 52 = .ok (.aload_n 0, 1) := by decide +kernel
theorem dX11_init_53 : decode cX11_init 53 = .ok (.new 39, 3) := by decide +kernel
theorem dX11_init_56 : decode cX11_init 56 = .ok (.dup, 1) := by decide +kernel
theorem dX11_init_57 : decode cX11_init 57 = .ok (.invokespecial 41, 3) := by decide +kernel
theorem dX11_init_60 : decode cX11_init 60 = .ok (.putfield 42, 3) := by decide +kernel
theorem dX11_init_63 : decode cX11_init 63 = .ok (.aload_n 0, 1) := by decide +kernel
theorem dX11_init_64 : decode cX11_init 64 = .ok (.new 46, 3) := by decide +kernel
theorem dX11_init_67 : decode cX11_init 67 = .ok (.dup, 1) := by decide +kernel
theorem dX11_init_68 : decode cX11_init 68 = .ok (.aload_n 0, 1) := by decide +kernel
theorem dX11_init_69 : decode cX11_init 69 = .ok (.getfield 10, 3) := by decide +kernel
theorem dX11_init_72 : decode cX11_init 72 = .ok (.aload_n 0, 1) := by decide +kernel
theorem dX11_init_73 : decode cX11_init 73 = .ok (.getfield 21, 3) := by decide +kernel
theorem dX11_init_76 : decode cX11_init 76 = .ok (.aload_n 0, 1) := by decide +kernel
theorem dX11_init_77 : decode cX11_init 77 = .ok (.getfield 28, 3) := by decide +kernel
theorem dX11_init_80 : decode cX11_init 80 = .ok (.aload_n 0, 1) := by decide +kernel
theorem dX11_init_81 : decode cX11_init 81 = .ok (.getfield 35, 3) := by decide +kernel
theorem dX11_init_84 : decode cX11_init 84 = .ok (.aload_n 0, 1) := by decide +kernel
theorem dX11_init_85 : decode cX11_init 85 = .ok (.getfield 42, 3) := by decide +kernel
theorem dX11_init_88 : decode cX11_init 88 = .ok (.invokespecial 48, 3) := by decide +kernel
theorem dX11_init_91 : decode cX11_init 91 = .ok (.putfield 51, 3) := by decide +kernel
theorem dX11_init_94 : decode cX11_init 94 = .ok (.return_, 1) := by decide +kernel
theorem dX11_type_0 : decode cX11_type 0 = .ok (.iload_n 1, 1) := by decide +kernel
theorem dX11_type_1 : decode cX11_type 1 = .ok (.invokestatic 55, 3) := by decide +kernel
theorem dX11_type_4 : decode cX11_type 4 = .ok (.iload_n 2, 1) := by decide +kernel
theorem dX11_type_5 : decode cX11_type 5 = .ok (.invokestatic 59, 3) := by decide +kernel
theorem dX11_type_8 : decode cX11_type 8 = .ok (.invokestatic 65, 3) := by decide +kernel
theorem dX11_type_11 : decode cX11_type 11 = .ok (.aload_n 0, 1) := by decide +kernel
theorem dX11_type_12 : decode cX11_type 12 = .ok (.getfield 21, 3) := by decide +kernel
theorem dX11_type_15 : decode cX11_type 15 = .ok (.iload_n 1, 1) := by decide +kernel
theorem dX11_type_16 : decode cX11_type 16 = .ok (.invokevirtual 69, 3) := by decide +kernel
theorem dX11_type_19 : decode cX11_type 19 = .ok (.bipush 120, 2) := by decide +kernel
theorem dX11_type_21 : decode cX11_type 21 = .ok (.if_icmp .ge 7, 3) := by decide +kernel
theorem dX11_type_24 : decode cX11_type 24 = .ok (.iconst 1, 1) := by decide +kernel
theorem dX11_type_25 : decode cX11_type 25 = .ok (.goto 4, 3) := by decide +kernel
theorem dX11_type_28 : decode cX11_type 28 = .ok (.iconst 0, 1) := by decide +kernel
theorem dX11_type_29 : decode cX11_type 29 = .ok (.invokestatic 73, 3) := by decide +kernel
theorem dX11_type_32 : decode cX11_type 32 = .ok (.aload_n 0, 1) := by decide +kernel
theorem dX11_type_33 : decode cX11_type 33 = .ok (.getfield 21, 3) := by decide +kernel
theorem dX11_type_36 : decode cX11_type 36 = .ok (.iload_n 1, 1) := by decide +kernel
theorem dX11_type_37 : decode cX11_type 37 = .ok (.iload_n 2, 1) := by decide +kernel
theorem dX11_type_38 : decode cX11_type 38 = .ok (.invokevirtual 76, 3) := by decide +kernel
theorem dX11_type_41 : decode cX11_type 41 = .ok (.ireturn, 1) := by decide +kernel
theorem dX11_erase_0 : decode cX11_erase 0 = .ok (.iload_n 1, 1) := by decide +kernel
theorem dX11_erase_1 : decode cX11_erase 1 = .ok (.invokestatic 55, 3) := by decide +kernel
theorem dX11_erase_4 : decode cX11_erase 4 = .ok (.iload_n 2, 1) := by decide +kernel
theorem dX11_erase_5 : decode cX11_erase 5 = .ok (.iconst 1, 1) := by decide +kernel
theorem dX11_erase_6 : decode cX11_erase 6 = .ok (.if_icmp .lt 7, 3) := by decide +kernel
theorem dX11_erase_9 : decode cX11_erase 9 = .ok (.iconst 1, 1) := by decide +kernel
theorem dX11_erase_10 : decode cX11_erase 10 = .ok (.goto 4, 3) := by decide +kernel
theorem dX11_erase_13 : decode cX11_erase 13 = .ok (.iconst 0, 1) := by decide +kernel
theorem dX11_erase_14 : decode cX11_erase 14 = .ok (.invokestatic 65, 3) := by decide +kernel
theorem dX11_erase_17 : decode cX11_erase 17 = .ok (.aload_n 0, 1) := by decide +kernel
theorem dX11_erase_18 : decode cX11_erase 18 = .ok (.getfield 21, 3) := by decide +kernel
theorem dX11_erase_21 : decode cX11_erase 21 = .ok (.iload_n 1, 1) := by decide +kernel
theorem dX11_erase_22 : decode cX11_erase 22 = .ok (.iload_n 2, 1) := by decide +kernel
theorem dX11_erase_23 : decode cX11_erase 23 = .ok (.invokevirtual 80, 3) := by decide +kernel
theorem dX11_erase_26 : decode cX11_erase 26 = .ok (.ireturn, 1) := by decide +kernel
theorem dX11_length_0 : decode cX11_length 0 = .ok (.iload_n 1, 1) := by decide +kernel
theorem dX11_length_1 : decode cX11_length 1 = .ok (.invokestatic 55, 3) := by decide +kernel
theorem dX11_length_4 : decode cX11_length 4 = .ok (.aload_n 0, 1) := by decide +kernel
theorem dX11_length_5 : decode cX11_length 5 = .ok (.getfield 21, 3) := by decide +kernel
theorem dX11_length_8 : decode cX11_length 8 = .ok (.iload_n 1, 1) := by decide +kernel
theorem dX11_length_9 : decode cX11_length 9 = .ok (.invokevirtual 69, 3) := by decide +kernel
theorem dX11_length_12 : decode cX11_length 12 = .ok (.ireturn, 1) := by decide +kernel
theorem dX11_fault_0 : decode cX11_fault 0 = .ok (.iload_n 1, 1) := by decide +kernel
theorem dX11_fault_1 : decode cX11_fault 1 = .ok (.invokestatic 55, 3) := by decide +kernel
theorem dX11_fault_4 : decode cX11_fault 4 = .ok (.aload_n 0, 1) := by decide +kernel
theorem dX11_fault_5 : decode cX11_fault 5 = .ok (.getfield 21, 3) := by decide +kernel
theorem dX11_fault_8 : decode cX11_fault 8 = .ok (.invokevirtual 90, 3) := by decide +kernel
theorem dX11_fault_11 : decode cX11_fault 11 = .ok (.aload_n 0, 1) := by decide +kernel
theorem dX11_fault_12 : decode cX11_fault 12 = .ok (.getfield 21, 3) := by decide +kernel
theorem dX11_fault_15 : decode cX11_fault 15 = .ok (.iload_n 1, 1) := by decide +kernel
theorem dX11_fault_16 : decode cX11_fault 16 = .ok (.invokevirtual 93, 3) := by decide +kernel
theorem dX11_fault_19 : decode cX11_fault 19 = .ok (.ireturn, 1) := by decide +kernel
theorem dX11_expressions_0 : decode cX11_expressions 0 = .ok (.iload_n 1, 1) := by decide +kernel
theorem dX11_expressions_1 : decode cX11_expressions 1 = .ok (.invokestatic 55, 3) := by decide +kernel
theorem dX11_expressions_4 : decode cX11_expressions 4 = .ok (.aload_n 0, 1) := by decide +kernel
theorem dX11_expressions_5 : decode cX11_expressions 5 = .ok (.getfield 21, 3) := by decide +kernel
theorem dX11_expressions_8 : decode cX11_expressions 8 = .ok (.invokevirtual 90, 3) := by decide +kernel
theorem dX11_expressions_11 : decode cX11_expressions 11 = .ok (.aload_n 0, 1) := by decide +kernel
theorem dX11_expressions_12 : decode cX11_expressions 12 = .ok (.getfield 21, 3) := by decide +kernel
theorem dX11_expressions_15 : decode cX11_expressions 15 = .ok (.iload_n 1, 1) := by decide +kernel
theorem dX11_expressions_16 : decode cX11_expressions 16 = .ok (.invokevirtual 93, 3) := by decide +kernel
theorem dX11_expressions_19 : decode cX11_expressions 19 = .ok (.iconst (-1), 1) := by decide +kernel
theorem dX11_expressions_20 : decode cX11_expressions 20 = .ok (.if_icmp .ne 7, 3) := by decide +kernel
theorem dX11_expressions_23 : decode cX11_expressions 23 = .ok (.iconst 1, 1) := by decide +kernel
theorem dX11_expressions_24 : decode cX11_expressions 24 = .ok (.goto 4, 3) := by decide +kernel
theorem dX11_expressions_27 : decode cX11_expressions 27 = .ok (.iconst 0, 1) := by decide +kernel
theorem dX11_expressions_28 : decode cX11_expressions 28 = .ok (.invokestatic 73, 3) := by decide +kernel
theorem dX11_expressions_31 : decode cX11_expressions 31 = .ok (.aload_n 0, 1) := by decide +kernel
theorem dX11_expressions_32 : decode cX11_expressions 32 = .ok (.getfield 10, 3) := by decide +kernel
theorem dX11_expressions_35 : decode cX11_expressions 35 = .ok (.iload_n 1, 1) := by decide +kernel
theorem dX11_expressions_36 : decode cX11_expressions 36 = .ok (.invokestatic 96, 3) := by decide +kernel
theorem dX11_expressions_39 : decode cX11_expressions 39 = .ok (.invokevirtual 99, 3) := by decide +kernel
theorem dX11_expressions_42 : decode cX11_expressions 42 = .ok (.ireturn, 1) := by decide +kernel
theorem dX11_supply_0 : decode cX11_supply 0 = .ok (.iload_n 1, 1) := by decide +kernel
theorem dX11_supply_1 : decode cX11_supply 1 = .ok (.invokestatic 102, 3) := by decide +kernel
theorem dX11_supply_4 : decode cX11_supply 4 = .ok (.iload_n 2, 1) := by decide +kernel
theorem dX11_supply_5 : decode cX11_supply 5 = .ok (.iconst 1, 1) := by decide +kernel
theorem dX11_supply_6 : decode cX11_supply 6 = .ok (.sipush 1000, 3) := by decide +kernel
theorem dX11_supply_9 : decode cX11_supply 9 = .ok (.invokestatic 105, 3) := by decide +kernel
theorem dX11_supply_12 : decode cX11_supply 12 = .ok (.invokestatic 65, 3) := by decide +kernel
theorem dX11_supply_15 : decode cX11_supply 15 = .ok (.aload_n 0, 1) := by decide +kernel
theorem dX11_supply_16 : decode cX11_supply 16 = .ok (.getfield 35, 3) := by decide +kernel
theorem dX11_supply_19 : decode cX11_supply 19 = .ok (.iload_n 1, 1) := by decide +kernel
theorem dX11_supply_20 : decode cX11_supply 20 = .ok (.iload_n 2, 1) := by decide +kernel
theorem dX11_supply_21 : decode cX11_supply 21 = .ok (.invokevirtual 109, 3) := by decide +kernel
theorem dX11_supply_24 : decode cX11_supply 24 = .ok (.ireturn, 1) := by decide +kernel
theorem dX11_giveRations_0 : decode cX11_giveRations 0 = .ok (.iload_n 1, 1) := by decide +kernel
theorem dX11_giveRations_1 : decode cX11_giveRations 1 = .ok (.invokestatic 112, 3) := by decide +kernel
theorem dX11_giveRations_4 : decode cX11_giveRations 4 = .ok (.iload_n 2, 1) := by decide +kernel
theorem dX11_giveRations_5 : decode cX11_giveRations 5 = .ok (.iconst 1, 1) := by decide +kernel
theorem dX11_giveRations_6 : decode cX11_giveRations 6 = .ok (.sipush 1000, 3) := by decide +kernel
theorem dX11_giveRations_9 : decode cX11_giveRations 9 = .ok (.invokestatic 105, 3) := by decide +kernel
theorem dX11_giveRations_12 : decode cX11_giveRations 12 = .ok (.invokestatic 65, 3) := by decide +kernel
theorem dX11_giveRations_15 : decode cX11_giveRations 15 = .ok (.aload_n 0, 1) := by decide +kernel
theorem dX11_giveRations_16 : decode cX11_giveRations 16 = .ok (.getfield 28, 3) := by decide +kernel
theorem dX11_giveRations_19 : decode cX11_giveRations 19 = .ok (.iload_n 1, 1) := by decide +kernel
theorem dX11_giveRations_20 : decode cX11_giveRations 20 = .ok (.iload_n 2, 1) := by decide +kernel
theorem dX11_giveRations_21 : decode cX11_giveRations 21 = .ok (.invokevirtual 115, 3) := by decide +kernel
theorem dX11_giveRations_24 : decode cX11_giveRations 24 = .ok (.ireturn, 1) := by decide +kernel
theorem dX11_setTariff_0 : decode cX11_setTariff 0 = .ok (.iload_n 1, 1) := by decide +kernel
theorem dX11_setTariff_1 : decode cX11_setTariff 1 = .ok (.iconst 0, 1) := by decide +kernel
theorem dX11_setTariff_2 : decode cX11_setTariff 2 = .ok (.bipush 100, 2) := by decide +kernel
theorem dX11_setTariff_4 : decode cX11_setTariff 4 = .ok (.invokestatic 105, 3) := by decide +kernel
theorem dX11_setTariff_7 : decode cX11_setTariff 7 = .ok (.invokestatic 65, 3) := by decide +kernel
theorem dX11_setTariff_10 : decode cX11_setTariff 10 = .ok (.aload_n 0, 1) := by decide +kernel
theorem dX11_setTariff_11 : decode cX11_setTariff 11 = .ok (.getfield 28, 3) := by decide +kernel
theorem dX11_setTariff_14 : decode cX11_setTariff 14 = .ok (.iload_n 1, 1) := by decide +kernel
theorem dX11_setTariff_15 : decode cX11_setTariff 15 = .ok (.invokevirtual 118, 3) := by decide +kernel
theorem dX11_setTariff_18 : decode cX11_setTariff 18 = .ok (.ireturn, 1) := by decide +kernel
theorem dX11_buy_0 : decode cX11_buy 0 = .ok (.iload_n 1, 1) := by decide +kernel
theorem dX11_buy_1 : decode cX11_buy 1 = .ok (.invokestatic 112, 3) := by decide +kernel
theorem dX11_buy_4 : decode cX11_buy 4 = .ok (.iload_n 2, 1) := by decide +kernel
theorem dX11_buy_5 : decode cX11_buy 5 = .ok (.iconst 1, 1) := by decide +kernel
theorem dX11_buy_6 : decode cX11_buy 6 = .ok (.if_icmp .lt 7, 3) := by decide +kernel
theorem dX11_buy_9 : decode cX11_buy 9 = .ok (.iconst 1, 1) := by decide +kernel
theorem dX11_buy_10 : decode cX11_buy 10 = .ok (.goto 4, 3) := by decide +kernel
theorem dX11_buy_13 : decode cX11_buy 13 = .ok (.iconst 0, 1) := by decide +kernel
theorem dX11_buy_14 : decode cX11_buy 14 = .ok (.invokestatic 65, 3) := by decide +kernel
theorem dX11_buy_17 : decode cX11_buy 17 = .ok (.aload_n 0, 1) := by decide +kernel
theorem dX11_buy_18 : decode cX11_buy 18 = .ok (.getfield 28, 3) := by decide +kernel
theorem dX11_buy_21 : decode cX11_buy 21 = .ok (.iload_n 1, 1) := by decide +kernel
theorem dX11_buy_22 : decode cX11_buy 22 = .ok (.invokevirtual 121, 3) := by decide +kernel
theorem dX11_buy_25 : decode cX11_buy 25 = .ok (.iload_n 2, 1) := by decide +kernel
theorem dX11_buy_26 : decode cX11_buy 26 = .ok (.if_icmp .lt 7, 3) := by decide +kernel
theorem dX11_buy_29 : decode cX11_buy 29 = .ok (.iconst 1, 1) := by decide +kernel
theorem dX11_buy_30 : decode cX11_buy 30 = .ok (.goto 4, 3) := by decide +kernel
theorem dX11_buy_33 : decode cX11_buy 33 = .ok (.iconst 0, 1) := by decide +kernel
theorem dX11_buy_34 : decode cX11_buy 34 = .ok (.invokestatic 73, 3) := by decide +kernel
theorem dX11_buy_37 : decode cX11_buy 37 = .ok (.aload_n 0, 1) := by decide +kernel
theorem dX11_buy_38 : decode cX11_buy 38 = .ok (.getfield 28, 3) := by decide +kernel
theorem dX11_buy_41 : decode cX11_buy 41 = .ok (.iload_n 1, 1) := by decide +kernel
theorem dX11_buy_42 : decode cX11_buy 42 = .ok (.iload_n 2, 1) := by decide +kernel
theorem dX11_buy_43 : decode cX11_buy 43 = .ok (.invokevirtual 124, 3) := by decide +kernel
theorem dX11_buy_46 : decode cX11_buy 46 = .ok (.ireturn, 1) := by decide +kernel
theorem dX11_setBuying_0 : decode cX11_setBuying 0 = .ok (.iload_n 1, 1) := by decide +kernel
theorem dX11_setBuying_1 : decode cX11_setBuying 1 = .ok (.invokestatic 112, 3) := by decide +kernel
theorem dX11_setBuying_4 : decode cX11_setBuying 4 = .ok (.aload_n 0, 1) := by decide +kernel
theorem dX11_setBuying_5 : decode cX11_setBuying 5 = .ok (.getfield 28, 3) := by decide +kernel
theorem dX11_setBuying_8 : decode cX11_setBuying 8 = .ok (.iload_n 1, 1) := by decide +kernel
theorem dX11_setBuying_9 : decode cX11_setBuying 9 = .ok (.iload_n 2, 1) := by decide +kernel
theorem dX11_setBuying_10 : decode cX11_setBuying 10 = .ok (.invokevirtual 127, 3) := by decide +kernel
theorem dX11_setBuying_13 : decode cX11_setBuying 13 = .ok (.ireturn, 1) := by decide +kernel
theorem dX11_setCredit_0 : decode cX11_setCredit 0 = .ok (.iload_n 1, 1) := by decide +kernel
theorem dX11_setCredit_1 : decode cX11_setCredit 1 = .ok (.invokestatic 112, 3) := by decide +kernel
theorem dX11_setCredit_4 : decode cX11_setCredit 4 = .ok (.iload_n 2, 1) := by decide +kernel
theorem dX11_setCredit_5 : decode cX11_setCredit 5 = .ok (.invokestatic 112, 3) := by decide +kernel
theorem dX11_setCredit_8 : decode cX11_setCredit 8 = .ok (.iload_n 1, 1) := by decide +kernel
theorem dX11_setCredit_9 : decode cX11_setCredit 9 = .ok (.iload_n 2, 1) := by decide +kernel
theorem dX11_setCredit_10 : decode cX11_setCredit 10 = .ok (.if_icmp .eq 18, 3) := by decide +kernel
theorem dX11_setCredit_13 : decode cX11_setCredit 13 = .ok (.iload_n 3, 1) := by decide +kernel
theorem dX11_setCredit_14 : decode cX11_setCredit 14 = .ok (.iconst 0, 1) := by decide +kernel
theorem dX11_setCredit_15 : decode cX11_setCredit 15 = .ok (.sipush 1000, 3) := by decide +kernel
theorem dX11_setCredit_18 : decode cX11_setCredit 18 = .ok (.invokestatic 105, 3) := by decide +kernel
theorem dX11_setCredit_21 : decode cX11_setCredit 21 = .ok (.ifCond .eq 7, 3) := by decide +kernel
theorem dX11_setCredit_24 : decode cX11_setCredit 24 = .ok (.iconst 1, 1) := by decide +kernel
theorem dX11_setCredit_25 : decode cX11_setCredit 25 = .ok (.goto 4, 3) := by decide +kernel
theorem dX11_setCredit_28 : decode cX11_setCredit 28 = .ok (.iconst 0, 1) := by decide +kernel
theorem dX11_setCredit_29 : decode cX11_setCredit 29 = .ok (.invokestatic 65, 3) := by decide +kernel
theorem dX11_setCredit_32 : decode cX11_setCredit 32 = .ok (.aload_n 0, 1) := by decide +kernel
theorem dX11_setCredit_33 : decode cX11_setCredit 33 = .ok (.getfield 28, 3) := by decide +kernel
theorem dX11_setCredit_36 : decode cX11_setCredit 36 = .ok (.iload_n 1, 1) := by decide +kernel
theorem dX11_setCredit_37 : decode cX11_setCredit 37 = .ok (.iload_n 2, 1) := by decide +kernel
theorem dX11_setCredit_38 : decode cX11_setCredit 38 = .ok (.iload_n 3, 1) := by decide +kernel
theorem dX11_setCredit_39 : decode cX11_setCredit 39 = .ok (.invokevirtual 131, 3) := by decide +kernel
theorem dX11_setCredit_42 : decode cX11_setCredit 42 = .ok (.ireturn, 1) := by decide +kernel
theorem dX11_payBack_0 : decode cX11_payBack 0 = .ok (.iload_n 1, 1) := by decide +kernel
theorem dX11_payBack_1 : decode cX11_payBack 1 = .ok (.invokestatic 112, 3) := by decide +kernel
theorem dX11_payBack_4 : decode cX11_payBack 4 = .ok (.iload_n 2, 1) := by decide +kernel
theorem dX11_payBack_5 : decode cX11_payBack 5 = .ok (.invokestatic 112, 3) := by decide +kernel
theorem dX11_payBack_8 : decode cX11_payBack 8 = .ok (.iload_n 3, 1) := by decide +kernel
theorem dX11_payBack_9 : decode cX11_payBack 9 = .ok (.iconst 1, 1) := by decide +kernel
theorem dX11_payBack_10 : decode cX11_payBack 10 = .ok (.if_icmp .lt 7, 3) := by decide +kernel
theorem dX11_payBack_13 : decode cX11_payBack 13 = .ok (.iconst 1, 1) := by decide +kernel
theorem dX11_payBack_14 : decode cX11_payBack 14 = .ok (.goto 4, 3) := by decide +kernel
theorem dX11_payBack_17 : decode cX11_payBack 17 = .ok (.iconst 0, 1) := by decide +kernel
theorem dX11_payBack_18 : decode cX11_payBack 18 = .ok (.invokestatic 65, 3) := by decide +kernel
theorem dX11_payBack_21 : decode cX11_payBack 21 = .ok (.aload_n 0, 1) := by decide +kernel
theorem dX11_payBack_22 : decode cX11_payBack 22 = .ok (.getfield 28, 3) := by decide +kernel
theorem dX11_payBack_25 : decode cX11_payBack 25 = .ok (.iload_n 1, 1) := by decide +kernel
theorem dX11_payBack_26 : decode cX11_payBack 26 = .ok (.iload_n 2, 1) := by decide +kernel
theorem dX11_payBack_27 : decode cX11_payBack 27 = .ok (.invokevirtual 135, 3) := by decide +kernel
theorem dX11_payBack_30 : decode cX11_payBack 30 = .ok (.iload_n 3, 1) := by decide +kernel
theorem dX11_payBack_31 : decode cX11_payBack 31 = .ok (.if_icmp .lt 19, 3) := by decide +kernel
theorem dX11_payBack_34 : decode cX11_payBack 34 = .ok (.aload_n 0, 1) := by decide +kernel
theorem dX11_payBack_35 : decode cX11_payBack 35 = .ok (.getfield 28, 3) := by decide +kernel
theorem dX11_payBack_38 : decode cX11_payBack 38 = .ok (.iload_n 1, 1) := by decide +kernel
theorem dX11_payBack_39 : decode cX11_payBack 39 = .ok (.invokevirtual 138, 3) := by decide +kernel
theorem dX11_payBack_42 : decode cX11_payBack 42 = .ok (.iload_n 3, 1) := by decide +kernel
theorem dX11_payBack_43 : decode cX11_payBack 43 = .ok (.if_icmp .lt 7, 3) := by decide +kernel
theorem dX11_payBack_46 : decode cX11_payBack 46 = .ok (.iconst 1, 1) := by decide +kernel
theorem dX11_payBack_47 : decode cX11_payBack 47 = .ok (.goto 4, 3) := by decide +kernel
theorem dX11_payBack_50 : decode cX11_payBack 50 = .ok (.iconst 0, 1) := by decide +kernel
theorem dX11_payBack_51 : decode cX11_payBack 51 = .ok (.invokestatic 73, 3) := by decide +kernel
theorem dX11_payBack_54 : decode cX11_payBack 54 = .ok (.aload_n 0, 1) := by decide +kernel
theorem dX11_payBack_55 : decode cX11_payBack 55 = .ok (.getfield 28, 3) := by decide +kernel
theorem dX11_payBack_58 : decode cX11_payBack 58 = .ok (.iload_n 1, 1) := by decide +kernel
theorem dX11_payBack_59 : decode cX11_payBack 59 = .ok (.iload_n 2, 1) := by decide +kernel
theorem dX11_payBack_60 : decode cX11_payBack 60 = .ok (.iload_n 3, 1) := by decide +kernel
theorem dX11_payBack_61 : decode cX11_payBack 61 = .ok (.invokevirtual 141, 3) := by decide +kernel
theorem dX11_payBack_64 : decode cX11_payBack 64 = .ok (.ireturn, 1) := by decide +kernel
theorem dX11_stock_0 : decode cX11_stock 0 = .ok (.iload_n 1, 1) := by decide +kernel
theorem dX11_stock_1 : decode cX11_stock 1 = .ok (.invokestatic 144, 3) := by decide +kernel
theorem dX11_stock_4 : decode cX11_stock 4 = .ok (.iload_n 2, 1) := by decide +kernel
theorem dX11_stock_5 : decode cX11_stock 5 = .ok (.invokestatic 102, 3) := by decide +kernel
theorem dX11_stock_8 : decode cX11_stock 8 = .ok (.aload_n 0, 1) := by decide +kernel
theorem dX11_stock_9 : decode cX11_stock 9 = .ok (.getfield 35, 3) := by decide +kernel
theorem dX11_stock_12 : decode cX11_stock 12 = .ok (.iload_n 1, 1) := by decide +kernel
theorem dX11_stock_13 : decode cX11_stock 13 = .ok (.iload_n 2, 1) := by decide +kernel
theorem dX11_stock_14 : decode cX11_stock 14 = .ok (.invokevirtual 147, 3) := by decide +kernel
theorem dX11_stock_17 : decode cX11_stock 17 = .ok (.ireturn, 1) := by decide +kernel
theorem dX11_stockByMoves_0 : decode cX11_stockByMoves 0 = .ok (.iload_n 1, 1) := by decide +kernel
theorem dX11_stockByMoves_1 : decode cX11_stockByMoves 1 = .ok (.invokestatic 144, 3) := by decide +kernel
theorem dX11_stockByMoves_4 : decode cX11_stockByMoves 4 = .ok (.iload_n 2, 1) := by decide +kernel
theorem dX11_stockByMoves_5 : decode cX11_stockByMoves 5 = .ok (.invokestatic 102, 3) := by decide +kernel
theorem dX11_stockByMoves_8 : decode cX11_stockByMoves 8 = .ok (.aload_n 0, 1) := by decide +kernel
theorem dX11_stockByMoves_9 : decode cX11_stockByMoves 9 = .ok (.getfield 35, 3) := by decide +kernel
theorem dX11_stockByMoves_12 : decode cX11_stockByMoves 12 = .ok (.iload_n 1, 1) := by decide +kernel
theorem dX11_stockByMoves_13 : decode cX11_stockByMoves 13 = .ok (.iload_n 2, 1) := by decide +kernel
theorem dX11_stockByMoves_14 : decode cX11_stockByMoves 14 = .ok (.invokevirtual 150, 3) := by decide +kernel
theorem dX11_stockByMoves_17 : decode cX11_stockByMoves 17 = .ok (.ireturn, 1) := by decide +kernel
theorem dX11_fuel_0 : decode cX11_fuel 0 = .ok (.iload_n 1, 1) := by decide +kernel
theorem dX11_fuel_1 : decode cX11_fuel 1 = .ok (.invokestatic 112, 3) := by decide +kernel
theorem dX11_fuel_4 : decode cX11_fuel 4 = .ok (.aload_n 0, 1) := by decide +kernel
theorem dX11_fuel_5 : decode cX11_fuel 5 = .ok (.getfield 28, 3) := by decide +kernel
theorem dX11_fuel_8 : decode cX11_fuel 8 = .ok (.iload_n 1, 1) := by decide +kernel
theorem dX11_fuel_9 : decode cX11_fuel 9 = .ok (.invokevirtual 138, 3) := by decide +kernel
theorem dX11_fuel_12 : decode cX11_fuel 12 = .ok (.ireturn, 1) := by decide +kernel
theorem dX11_rations_0 : decode cX11_rations 0 = .ok (.iload_n 1, 1) := by decide +kernel
theorem dX11_rations_1 : decode cX11_rations 1 = .ok (.invokestatic 112, 3) := by decide +kernel
theorem dX11_rations_4 : decode cX11_rations 4 = .ok (.aload_n 0, 1) := by decide +kernel
theorem dX11_rations_5 : decode cX11_rations 5 = .ok (.getfield 28, 3) := by decide +kernel
theorem dX11_rations_8 : decode cX11_rations 8 = .ok (.iload_n 1, 1) := by decide +kernel
theorem dX11_rations_9 : decode cX11_rations 9 = .ok (.invokevirtual 121, 3) := by decide +kernel
theorem dX11_rations_12 : decode cX11_rations 12 = .ok (.ireturn, 1) := by decide +kernel
theorem dX11_debt_0 : decode cX11_debt 0 = .ok (.iload_n 1, 1) := by decide +kernel
theorem dX11_debt_1 : decode cX11_debt 1 = .ok (.invokestatic 112, 3) := by decide +kernel
theorem dX11_debt_4 : decode cX11_debt 4 = .ok (.iload_n 2, 1) := by decide +kernel
theorem dX11_debt_5 : decode cX11_debt 5 = .ok (.invokestatic 112, 3) := by decide +kernel
theorem dX11_debt_8 : decode cX11_debt 8 = .ok (.aload_n 0, 1) := by decide +kernel
theorem dX11_debt_9 : decode cX11_debt 9 = .ok (.getfield 28, 3) := by decide +kernel
theorem dX11_debt_12 : decode cX11_debt 12 = .ok (.iload_n 1, 1) := by decide +kernel
theorem dX11_debt_13 : decode cX11_debt 13 = .ok (.iload_n 2, 1) := by decide +kernel
theorem dX11_debt_14 : decode cX11_debt 14 = .ok (.invokevirtual 135, 3) := by decide +kernel
theorem dX11_debt_17 : decode cX11_debt 17 = .ok (.ireturn, 1) := by decide +kernel
theorem dX11_order_0 : decode cX11_order 0 = .ok (.iload_n 1, 1) := by decide +kernel
theorem dX11_order_1 : decode cX11_order 1 = .ok (.invokestatic 112, 3) := by decide +kernel
theorem dX11_order_4 : decode cX11_order 4 = .ok (.iload_n 2, 1) := by decide +kernel
theorem dX11_order_5 : decode cX11_order 5 = .ok (.invokestatic 55, 3) := by decide +kernel
theorem dX11_order_8 : decode cX11_order 8 = .ok (.iload_n 3, 1) := by decide +kernel
theorem dX11_order_9 : decode cX11_order 9 = .ok (.iconst 1, 1) := by decide +kernel
theorem dX11_order_10 : decode cX11_order 10 = .ok (.bipush 100, 2) := by decide +kernel
theorem dX11_order_12 : decode cX11_order 12 = .ok (.invokestatic 105, 3) := by decide +kernel
theorem dX11_order_15 : decode cX11_order 15 = .ok (.ifCond .eq 19, 3) := by decide +kernel
theorem dX11_order_18 : decode cX11_order 18 = .ok (.iload 4, 2) := by decide +kernel
theorem dX11_order_20 : decode cX11_order 20 = .ok (.iconst 1, 1) := by decide +kernel
theorem dX11_order_21 : decode cX11_order 21 = .ok (.sipush 1000, 3) := by decide +kernel
theorem dX11_order_24 : decode cX11_order 24 = .ok (.invokestatic 105, 3) := by decide +kernel
theorem dX11_order_27 : decode cX11_order 27 = .ok (.ifCond .eq 7, 3) := by decide +kernel
theorem dX11_order_30 : decode cX11_order 30 = .ok (.iconst 1, 1) := by decide +kernel
theorem dX11_order_31 : decode cX11_order 31 = .ok (.goto 4, 3) := by decide +kernel
theorem dX11_order_34 : decode cX11_order 34 = .ok (.iconst 0, 1) := by decide +kernel
theorem dX11_order_35 : decode cX11_order 35 = .ok (.invokestatic 65, 3) := by decide +kernel
theorem dX11_order_38 : decode cX11_order 38 = .ok (.aload_n 0, 1) := by decide +kernel
theorem dX11_order_39 : decode cX11_order 39 = .ok (.getfield 42, 3) := by decide +kernel
theorem dX11_order_42 : decode cX11_order 42 = .ok (.invokevirtual 153, 3) := by decide +kernel
theorem dX11_order_45 : decode cX11_order 45 = .ok (.ifCond .ne 7, 3) := by decide +kernel
theorem dX11_order_48 : decode cX11_order 48 = .ok (.iconst 1, 1) := by decide +kernel
theorem dX11_order_49 : decode cX11_order 49 = .ok (.goto 4, 3) := by decide +kernel
theorem dX11_order_52 : decode cX11_order 52 = .ok (.iconst 0, 1) := by decide +kernel
theorem dX11_order_53 : decode cX11_order 53 = .ok (.invokestatic 73, 3) := by decide +kernel
theorem dX11_order_56 : decode cX11_order 56 = .ok (.aload_n 0, 1) := by decide +kernel
theorem dX11_order_57 : decode cX11_order 57 = .ok (.getfield 42, 3) := by decide +kernel
theorem dX11_order_60 : decode cX11_order 60 = .ok (.iload_n 1, 1) := by decide +kernel
theorem dX11_order_61 : decode cX11_order 61 = .ok (.iload_n 2, 1) := by decide +kernel
theorem dX11_order_62 : decode cX11_order 62 = .ok (.iload_n 3, 1) := by decide +kernel
theorem dX11_order_63 : decode cX11_order 63 = .ok (.iload 4, 2) := by decide +kernel
theorem dX11_order_65 : decode cX11_order 65 = .ok (.invokevirtual 157, 3) := by decide +kernel
theorem dX11_order_68 : decode cX11_order 68 = .ok (.ireturn, 1) := by decide +kernel
theorem dX11_pass_0 : decode cX11_pass 0 = .ok (.iload_n 1, 1) := by decide +kernel
theorem dX11_pass_1 : decode cX11_pass 1 = .ok (.iconst 1, 1) := by decide +kernel
theorem dX11_pass_2 : decode cX11_pass 2 = .ok (.bipush 100, 2) := by decide +kernel
theorem dX11_pass_4 : decode cX11_pass 4 = .ok (.invokestatic 105, 3) := by decide +kernel
theorem dX11_pass_7 : decode cX11_pass 7 = .ok (.invokestatic 65, 3) := by decide +kernel
theorem dX11_pass_10 : decode cX11_pass 10 = .ok (.aload_n 0, 1) := by decide +kernel
theorem dX11_pass_11 : decode cX11_pass 11 = .ok (.getfield 42, 3) := by decide +kernel
theorem dX11_pass_14 : decode cX11_pass 14 = .ok (.getfield 161, 3) := by decide +kernel
theorem dX11_pass_17 : decode cX11_pass 17 = .ok (.iload_n 1, 1) := by decide +kernel
theorem dX11_pass_18 : decode cX11_pass 18 = .ok (.iadd, 1) := by decide +kernel
theorem dX11_pass_19 : decode cX11_pass 19 = .ok (.sipush 1000, 3) := by decide +kernel
theorem dX11_pass_22 : decode cX11_pass 22 = .ok (.if_icmp .gt 7, 3) := by decide +kernel
theorem dX11_pass_25 : decode cX11_pass 25 = .ok (.iconst 1, 1) := by decide +kernel
theorem dX11_pass_26 : decode cX11_pass 26 = .ok (.goto 4, 3) := by decide +kernel
theorem dX11_pass_29 : decode cX11_pass 29 = .ok (.iconst 0, 1) := by decide +kernel
theorem dX11_pass_30 : decode cX11_pass 30 = .ok (.invokestatic 73, 3) := by decide +kernel
theorem dX11_pass_33 : decode cX11_pass 33 = .ok (.iconst 0, 1) := by decide +kernel
theorem dX11_pass_34 : decode cX11_pass 34 = .ok (.istore_n 2, 1) := by decide +kernel
theorem dX11_pass_35 : decode cX11_pass 35 = .ok (.iconst 0, 1) := by decide +kernel
theorem dX11_pass_36 : decode cX11_pass 36 = .ok (.istore_n 3, 1) := by decide +kernel
theorem dX11_pass_37 : decode cX11_pass 37 = .ok (.iload_n 3, 1) := by decide +kernel
theorem dX11_pass_38 : decode cX11_pass 38 = .ok (.iload_n 1, 1) := by decide +kernel
theorem dX11_pass_39 : decode cX11_pass 39 = .ok (.if_icmp .ge 99, 3) := by decide +kernel
theorem dX11_pass_42 : decode cX11_pass 42 = .ok (.aload_n 0, 1) := by decide +kernel
theorem dX11_pass_43 : decode cX11_pass 43 = .ok (.getfield 42, 3) := by decide +kernel
theorem dX11_pass_46 : decode cX11_pass 46 = .ok (.dup, 1) := by decide +kernel
theorem dX11_pass_47 : decode cX11_pass 47 = .ok (.getfield 161, 3) := by decide +kernel
theorem dX11_pass_50 : decode cX11_pass 50 = .ok (.iconst 1, 1) := by decide +kernel
theorem dX11_pass_51 : decode cX11_pass 51 = .ok (.iadd, 1) := by decide +kernel
theorem dX11_pass_52 : decode cX11_pass 52 = .ok (.putfield 161, 3) := by decide +kernel
theorem dX11_pass_55 : decode cX11_pass 55 = .ok (.aload_n 0, 1) := by decide +kernel
theorem dX11_pass_56 : decode cX11_pass 56 = .ok (.getfield 42, 3) := by decide +kernel
theorem dX11_pass_59 : decode cX11_pass 59 = .ok (.getfield 165, 3) := by decide +kernel
theorem dX11_pass_62 : decode cX11_pass 62 = .ok (.istore 4, 2) := by decide +kernel
theorem dX11_pass_64 : decode cX11_pass 64 = .ok (.iconst 0, 1) := by decide +kernel
theorem dX11_pass_65 : decode cX11_pass 65 = .ok (.istore 5, 2) := by decide +kernel
theorem dX11_pass_67 : decode cX11_pass 67 = .ok (.iload 5, 2) := by decide +kernel
theorem dX11_pass_69 : decode cX11_pass 69 = .ok (.iload 4, 2) := by decide +kernel
theorem dX11_pass_71 : decode cX11_pass 71 = .ok (.if_icmp .ge 61, 3) := by decide +kernel
theorem dX11_pass_74 : decode cX11_pass 74 = .ok (.aload_n 0, 1) := by decide +kernel
theorem dX11_pass_75 : decode cX11_pass 75 = .ok (.getfield 42, 3) := by decide +kernel
theorem dX11_pass_78 : decode cX11_pass 78 = .ok (.getfield 168, 3) := by decide +kernel
theorem dX11_pass_81 : decode cX11_pass 81 = .ok (.iload 5, 2) := by decide +kernel
theorem dX11_pass_83 : decode cX11_pass 83 = .ok (.aaload, 1) := by decide +kernel
theorem dX11_pass_84 : decode cX11_pass 84 = .ok (.astore 6, 2) := by decide +kernel
theorem dX11_pass_86 : decode cX11_pass 86 = .ok (.aload 6, 2) := by decide +kernel
theorem dX11_pass_88 : decode cX11_pass 88 = .ok (.getfield 172, 3) := by decide +kernel
theorem dX11_pass_91 : decode cX11_pass 91 = .ok (.ifCond .ne 35, 3) := by decide +kernel
theorem dX11_pass_94 : decode cX11_pass 94 = .ok (.aload 6, 2) := by decide +kernel
theorem dX11_pass_96 : decode cX11_pass 96 = .ok (.getfield 177, 3) := by decide +kernel
theorem dX11_pass_99 : decode cX11_pass 99 = .ok (.aload_n 0, 1) := by decide +kernel
theorem dX11_pass_100 : decode cX11_pass 100 = .ok (.getfield 42, 3) := by decide +kernel
theorem dX11_pass_103 : decode cX11_pass 103 = .ok (.getfield 161, 3) := by decide +kernel
theorem dX11_pass_106 : decode cX11_pass 106 = .ok (.if_icmp .ne 20, 3) := by decide +kernel
theorem dX11_pass_109 : decode cX11_pass 109 = .ok (.aload_n 0, 1) := by decide +kernel
theorem dX11_pass_110 : decode cX11_pass 110 = .ok (.getfield 51, 3) := by decide +kernel
theorem dX11_pass_113 : decode cX11_pass 113 = .ok (.iload 5, 2) := by decide +kernel
theorem dX11_pass_115 : decode cX11_pass 115 = .ok (.aload 6, 2) := by decide +kernel
theorem dX11_pass_117 : decode cX11_pass 117 = .ok (.getfield 178, 3) := by decide +kernel
theorem dX11_pass_120 : decode cX11_pass 120 = .ok (.invokevirtual 181, 3) := by decide +kernel
theorem dX11_pass_123 : decode cX11_pass 123 = .ok (.iinc 2 1, 3) := by decide +kernel
theorem dX11_pass_126 : decode cX11_pass 126 = .ok (.iinc 5 1, 3) := by decide +kernel
theorem dX11_pass_129 : decode cX11_pass 129 = .ok (.goto (-62), 3) := by decide +kernel
theorem dX11_pass_132 : decode cX11_pass 132 = .ok (.iinc 3 1, 3) := by decide +kernel
theorem dX11_pass_135 : decode cX11_pass 135 = .ok (.goto (-98), 3) := by decide +kernel
theorem dX11_pass_138 : decode cX11_pass 138 = .ok (.iload_n 2, 1) := by decide +kernel
theorem dX11_pass_139 : decode cX11_pass 139 = .ok (.ireturn, 1) := by decide +kernel
theorem dX11_hour_0 : decode cX11_hour 0 = .ok (.aload_n 0, 1) := by decide +kernel
theorem dX11_hour_1 : decode cX11_hour 1 = .ok (.getfield 42, 3) := by decide +kernel
theorem dX11_hour_4 : decode cX11_hour 4 = .ok (.getfield 161, 3) := by decide +kernel
theorem dX11_hour_7 : decode cX11_hour 7 = .ok (.ireturn, 1) := by decide +kernel
theorem dX11_takeUp_0 : decode cX11_takeUp 0 = .ok (.aload_n 0, 1) := by decide +kernel
theorem dX11_takeUp_1 : decode cX11_takeUp 1 = .ok (.iload_n 1, 1) := by decide +kernel
theorem dX11_takeUp_2 : decode cX11_takeUp 2 = .ok (.invokevirtual 184, 3) := by decide +kernel
theorem dX11_takeUp_5 : decode cX11_takeUp 5 = .ok (.astore_n 3, 1) := by decide +kernel
theorem dX11_takeUp_6 : decode cX11_takeUp 6 = .ok (.iload_n 2, 1) := by decide +kernel
theorem dX11_takeUp_7 : decode cX11_takeUp 7 = .ok (.iconst 1, 1) := by decide +kernel
theorem dX11_takeUp_8 : decode cX11_takeUp 8 = .ok (.sipush 1000, 3) := by decide +kernel
theorem dX11_takeUp_11 : decode cX11_takeUp 11 = .ok (.invokestatic 105, 3) := by decide +kernel
theorem dX11_takeUp_14 : decode cX11_takeUp 14 = .ok (.invokestatic 65, 3) := by decide +kernel
theorem dX11_takeUp_17 : decode cX11_takeUp 17 = .ok (.aload_n 3, 1) := by decide +kernel
theorem dX11_takeUp_18 : decode cX11_takeUp 18 = .ok (.getfield 172, 3) := by decide +kernel
theorem dX11_takeUp_21 : decode cX11_takeUp 21 = .ok (.iconst 2, 1) := by decide +kernel
theorem dX11_takeUp_22 : decode cX11_takeUp 22 = .ok (.if_icmp .eq 11, 3) := by decide +kernel
theorem dX11_takeUp_25 : decode cX11_takeUp 25 = .ok (.aload_n 3, 1) := by decide +kernel
theorem dX11_takeUp_26 : decode cX11_takeUp 26 = .ok (.getfield 172, 3) := by decide +kernel
theorem dX11_takeUp_29 : decode cX11_takeUp 29 = .ok (.iconst 3, 1) := by decide +kernel
theorem dX11_takeUp_30 : decode cX11_takeUp 30 = .ok (.if_icmp .ne 7, 3) := by decide +kernel
theorem dX11_takeUp_33 : decode cX11_takeUp 33 = .ok (.iconst 1, 1) := by decide +kernel
theorem dX11_takeUp_34 : decode cX11_takeUp 34 = .ok (.goto 4, 3) := by decide +kernel
theorem dX11_takeUp_37 : decode cX11_takeUp 37 = .ok (.iconst 0, 1) := by decide +kernel
theorem dX11_takeUp_38 : decode cX11_takeUp 38 = .ok (.invokestatic 73, 3) := by decide +kernel
theorem dX11_takeUp_41 : decode cX11_takeUp 41 = .ok (.aload_n 0, 1) := by decide +kernel
theorem dX11_takeUp_42 : decode cX11_takeUp 42 = .ok (.getfield 51, 3) := by decide +kernel
theorem dX11_takeUp_45 : decode cX11_takeUp 45 = .ok (.iload_n 1, 1) := by decide +kernel
theorem dX11_takeUp_46 : decode cX11_takeUp 46 = .ok (.iload_n 2, 1) := by decide +kernel
theorem dX11_takeUp_47 : decode cX11_takeUp 47 = .ok (.invokevirtual 181, 3) := by decide +kernel
theorem dX11_takeUp_50 : decode cX11_takeUp 50 = .ok (.aload_n 3, 1) := by decide +kernel
theorem dX11_takeUp_51 : decode cX11_takeUp 51 = .ok (.getfield 172, 3) := by decide +kernel
theorem dX11_takeUp_54 : decode cX11_takeUp 54 = .ok (.ireturn, 1) := by decide +kernel
theorem dX11_orders_0 : decode cX11_orders 0 = .ok (.aload_n 0, 1) := by decide +kernel
theorem dX11_orders_1 : decode cX11_orders 1 = .ok (.getfield 42, 3) := by decide +kernel
theorem dX11_orders_4 : decode cX11_orders 4 = .ok (.getfield 165, 3) := by decide +kernel
theorem dX11_orders_7 : decode cX11_orders 7 = .ok (.ireturn, 1) := by decide +kernel
theorem dX11_state_0 : decode cX11_state 0 = .ok (.aload_n 0, 1) := by decide +kernel
theorem dX11_state_1 : decode cX11_state 1 = .ok (.iload_n 1, 1) := by decide +kernel
theorem dX11_state_2 : decode cX11_state 2 = .ok (.invokevirtual 184, 3) := by decide +kernel
theorem dX11_state_5 : decode cX11_state 5 = .ok (.getfield 172, 3) := by decide +kernel
theorem dX11_state_8 : decode cX11_state 8 = .ok (.ireturn, 1) := by decide +kernel
theorem dX11_why_0 : decode cX11_why 0 = .ok (.aload_n 0, 1) := by decide +kernel
theorem dX11_why_1 : decode cX11_why 1 = .ok (.iload_n 1, 1) := by decide +kernel
theorem dX11_why_2 : decode cX11_why 2 = .ok (.invokevirtual 184, 3) := by decide +kernel
theorem dX11_why_5 : decode cX11_why 5 = .ok (.getfield 188, 3) := by decide +kernel
theorem dX11_why_8 : decode cX11_why 8 = .ok (.ireturn, 1) := by decide +kernel
theorem dX11_done_0 : decode cX11_done 0 = .ok (.aload_n 0, 1) := by decide +kernel
theorem dX11_done_1 : decode cX11_done 1 = .ok (.iload_n 1, 1) := by decide +kernel
theorem dX11_done_2 : decode cX11_done 2 = .ok (.invokevirtual 184, 3) := by decide +kernel
theorem dX11_done_5 : decode cX11_done 5 = .ok (.getfield 191, 3) := by decide +kernel
theorem dX11_done_8 : decode cX11_done 8 = .ok (.ireturn, 1) := by decide +kernel
theorem dX11_value_0 : decode cX11_value 0 = .ok (.aload_n 0, 1) := by decide +kernel
theorem dX11_value_1 : decode cX11_value 1 = .ok (.iload_n 1, 1) := by decide +kernel
theorem dX11_value_2 : decode cX11_value 2 = .ok (.invokevirtual 184, 3) := by decide +kernel
theorem dX11_value_5 : decode cX11_value 5 = .ok (.getfield 194, 3) := by decide +kernel
theorem dX11_value_8 : decode cX11_value 8 = .ok (.ireturn, 1) := by decide +kernel
theorem dX11_used_0 : decode cX11_used 0 = .ok (.aload_n 0, 1) := by decide +kernel
theorem dX11_used_1 : decode cX11_used 1 = .ok (.iload_n 1, 1) := by decide +kernel
theorem dX11_used_2 : decode cX11_used 2 = .ok (.invokevirtual 184, 3) := by decide +kernel
theorem dX11_used_5 : decode cX11_used 5 = .ok (.getfield 197, 3) := by decide +kernel
theorem dX11_used_8 : decode cX11_used 8 = .ok (.ireturn, 1) := by decide +kernel
theorem dX11_hourOf_0 : decode cX11_hourOf 0 = .ok (.aload_n 0, 1) := by decide +kernel
theorem dX11_hourOf_1 : decode cX11_hourOf 1 = .ok (.iload_n 1, 1) := by decide +kernel
theorem dX11_hourOf_2 : decode cX11_hourOf 2 = .ok (.invokevirtual 184, 3) := by decide +kernel
theorem dX11_hourOf_5 : decode cX11_hourOf 5 = .ok (.getfield 177, 3) := by decide +kernel
theorem dX11_hourOf_8 : decode cX11_hourOf 8 = .ok (.ireturn, 1) := by decide +kernel
theorem dX11_leftBy_0 : decode cX11_leftBy 0 = .ok (.iload_n 1, 1) := by decide +kernel
theorem dX11_leftBy_1 : decode cX11_leftBy 1 = .ok (.aload_n 0, 1) := by decide +kernel
theorem dX11_leftBy_2 : decode cX11_leftBy 2 = .ok (.getfield 42, 3) := by decide +kernel
theorem dX11_leftBy_5 : decode cX11_leftBy 5 = .ok (.getfield 165, 3) := by decide +kernel
theorem dX11_leftBy_8 : decode cX11_leftBy 8 = .ok (.invokestatic 83, 3) := by decide +kernel
theorem dX11_leftBy_11 : decode cX11_leftBy 11 = .ok (.iload_n 2, 1) := by decide +kernel
theorem dX11_leftBy_12 : decode cX11_leftBy 12 = .ok (.invokestatic 102, 3) := by decide +kernel
theorem dX11_leftBy_15 : decode cX11_leftBy 15 = .ok (.aload_n 0, 1) := by decide +kernel
theorem dX11_leftBy_16 : decode cX11_leftBy 16 = .ok (.getfield 35, 3) := by decide +kernel
theorem dX11_leftBy_19 : decode cX11_leftBy 19 = .ok (.iload_n 1, 1) := by decide +kernel
theorem dX11_leftBy_20 : decode cX11_leftBy 20 = .ok (.iload_n 2, 1) := by decide +kernel
theorem dX11_leftBy_21 : decode cX11_leftBy 21 = .ok (.invokevirtual 200, 3) := by decide +kernel
theorem dX11_leftBy_24 : decode cX11_leftBy 24 = .ok (.ireturn, 1) := by decide +kernel
theorem dX11_moves_0 : decode cX11_moves 0 = .ok (.aload_n 0, 1) := by decide +kernel
theorem dX11_moves_1 : decode cX11_moves 1 = .ok (.getfield 35, 3) := by decide +kernel
theorem dX11_moves_4 : decode cX11_moves 4 = .ok (.getfield 203, 3) := by decide +kernel
theorem dX11_moves_7 : decode cX11_moves 7 = .ok (.ireturn, 1) := by decide +kernel
theorem dX11_movedFrom_0 : decode cX11_movedFrom 0 = .ok (.iload_n 1, 1) := by decide +kernel
theorem dX11_movedFrom_1 : decode cX11_movedFrom 1 = .ok (.aload_n 0, 1) := by decide +kernel
theorem dX11_movedFrom_2 : decode cX11_movedFrom 2 = .ok (.getfield 35, 3) := by decide +kernel
theorem dX11_movedFrom_5 : decode cX11_movedFrom 5 = .ok (.getfield 203, 3) := by decide +kernel
theorem dX11_movedFrom_8 : decode cX11_movedFrom 8 = .ok (.invokestatic 83, 3) := by decide +kernel
theorem dX11_movedFrom_11 : decode cX11_movedFrom 11 = .ok (.aload_n 0, 1) := by decide +kernel
theorem dX11_movedFrom_12 : decode cX11_movedFrom 12 = .ok (.getfield 35, 3) := by decide +kernel
theorem dX11_movedFrom_15 : decode cX11_movedFrom 15 = .ok (.getfield 204, 3) := by decide +kernel
theorem dX11_movedFrom_18 : decode cX11_movedFrom 18 = .ok (.iload_n 1, 1) := by decide +kernel
theorem dX11_movedFrom_19 : decode cX11_movedFrom 19 = .ok (.iaload, 1) := by decide +kernel
theorem dX11_movedFrom_20 : decode cX11_movedFrom 20 = .ok (.ireturn, 1) := by decide +kernel
theorem dX11_movedTo_0 : decode cX11_movedTo 0 = .ok (.iload_n 1, 1) := by decide +kernel
theorem dX11_movedTo_1 : decode cX11_movedTo 1 = .ok (.aload_n 0, 1) := by decide +kernel
theorem dX11_movedTo_2 : decode cX11_movedTo 2 = .ok (.getfield 35, 3) := by decide +kernel
theorem dX11_movedTo_5 : decode cX11_movedTo 5 = .ok (.getfield 203, 3) := by decide +kernel
theorem dX11_movedTo_8 : decode cX11_movedTo 8 = .ok (.invokestatic 83, 3) := by decide +kernel
theorem dX11_movedTo_11 : decode cX11_movedTo 11 = .ok (.aload_n 0, 1) := by decide +kernel
theorem dX11_movedTo_12 : decode cX11_movedTo 12 = .ok (.getfield 35, 3) := by decide +kernel
theorem dX11_movedTo_15 : decode cX11_movedTo 15 = .ok (.getfield 208, 3) := by decide +kernel
theorem dX11_movedTo_18 : decode cX11_movedTo 18 = .ok (.iload_n 1, 1) := by decide +kernel
theorem dX11_movedTo_19 : decode cX11_movedTo 19 = .ok (.iaload, 1) := by decide +kernel
theorem dX11_movedTo_20 : decode cX11_movedTo 20 = .ok (.ireturn, 1) := by decide +kernel
theorem dX11_movedGood_0 : decode cX11_movedGood 0 = .ok (.iload_n 1, 1) := by decide +kernel
theorem dX11_movedGood_1 : decode cX11_movedGood 1 = .ok (.aload_n 0, 1) := by decide +kernel
theorem dX11_movedGood_2 : decode cX11_movedGood 2 = .ok (.getfield 35, 3) := by decide +kernel
theorem dX11_movedGood_5 : decode cX11_movedGood 5 = .ok (.getfield 203, 3) := by decide +kernel
theorem dX11_movedGood_8 : decode cX11_movedGood 8 = .ok (.invokestatic 83, 3) := by decide +kernel
theorem dX11_movedGood_11 : decode cX11_movedGood 11 = .ok (.aload_n 0, 1) := by decide +kernel
theorem dX11_movedGood_12 : decode cX11_movedGood 12 = .ok (.getfield 35, 3) := by decide +kernel
theorem dX11_movedGood_15 : decode cX11_movedGood 15 = .ok (.getfield 211, 3) := by decide +kernel
theorem dX11_movedGood_18 : decode cX11_movedGood 18 = .ok (.iload_n 1, 1) := by decide +kernel
theorem dX11_movedGood_19 : decode cX11_movedGood 19 = .ok (.iaload, 1) := by decide +kernel
theorem dX11_movedGood_20 : decode cX11_movedGood 20 = .ok (.ireturn, 1) := by decide +kernel
theorem dX11_movedAmount_0 : decode cX11_movedAmount 0 = .ok (.iload_n 1, 1) := by decide +kernel
theorem dX11_movedAmount_1 : decode cX11_movedAmount 1 = .ok (.aload_n 0, 1) := by decide +kernel
theorem dX11_movedAmount_2 : decode cX11_movedAmount 2 = .ok (.getfield 35, 3) := by decide +kernel
theorem dX11_movedAmount_5 : decode cX11_movedAmount 5 = .ok (.getfield 203, 3) := by decide +kernel
theorem dX11_movedAmount_8 : decode cX11_movedAmount 8 = .ok (.invokestatic 83, 3) := by decide +kernel
theorem dX11_movedAmount_11 : decode cX11_movedAmount 11 = .ok (.aload_n 0, 1) := by decide +kernel
theorem dX11_movedAmount_12 : decode cX11_movedAmount 12 = .ok (.getfield 35, 3) := by decide +kernel
theorem dX11_movedAmount_15 : decode cX11_movedAmount 15 = .ok (.getfield 214, 3) := by decide +kernel
theorem dX11_movedAmount_18 : decode cX11_movedAmount 18 = .ok (.iload_n 1, 1) := by decide +kernel
theorem dX11_movedAmount_19 : decode cX11_movedAmount 19 = .ok (.iaload, 1) := by decide +kernel
theorem dX11_movedAmount_20 : decode cX11_movedAmount 20 = .ok (.ireturn, 1) := by decide +kernel
theorem dX11_movedBy_0 : decode cX11_movedBy 0 = .ok (.iload_n 1, 1) := by decide +kernel
theorem dX11_movedBy_1 : decode cX11_movedBy 1 = .ok (.aload_n 0, 1) := by decide +kernel
theorem dX11_movedBy_2 : decode cX11_movedBy 2 = .ok (.getfield 35, 3) := by decide +kernel
theorem dX11_movedBy_5 : decode cX11_movedBy 5 = .ok (.getfield 203, 3) := by decide +kernel
theorem dX11_movedBy_8 : decode cX11_movedBy 8 = .ok (.invokestatic 83, 3) := by decide +kernel
theorem dX11_movedBy_11 : decode cX11_movedBy 11 = .ok (.aload_n 0, 1) := by decide +kernel
theorem dX11_movedBy_12 : decode cX11_movedBy 12 = .ok (.getfield 35, 3) := by decide +kernel
theorem dX11_movedBy_15 : decode cX11_movedBy 15 = .ok (.getfield 217, 3) := by decide +kernel
theorem dX11_movedBy_18 : decode cX11_movedBy 18 = .ok (.iload_n 1, 1) := by decide +kernel
theorem dX11_movedBy_19 : decode cX11_movedBy 19 = .ok (.iaload, 1) := by decide +kernel
theorem dX11_movedBy_20 : decode cX11_movedBy 20 = .ok (.ireturn, 1) := by decide +kernel
theorem dX11_existing_0 : decode cX11_existing 0 = .ok (.iload_n 1, 1) := by decide +kernel
theorem dX11_existing_1 : decode cX11_existing 1 = .ok (.aload_n 0, 1) := by decide +kernel
theorem dX11_existing_2 : decode cX11_existing 2 = .ok (.getfield 42, 3) := by decide +kernel
theorem dX11_existing_5 : decode cX11_existing 5 = .ok (.getfield 165, 3) := by decide +kernel
theorem dX11_existing_8 : decode cX11_existing 8 = .ok (.invokestatic 83, 3) := by decide +kernel
theorem dX11_existing_11 : decode cX11_existing 11 = .ok (.aload_n 0, 1) := by decide +kernel
theorem dX11_existing_12 : decode cX11_existing 12 = .ok (.getfield 42, 3) := by decide +kernel
theorem dX11_existing_15 : decode cX11_existing 15 = .ok (.getfield 168, 3) := by decide +kernel
theorem dX11_existing_18 : decode cX11_existing 18 = .ok (.iload_n 1, 1) := by decide +kernel
theorem dX11_existing_19 : decode cX11_existing 19 = .ok (.aaload, 1) := by decide +kernel
theorem dX11_existing_20 : decode cX11_existing 20 = .ok (.areturn, 1) := by decide +kernel
theorem dX11_isIn_0 : decode cX11_isIn 0 = .ok (.iload_n 0, 1) := by decide +kernel
theorem dX11_isIn_1 : decode cX11_isIn 1 = .ok (.iload_n 1, 1) := by decide +kernel
theorem dX11_isIn_2 : decode cX11_isIn 2 = .ok (.if_icmp .lt 12, 3) := by decide +kernel
theorem dX11_isIn_5 : decode cX11_isIn 5 = .ok (.iload_n 0, 1) := by decide +kernel
theorem dX11_isIn_6 : decode cX11_isIn 6 = .ok (.iload_n 2, 1) := by decide +kernel
theorem dX11_isIn_7 : decode cX11_isIn 7 = .ok (.if_icmp .gt 7, 3) := by decide +kernel
theorem dX11_isIn_10 : decode cX11_isIn 10 = .ok (.iconst 1, 1) := by decide +kernel
theorem dX11_isIn_11 : decode cX11_isIn 11 = .ok (.goto 4, 3) := by decide +kernel
theorem dX11_isIn_14 : decode cX11_isIn 14 = .ok (.iconst 0, 1) := by decide +kernel
theorem dX11_isIn_15 : decode cX11_isIn 15 = .ok (.ireturn, 1) := by decide +kernel
theorem dX11_demand_0 : decode cX11_demand 0 = .ok (.iload_n 0, 1) := by decide +kernel
theorem dX11_demand_1 : decode cX11_demand 1 = .ok (.ifCond .ne 11, 3) := by decide +kernel
theorem dX11_demand_4 : decode cX11_demand 4 = .ok (.new 220, 3) := by decide +kernel
theorem dX11_demand_7 : decode cX11_demand 7 = .ok (.dup, 1) := by decide +kernel
theorem dX11_demand_8 : decode cX11_demand 8 = .ok (.invokespecial 222, 3) := by decide +kernel
theorem dX11_demand_11 : decode cX11_demand 11 = .ok (.athrow, 1) := by decide +kernel
theorem dX11_demand_12 : decode cX11_demand 12 = .ok (.return_, 1) := by decide +kernel
theorem dX11_demandState_0 : decode cX11_demandState 0 = .ok (.iload_n 0, 1) := by decide +kernel
theorem dX11_demandState_1 : decode cX11_demandState 1 = .ok (.ifCond .ne 11, 3) := by decide +kernel
theorem dX11_demandState_4 : decode cX11_demandState 4 = .ok (.new 223, 3) := by decide +kernel
theorem dX11_demandState_7 : decode cX11_demandState 7 = .ok (.dup, 1) := by decide +kernel
theorem dX11_demandState_8 : decode cX11_demandState 8 = .ok (.invokespecial 225, 3) := by decide +kernel
theorem dX11_demandState_11 : decode cX11_demandState 11 = .ok (.athrow, 1) := by decide +kernel
theorem dX11_demandState_12 : decode cX11_demandState 12 = .ok (.return_, 1) := by decide +kernel
theorem dX11_demandIndex_0 : decode cX11_demandIndex 0 = .ok (.iload_n 0, 1) := by decide +kernel
theorem dX11_demandIndex_1 : decode cX11_demandIndex 1 = .ok (.ifCond .lt 8, 3) := by decide +kernel
theorem dX11_demandIndex_4 : decode cX11_demandIndex 4 = .ok (.iload_n 0, 1) := by decide +kernel
theorem dX11_demandIndex_5 : decode cX11_demandIndex 5 = .ok (.iload_n 1, 1) := by decide +kernel
theorem dX11_demandIndex_6 : decode cX11_demandIndex 6 = .ok (.if_icmp .lt 11, 3) := by decide +kernel
theorem dX11_demandIndex_9 : decode cX11_demandIndex 9 = .ok (.new 226, 3) := by decide +kernel
theorem dX11_demandIndex_12 : decode cX11_demandIndex 12 = .ok (.dup, 1) := by decide +kernel
theorem dX11_demandIndex_13 : decode cX11_demandIndex 13 = .ok (.invokespecial 228, 3) := by decide +kernel
theorem dX11_demandIndex_16 : decode cX11_demandIndex 16 = .ok (.athrow, 1) := by decide +kernel
theorem dX11_demandIndex_17 : decode cX11_demandIndex 17 = .ok (.return_, 1) := by decide +kernel
theorem dX11_demandScript_0 : decode cX11_demandScript 0 = .ok (.iload_n 0, 1) := by decide +kernel
theorem dX11_demandScript_1 : decode cX11_demandScript 1 = .ok (.iconst 0, 1) := by decide +kernel
theorem dX11_demandScript_2 : decode cX11_demandScript 2 = .ok (.bipush 7, 2) := by decide +kernel
theorem dX11_demandScript_4 : decode cX11_demandScript 4 = .ok (.invokestatic 105, 3) := by decide +kernel
theorem dX11_demandScript_7 : decode cX11_demandScript 7 = .ok (.invokestatic 65, 3) := by decide +kernel
theorem dX11_demandScript_10 : decode cX11_demandScript 10 = .ok (.return_, 1) := by decide +kernel
theorem dX11_demandGood_0 : decode cX11_demandGood 0 = .ok (.iload_n 0, 1) := by decide +kernel
theorem dX11_demandGood_1 : decode cX11_demandGood 1 = .ok (.iconst 0, 1) := by decide +kernel
theorem dX11_demandGood_2 : decode cX11_demandGood 2 = .ok (.bipush 7, 2) := by decide +kernel
theorem dX11_demandGood_4 : decode cX11_demandGood 4 = .ok (.invokestatic 105, 3) := by decide +kernel
theorem dX11_demandGood_7 : decode cX11_demandGood 7 = .ok (.invokestatic 65, 3) := by decide +kernel
theorem dX11_demandGood_10 : decode cX11_demandGood 10 = .ok (.return_, 1) := by decide +kernel
theorem dX11_demandCompany_0 : decode cX11_demandCompany 0 = .ok (.iload_n 0, 1) := by decide +kernel
theorem dX11_demandCompany_1 : decode cX11_demandCompany 1 = .ok (.iconst 0, 1) := by decide +kernel
theorem dX11_demandCompany_2 : decode cX11_demandCompany 2 = .ok (.iconst 3, 1) := by decide +kernel
theorem dX11_demandCompany_3 : decode cX11_demandCompany 3 = .ok (.invokestatic 105, 3) := by decide +kernel
theorem dX11_demandCompany_6 : decode cX11_demandCompany 6 = .ok (.invokestatic 65, 3) := by decide +kernel
theorem dX11_demandCompany_9 : decode cX11_demandCompany 9 = .ok (.return_, 1) := by decide +kernel
theorem dX11_demandOwner_0 : decode cX11_demandOwner 0 = .ok (.iload_n 0, 1) := by decide +kernel
theorem dX11_demandOwner_1 : decode cX11_demandOwner 1 = .ok (.iconst (-1), 1) := by decide +kernel
theorem dX11_demandOwner_2 : decode cX11_demandOwner 2 = .ok (.if_icmp .eq 12, 3) := by decide +kernel
theorem dX11_demandOwner_5 : decode cX11_demandOwner 5 = .ok (.iload_n 0, 1) := by decide +kernel
theorem dX11_demandOwner_6 : decode cX11_demandOwner 6 = .ok (.iconst 0, 1) := by decide +kernel
theorem dX11_demandOwner_7 : decode cX11_demandOwner 7 = .ok (.iconst 3, 1) := by decide +kernel
theorem dX11_demandOwner_8 : decode cX11_demandOwner 8 = .ok (.invokestatic 105, 3) := by decide +kernel
theorem dX11_demandOwner_11 : decode cX11_demandOwner 11 = .ok (.ifCond .eq 7, 3) := by decide +kernel
theorem dX11_demandOwner_14 : decode cX11_demandOwner 14 = .ok (.iconst 1, 1) := by decide +kernel
theorem dX11_demandOwner_15 : decode cX11_demandOwner 15 = .ok (.goto 4, 3) := by decide +kernel
theorem dX11_demandOwner_18 : decode cX11_demandOwner 18 = .ok (.iconst 0, 1) := by decide +kernel
theorem dX11_demandOwner_19 : decode cX11_demandOwner 19 = .ok (.invokestatic 65, 3) := by decide +kernel
theorem dX11_demandOwner_22 : decode cX11_demandOwner 22 = .ok (.return_, 1) := by decide +kernel
