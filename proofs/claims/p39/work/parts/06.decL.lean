theorem dL_cell_0 : decode cL_cell 0 = .ok (.iload_n 1, 1) := by decide +kernel
theorem dL_cell_1 : decode cL_cell 1 = .ok (.aload_n 0, 1) := by decide +kernel
theorem dL_cell_2 : decode cL_cell 2 = .ok (.arraylength, 1) := by decide +kernel
theorem dL_cell_3 : decode cL_cell 3 = .ok (.if_icmp .ge 9, 3) := by decide +kernel
theorem dL_cell_6 : decode cL_cell 6 = .ok (.aload_n 0, 1) := by decide +kernel
theorem dL_cell_7 : decode cL_cell 7 = .ok (.iload_n 1, 1) := by decide +kernel
theorem dL_cell_8 : decode cL_cell 8 = .ok (.iaload, 1) := by decide +kernel
theorem dL_cell_9 : decode cL_cell 9 = .ok (.goto 18, 3) := by decide +kernel
theorem dL_cell_12 : decode cL_cell 12 = .ok (.sipush 7919, 3) := by decide +kernel
theorem dL_cell_15 : decode cL_cell 15 = .ok (.iload_n 1, 1) := by decide +kernel
theorem dL_cell_16 : decode cL_cell 16 = .ok (.sipush 1429, 3) := by decide +kernel
theorem dL_cell_19 : decode cL_cell 19 = .ok (.iadd, 1) := by decide +kernel
theorem dL_cell_20 : decode cL_cell 20 = .ok (.imul, 1) := by decide +kernel
theorem dL_cell_21 : decode cL_cell 21 = .ok (.iload_n 1, 1) := by decide +kernel
theorem dL_cell_22 : decode cL_cell 22 = .ok (.sipush 467, 3) := by decide +kernel
theorem dL_cell_25 : decode cL_cell 25 = .ok (.iadd, 1) := by decide +kernel
theorem dL_cell_26 : decode cL_cell 26 = .ok (.imul, 1) := by decide +kernel
theorem dL_cell_27 : decode cL_cell 27 = .ok (.ireturn, 1) := by decide +kernel
theorem dL_low_0 : decode cL_low 0 = .ok (.iload_n 0, 1) := by decide +kernel
theorem dL_low_1 : decode cL_low 1 = .ok (.ldc 7, 2) := by decide +kernel
theorem dL_low_3 : decode cL_low 3 = .ok (.iand, 1) := by decide +kernel
theorem dL_low_4 : decode cL_low 4 = .ok (.iload_n 1, 1) := by decide +kernel
theorem dL_low_5 : decode cL_low 5 = .ok (.irem, 1) := by decide +kernel
theorem dL_low_6 : decode cL_low 6 = .ok (.ireturn, 1) := by decide +kernel
theorem dL_type_0 : decode cL_type 0 = .ok (.aload_n 0, 1) := by decide +kernel
theorem dL_type_1 : decode cL_type 1 = .ok (.iload_n 1, 1) := by decide +kernel
theorem dL_type_2 : decode cL_type 2 = .ok (.iload_n 2, 1) := by decide +kernel
theorem dL_type_3 : decode cL_type 3 = .ok (.invokevirtual 8, 3) := by decide +kernel
theorem dL_type_6 : decode cL_type 6 = .ok (.ireturn, 1) := by decide +kernel
theorem dL_type_7 : decode cL_type 7 = .ok (.astore_n 3, 1) := by decide +kernel
theorem dL_type_8 : decode cL_type 8 = .ok (.ldc 16, 2) := by decide +kernel
theorem dL_type_10 : decode cL_type 10 = .ok (.ireturn, 1) := by decide +kernel
theorem dL_type_11 : decode cL_type 11 = .ok (.astore_n 3, 1) := by decide +kernel
theorem dL_type_12 : decode cL_type 12 = .ok (.ldc 16, 2) := by decide +kernel
theorem dL_type_14 : decode cL_type 14 = .ok (.ireturn, 1) := by decide +kernel
theorem dL_erase_0 : decode cL_erase 0 = .ok (.aload_n 0, 1) := by decide +kernel
theorem dL_erase_1 : decode cL_erase 1 = .ok (.iload_n 1, 1) := by decide +kernel
theorem dL_erase_2 : decode cL_erase 2 = .ok (.iload_n 2, 1) := by decide +kernel
theorem dL_erase_3 : decode cL_erase 3 = .ok (.invokevirtual 19, 3) := by decide +kernel
theorem dL_erase_6 : decode cL_erase 6 = .ok (.ireturn, 1) := by decide +kernel
theorem dL_erase_7 : decode cL_erase 7 = .ok (.astore_n 3, 1) := by decide +kernel
theorem dL_erase_8 : decode cL_erase 8 = .ok (.ldc 16, 2) := by decide +kernel
theorem dL_erase_10 : decode cL_erase 10 = .ok (.ireturn, 1) := by decide +kernel
theorem dL_expressions_0 : decode cL_expressions 0 = .ok (.aload_n 0, 1) := by decide +kernel
theorem dL_expressions_1 : decode cL_expressions 1 = .ok (.iload_n 1, 1) := by decide +kernel
theorem dL_expressions_2 : decode cL_expressions 2 = .ok (.invokevirtual 22, 3) := by decide +kernel
theorem dL_expressions_5 : decode cL_expressions 5 = .ok (.ireturn, 1) := by decide +kernel
theorem dL_expressions_6 : decode cL_expressions 6 = .ok (.astore_n 2, 1) := by decide +kernel
theorem dL_expressions_7 : decode cL_expressions 7 = .ok (.bipush (-2), 2) := by decide +kernel
theorem dL_expressions_9 : decode cL_expressions 9 = .ok (.ireturn, 1) := by decide +kernel
theorem dL_expressions_10 : decode cL_expressions 10 = .ok (.astore_n 2, 1) := by decide +kernel
theorem dL_expressions_11 : decode cL_expressions 11 = .ok (.iconst (-1), 1) := by decide +kernel
theorem dL_expressions_12 : decode cL_expressions 12 = .ok (.ireturn, 1) := by decide +kernel
theorem dL_supply_0 : decode cL_supply 0 = .ok (.aload_n 0, 1) := by decide +kernel
theorem dL_supply_1 : decode cL_supply 1 = .ok (.iload_n 1, 1) := by decide +kernel
theorem dL_supply_2 : decode cL_supply 2 = .ok (.iload_n 2, 1) := by decide +kernel
theorem dL_supply_3 : decode cL_supply 3 = .ok (.invokevirtual 26, 3) := by decide +kernel
theorem dL_supply_6 : decode cL_supply 6 = .ok (.ireturn, 1) := by decide +kernel
theorem dL_supply_7 : decode cL_supply 7 = .ok (.astore_n 3, 1) := by decide +kernel
theorem dL_supply_8 : decode cL_supply 8 = .ok (.ldc 16, 2) := by decide +kernel
theorem dL_supply_10 : decode cL_supply 10 = .ok (.ireturn, 1) := by decide +kernel
theorem dL_giveRations_0 : decode cL_giveRations 0 = .ok (.aload_n 0, 1) := by decide +kernel
theorem dL_giveRations_1 : decode cL_giveRations 1 = .ok (.iload_n 1, 1) := by decide +kernel
theorem dL_giveRations_2 : decode cL_giveRations 2 = .ok (.iload_n 2, 1) := by decide +kernel
theorem dL_giveRations_3 : decode cL_giveRations 3 = .ok (.invokevirtual 29, 3) := by decide +kernel
theorem dL_giveRations_6 : decode cL_giveRations 6 = .ok (.ireturn, 1) := by decide +kernel
theorem dL_giveRations_7 : decode cL_giveRations 7 = .ok (.astore_n 3, 1) := by decide +kernel
theorem dL_giveRations_8 : decode cL_giveRations 8 = .ok (.ldc 16, 2) := by decide +kernel
theorem dL_giveRations_10 : decode cL_giveRations 10 = .ok (.ireturn, 1) := by decide +kernel
theorem dL_setTariff_0 : decode cL_setTariff 0 = .ok (.aload_n 0, 1) := by decide +kernel
theorem dL_setTariff_1 : decode cL_setTariff 1 = .ok (.iload_n 1, 1) := by decide +kernel
theorem dL_setTariff_2 : decode cL_setTariff 2 = .ok (.invokevirtual 32, 3) := by decide +kernel
theorem dL_setTariff_5 : decode cL_setTariff 5 = .ok (.ireturn, 1) := by decide +kernel
theorem dL_setTariff_6 : decode cL_setTariff 6 = .ok (.astore_n 2, 1) := by decide +kernel
theorem dL_setTariff_7 : decode cL_setTariff 7 = .ok (.ldc 16, 2) := by decide +kernel
theorem dL_setTariff_9 : decode cL_setTariff 9 = .ok (.ireturn, 1) := by decide +kernel
theorem dL_buy_0 : decode cL_buy 0 = .ok (.aload_n 0, 1) := by decide +kernel
theorem dL_buy_1 : decode cL_buy 1 = .ok (.iload_n 1, 1) := by decide +kernel
theorem dL_buy_2 : decode cL_buy 2 = .ok (.iload_n 2, 1) := by decide +kernel
theorem dL_buy_3 : decode cL_buy 3 = .ok (.invokevirtual 35, 3) := by decide +kernel
theorem dL_buy_6 : decode cL_buy 6 = .ok (.ireturn, 1) := by decide +kernel
theorem dL_buy_7 : decode cL_buy 7 = .ok (.astore_n 3, 1) := by decide +kernel
theorem dL_buy_8 : decode cL_buy 8 = .ok (.ldc 16, 2) := by decide +kernel
theorem dL_buy_10 : decode cL_buy 10 = .ok (.ireturn, 1) := by decide +kernel
theorem dL_buy_11 : decode cL_buy 11 = .ok (.astore_n 3, 1) := by decide +kernel
theorem dL_buy_12 : decode cL_buy 12 = .ok (.ldc 16, 2) := by decide +kernel
theorem dL_buy_14 : decode cL_buy 14 = .ok (.ireturn, 1) := by decide +kernel
theorem dL_setBuying_0 : decode cL_setBuying 0 = .ok (.aload_n 0, 1) := by decide +kernel
theorem dL_setBuying_1 : decode cL_setBuying 1 = .ok (.iload_n 1, 1) := by decide +kernel
theorem dL_setBuying_2 : decode cL_setBuying 2 = .ok (.iload_n 2, 1) := by decide +kernel
theorem dL_setBuying_3 : decode cL_setBuying 3 = .ok (.invokevirtual 38, 3) := by decide +kernel
theorem dL_setBuying_6 : decode cL_setBuying 6 = .ok (.ifCond .eq 7, 3) := by decide +kernel
theorem dL_setBuying_9 : decode cL_setBuying 9 = .ok (.iconst 1, 1) := by decide +kernel
theorem dL_setBuying_10 : decode cL_setBuying 10 = .ok (.goto 4, 3) := by decide +kernel
theorem dL_setBuying_13 : decode cL_setBuying 13 = .ok (.iconst 0, 1) := by decide +kernel
theorem dL_setBuying_14 : decode cL_setBuying 14 = .ok (.ireturn, 1) := by decide +kernel
theorem dL_setBuying_15 : decode cL_setBuying 15 = .ok (.astore_n 3, 1) := by decide +kernel
theorem dL_setBuying_16 : decode cL_setBuying 16 = .ok (.ldc 16, 2) := by decide +kernel
theorem dL_setBuying_18 : decode cL_setBuying 18 = .ok (.ireturn, 1) := by decide +kernel
theorem dL_setCredit_0 : decode cL_setCredit 0 = .ok (.aload_n 0, 1) := by decide +kernel
theorem dL_setCredit_1 : decode cL_setCredit 1 = .ok (.iload_n 1, 1) := by decide +kernel
theorem dL_setCredit_2 : decode cL_setCredit 2 = .ok (.iload_n 2, 1) := by decide +kernel
theorem dL_setCredit_3 : decode cL_setCredit 3 = .ok (.iload_n 3, 1) := by decide +kernel
theorem dL_setCredit_4 : decode cL_setCredit 4 = .ok (.invokevirtual 42, 3) := by decide +kernel
theorem dL_setCredit_7 : decode cL_setCredit 7 = .ok (.ireturn, 1) := by decide +kernel
theorem dL_setCredit_8 : decode cL_setCredit 8 = .ok (.astore 4, 2) := by decide +kernel
theorem dL_setCredit_10 : decode cL_setCredit 10 = .ok (.ldc 16, 2) := by decide +kernel
theorem dL_setCredit_12 : decode cL_setCredit 12 = .ok (.ireturn, 1) := by decide +kernel
theorem dL_payBack_0 : decode cL_payBack 0 = .ok (.aload_n 0, 1) := by decide +kernel
theorem dL_payBack_1 : decode cL_payBack 1 = .ok (.iload_n 1, 1) := by decide +kernel
theorem dL_payBack_2 : decode cL_payBack 2 = .ok (.iload_n 2, 1) := by decide +kernel
theorem dL_payBack_3 : decode cL_payBack 3 = .ok (.iload_n 3, 1) := by decide +kernel
theorem dL_payBack_4 : decode cL_payBack 4 = .ok (.invokevirtual 46, 3) := by decide +kernel
theorem dL_payBack_7 : decode cL_payBack 7 = .ok (.ireturn, 1) := by decide +kernel
theorem dL_payBack_8 : decode cL_payBack 8 = .ok (.astore 4, 2) := by decide +kernel
theorem dL_payBack_10 : decode cL_payBack 10 = .ok (.ldc 16, 2) := by decide +kernel
theorem dL_payBack_12 : decode cL_payBack 12 = .ok (.ireturn, 1) := by decide +kernel
theorem dL_payBack_13 : decode cL_payBack 13 = .ok (.astore 4, 2) := by decide +kernel
theorem dL_payBack_15 : decode cL_payBack 15 = .ok (.ldc 16, 2) := by decide +kernel
theorem dL_payBack_17 : decode cL_payBack 17 = .ok (.ireturn, 1) := by decide +kernel
theorem dL_order_0 : decode cL_order 0 = .ok (.aload_n 0, 1) := by decide +kernel
theorem dL_order_1 : decode cL_order 1 = .ok (.iload_n 1, 1) := by decide +kernel
theorem dL_order_2 : decode cL_order 2 = .ok (.iload_n 2, 1) := by decide +kernel
theorem dL_order_3 : decode cL_order 3 = .ok (.iload_n 3, 1) := by decide +kernel
theorem dL_order_4 : decode cL_order 4 = .ok (.iload 4, 2) := by decide +kernel
theorem dL_order_6 : decode cL_order 6 = .ok (.invokevirtual 49, 3) := by decide +kernel
theorem dL_order_9 : decode cL_order 9 = .ok (.ireturn, 1) := by decide +kernel
theorem dL_order_10 : decode cL_order 10 = .ok (.astore 5, 2) := by decide +kernel
theorem dL_order_12 : decode cL_order 12 = .ok (.ldc 16, 2) := by decide +kernel
theorem dL_order_14 : decode cL_order 14 = .ok (.ireturn, 1) := by decide +kernel
theorem dL_order_15 : decode cL_order 15 = .ok (.astore 5, 2) := by decide +kernel
theorem dL_order_17 : decode cL_order 17 = .ok (.ldc 16, 2) := by decide +kernel
theorem dL_order_19 : decode cL_order 19 = .ok (.ireturn, 1) := by decide +kernel
theorem dL_pass_0 : decode cL_pass 0 = .ok (.aload_n 0, 1) := by decide +kernel
theorem dL_pass_1 : decode cL_pass 1 = .ok (.iload_n 1, 1) := by decide +kernel
theorem dL_pass_2 : decode cL_pass 2 = .ok (.invokevirtual 53, 3) := by decide +kernel
theorem dL_pass_5 : decode cL_pass 5 = .ok (.ireturn, 1) := by decide +kernel
theorem dL_pass_6 : decode cL_pass 6 = .ok (.astore_n 2, 1) := by decide +kernel
theorem dL_pass_7 : decode cL_pass 7 = .ok (.ldc 16, 2) := by decide +kernel
theorem dL_pass_9 : decode cL_pass 9 = .ok (.ireturn, 1) := by decide +kernel
theorem dL_pass_10 : decode cL_pass 10 = .ok (.astore_n 2, 1) := by decide +kernel
theorem dL_pass_11 : decode cL_pass 11 = .ok (.ldc 16, 2) := by decide +kernel
theorem dL_pass_13 : decode cL_pass 13 = .ok (.ireturn, 1) := by decide +kernel
theorem dL_takeUp_0 : decode cL_takeUp 0 = .ok (.aload_n 0, 1) := by decide +kernel
theorem dL_takeUp_1 : decode cL_takeUp 1 = .ok (.iload_n 1, 1) := by decide +kernel
theorem dL_takeUp_2 : decode cL_takeUp 2 = .ok (.iload_n 2, 1) := by decide +kernel
theorem dL_takeUp_3 : decode cL_takeUp 3 = .ok (.invokevirtual 56, 3) := by decide +kernel
theorem dL_takeUp_6 : decode cL_takeUp 6 = .ok (.ireturn, 1) := by decide +kernel
theorem dL_takeUp_7 : decode cL_takeUp 7 = .ok (.astore_n 3, 1) := by decide +kernel
theorem dL_takeUp_8 : decode cL_takeUp 8 = .ok (.ldc 16, 2) := by decide +kernel
theorem dL_takeUp_10 : decode cL_takeUp 10 = .ok (.ireturn, 1) := by decide +kernel
theorem dL_takeUp_11 : decode cL_takeUp 11 = .ok (.astore_n 3, 1) := by decide +kernel
theorem dL_takeUp_12 : decode cL_takeUp 12 = .ok (.ldc 16, 2) := by decide +kernel
theorem dL_takeUp_14 : decode cL_takeUp 14 = .ok (.ireturn, 1) := by decide +kernel
theorem dL_takeUp_15 : decode cL_takeUp 15 = .ok (.astore_n 3, 1) := by decide +kernel
theorem dL_takeUp_16 : decode cL_takeUp 16 = .ok (.ldc 16, 2) := by decide +kernel
theorem dL_takeUp_18 : decode cL_takeUp 18 = .ok (.ireturn, 1) := by decide +kernel
theorem dL_sayName_0 : decode cL_sayName 0 = .ok (.iconst 1, 1) := by decide +kernel
theorem dL_sayName_1 : decode cL_sayName 1 = .ok (.istore_n 3, 1) := by decide +kernel
theorem dL_sayName_2 : decode cL_sayName 2 = .ok (.aload_n 0, 1) := by decide +kernel
theorem dL_sayName_3 : decode cL_sayName 3 = .ok (.iload_n 1, 1) := by decide +kernel
theorem dL_sayName_4 : decode cL_sayName 4 = .ok (.bipush 32, 2) := by decide +kernel
theorem dL_sayName_6 : decode cL_sayName 6 = .ok (.invokevirtual 8, 3) := by decide +kernel
theorem dL_sayName_9 : decode cL_sayName 9 = .ok (.istore 4, 2) := by decide +kernel
theorem dL_sayName_11 : decode cL_sayName 11 = .ok (.iload_n 3, 1) := by decide +kernel
theorem dL_sayName_12 : decode cL_sayName 12 = .ok (.iload_n 2, 1) := by decide +kernel
theorem dL_sayName_13 : decode cL_sayName 13 = .ok (.bipush 27, 2) := by decide +kernel
theorem dL_sayName_15 : decode cL_sayName 15 = .ok (.idiv, 1) := by decide +kernel
theorem dL_sayName_16 : decode cL_sayName 16 = .ok (.if_icmp .gt 11, 3) := by decide +kernel
theorem dL_sayName_19 : decode cL_sayName 19 = .ok (.iload_n 3, 1) := by decide +kernel
theorem dL_sayName_20 : decode cL_sayName 20 = .ok (.bipush 27, 2) := by decide +kernel
theorem dL_sayName_22 : decode cL_sayName 22 = .ok (.imul, 1) := by decide +kernel
theorem dL_sayName_23 : decode cL_sayName 23 = .ok (.istore_n 3, 1) := by decide +kernel
theorem dL_sayName_24 : decode cL_sayName 24 = .ok (.goto (-13), 3) := by decide +kernel
theorem dL_sayName_27 : decode cL_sayName 27 = .ok (.iload_n 2, 1) := by decide +kernel
theorem dL_sayName_28 : decode cL_sayName 28 = .ok (.istore 5, 2) := by decide +kernel
theorem dL_sayName_30 : decode cL_sayName 30 = .ok (.iload_n 3, 1) := by decide +kernel
theorem dL_sayName_31 : decode cL_sayName 31 = .ok (.ifCond .le 31, 3) := by decide +kernel
theorem dL_sayName_34 : decode cL_sayName 34 = .ok (.aload_n 0, 1) := by decide +kernel
theorem dL_sayName_35 : decode cL_sayName 35 = .ok (.iload_n 1, 1) := by decide +kernel
theorem dL_sayName_36 : decode cL_sayName 36 = .ok (.bipush 96, 2) := by decide +kernel
theorem dL_sayName_38 : decode cL_sayName 38 = .ok (.iload 5, 2) := by decide +kernel
theorem dL_sayName_40 : decode cL_sayName 40 = .ok (.iload_n 3, 1) := by decide +kernel
theorem dL_sayName_41 : decode cL_sayName 41 = .ok (.idiv, 1) := by decide +kernel
theorem dL_sayName_42 : decode cL_sayName 42 = .ok (.iadd, 1) := by decide +kernel
theorem dL_sayName_43 : decode cL_sayName 43 = .ok (.invokevirtual 8, 3) := by decide +kernel
theorem dL_sayName_46 : decode cL_sayName 46 = .ok (.istore 4, 2) := by decide +kernel
theorem dL_sayName_48 : decode cL_sayName 48 = .ok (.iload 5, 2) := by decide +kernel
theorem dL_sayName_50 : decode cL_sayName 50 = .ok (.iload_n 3, 1) := by decide +kernel
theorem dL_sayName_51 : decode cL_sayName 51 = .ok (.irem, 1) := by decide +kernel
theorem dL_sayName_52 : decode cL_sayName 52 = .ok (.istore 5, 2) := by decide +kernel
theorem dL_sayName_54 : decode cL_sayName 54 = .ok (.iload_n 3, 1) := by decide +kernel
theorem dL_sayName_55 : decode cL_sayName 55 = .ok (.bipush 27, 2) := by decide +kernel
theorem dL_sayName_57 : decode cL_sayName 57 = .ok (.idiv, 1) := by decide +kernel
theorem dL_sayName_58 : decode cL_sayName 58 = .ok (.istore_n 3, 1) := by decide +kernel
theorem dL_sayName_59 : decode cL_sayName 59 = .ok (.goto (-29), 3) := by decide +kernel
theorem dL_sayName_62 : decode cL_sayName 62 = .ok (.iload 4, 2) := by decide +kernel
theorem dL_sayName_64 : decode cL_sayName 64 = .ok (.ireturn, 1) := by decide +kernel
theorem dL_sayNumber_0 : decode cL_sayNumber 0 = .ok (.aload_n 0, 1) := by decide +kernel
theorem dL_sayNumber_1 : decode cL_sayNumber 1 = .ok (.iload_n 1, 1) := by decide +kernel
theorem dL_sayNumber_2 : decode cL_sayNumber 2 = .ok (.bipush 32, 2) := by decide +kernel
theorem dL_sayNumber_4 : decode cL_sayNumber 4 = .ok (.invokevirtual 8, 3) := by decide +kernel
theorem dL_sayNumber_7 : decode cL_sayNumber 7 = .ok (.istore_n 3, 1) := by decide +kernel
theorem dL_sayNumber_8 : decode cL_sayNumber 8 = .ok (.iload_n 2, 1) := by decide +kernel
theorem dL_sayNumber_9 : decode cL_sayNumber 9 = .ok (.ifCond .ge 13, 3) := by decide +kernel
theorem dL_sayNumber_12 : decode cL_sayNumber 12 = .ok (.aload_n 0, 1) := by decide +kernel
theorem dL_sayNumber_13 : decode cL_sayNumber 13 = .ok (.iload_n 1, 1) := by decide +kernel
theorem dL_sayNumber_14 : decode cL_sayNumber 14 = .ok (.bipush 45, 2) := by decide +kernel
theorem dL_sayNumber_16 : decode cL_sayNumber 16 = .ok (.invokevirtual 8, 3) := by decide +kernel
theorem dL_sayNumber_19 : decode cL_sayNumber 19 = .ok (.goto 4, 3) := by decide +kernel
theorem dL_sayNumber_22 : decode cL_sayNumber 22 = .ok (.iload_n 3, 1) := by decide +kernel
theorem dL_sayNumber_23 : decode cL_sayNumber 23 = .ok (.istore_n 3, 1) := by decide +kernel
theorem dL_sayNumber_24 : decode cL_sayNumber 24 = .ok (.iload_n 2, 1) := by decide +kernel
theorem dL_sayNumber_25 : decode cL_sayNumber 25 = .ok (.ifCond .ge 8, 3) := by decide +kernel
theorem dL_sayNumber_28 : decode cL_sayNumber 28 = .ok (.iload_n 2, 1) := by decide +kernel
theorem dL_sayNumber_29 : decode cL_sayNumber 29 = .ok (.ineg, 1) := by decide +kernel
theorem dL_sayNumber_30 : decode cL_sayNumber 30 = .ok (.goto 4, 3) := by decide +kernel
theorem dL_sayNumber_33 : decode cL_sayNumber 33 = .ok (.iload_n 2, 1) := by decide +kernel
theorem dL_sayNumber_34 : decode cL_sayNumber 34 = .ok (.istore 4, 2) := by decide +kernel
theorem dL_sayNumber_36 : decode cL_sayNumber 36 = .ok (.iload 4, 2) := by decide +kernel
theorem dL_sayNumber_38 : decode cL_sayNumber 38 = .ok (.bipush 9, 2) := by decide +kernel
theorem dL_sayNumber_40 : decode cL_sayNumber 40 = .ok (.if_icmp .le 19, 3) := by decide +kernel
theorem dL_sayNumber_43 : decode cL_sayNumber 43 = .ok (.aload_n 0, 1) := by decide +kernel
theorem dL_sayNumber_44 : decode cL_sayNumber 44 = .ok (.iload_n 1, 1) := by decide +kernel
theorem dL_sayNumber_45 : decode cL_sayNumber 45 = .ok (.bipush 48, 2) := by decide +kernel
theorem dL_sayNumber_47 : decode cL_sayNumber 47 = .ok (.iload 4, 2) := by decide +kernel
theorem dL_sayNumber_49 : decode cL_sayNumber 49 = .ok (.bipush 10, 2) := by decide +kernel
theorem dL_sayNumber_51 : decode cL_sayNumber 51 = .ok (.idiv, 1) := by decide +kernel
theorem dL_sayNumber_52 : decode cL_sayNumber 52 = .ok (.iadd, 1) := by decide +kernel
theorem dL_sayNumber_53 : decode cL_sayNumber 53 = .ok (.invokevirtual 8, 3) := by decide +kernel
theorem dL_sayNumber_56 : decode cL_sayNumber 56 = .ok (.goto 4, 3) := by decide +kernel
theorem dL_sayNumber_59 : decode cL_sayNumber 59 = .ok (.iload_n 3, 1) := by decide +kernel
theorem dL_sayNumber_60 : decode cL_sayNumber 60 = .ok (.istore_n 3, 1) := by decide +kernel
theorem dL_sayNumber_61 : decode cL_sayNumber 61 = .ok (.aload_n 0, 1) := by decide +kernel
theorem dL_sayNumber_62 : decode cL_sayNumber 62 = .ok (.iload_n 1, 1) := by decide +kernel
theorem dL_sayNumber_63 : decode cL_sayNumber 63 = .ok (.bipush 48, 2) := by decide +kernel
theorem dL_sayNumber_65 : decode cL_sayNumber 65 = .ok (.iload 4, 2) := by decide +kernel
theorem dL_sayNumber_67 : decode cL_sayNumber 67 = .ok (.bipush 10, 2) := by decide +kernel
theorem dL_sayNumber_69 : decode cL_sayNumber 69 = .ok (.irem, 1) := by decide +kernel
theorem dL_sayNumber_70 : decode cL_sayNumber 70 = .ok (.iadd, 1) := by decide +kernel
theorem dL_sayNumber_71 : decode cL_sayNumber 71 = .ok (.invokevirtual 8, 3) := by decide +kernel
theorem dL_sayNumber_74 : decode cL_sayNumber 74 = .ok (.ireturn, 1) := by decide +kernel
theorem dL_named_0 : decode cL_named 0 = .ok (.iload_n 0, 1) := by decide +kernel
theorem dL_named_1 : decode cL_named 1 = .ok (.iconst 2, 1) := by decide +kernel
theorem dL_named_2 : decode cL_named 2 = .ok (.if_icmp .ge 8, 3) := by decide +kernel
theorem dL_named_5 : decode cL_named 5 = .ok (.ldc 61, 2) := by decide +kernel
theorem dL_named_7 : decode cL_named 7 = .ok (.goto 72, 3) := by decide +kernel
theorem dL_named_10 : decode cL_named 10 = .ok (.iload_n 0, 1) := by decide +kernel
theorem dL_named_11 : decode cL_named 11 = .ok (.iconst 2, 1) := by decide +kernel
theorem dL_named_12 : decode cL_named 12 = .ok (.if_icmp .ne 9, 3) := by decide +kernel
theorem dL_named_15 : decode cL_named 15 = .ok (.sipush 12251, 3) := by decide +kernel
theorem dL_named_18 : decode cL_named 18 = .ok (.goto 61, 3) := by decide +kernel
theorem dL_named_21 : decode cL_named 21 = .ok (.iload_n 0, 1) := by decide +kernel
theorem dL_named_22 : decode cL_named 22 = .ok (.iconst 3, 1) := by decide +kernel
theorem dL_named_23 : decode cL_named 23 = .ok (.if_icmp .ne 9, 3) := by decide +kernel
theorem dL_named_26 : decode cL_named 26 = .ok (.sipush 841, 3) := by decide +kernel
theorem dL_named_29 : decode cL_named 29 = .ok (.goto 50, 3) := by decide +kernel
theorem dL_named_32 : decode cL_named 32 = .ok (.iload_n 0, 1) := by decide +kernel
theorem dL_named_33 : decode cL_named 33 = .ok (.iconst 4, 1) := by decide +kernel
theorem dL_named_34 : decode cL_named 34 = .ok (.if_icmp .ne 9, 3) := by decide +kernel
theorem dL_named_37 : decode cL_named 37 = .ok (.sipush 3181, 3) := by decide +kernel
theorem dL_named_40 : decode cL_named 40 = .ok (.goto 39, 3) := by decide +kernel
theorem dL_named_43 : decode cL_named 43 = .ok (.iload_n 0, 1) := by decide +kernel
theorem dL_named_44 : decode cL_named 44 = .ok (.iconst 5, 1) := by decide +kernel
theorem dL_named_45 : decode cL_named 45 = .ok (.if_icmp .ne 9, 3) := by decide +kernel
theorem dL_named_48 : decode cL_named 48 = .ok (.sipush 14420, 3) := by decide +kernel
theorem dL_named_51 : decode cL_named 51 = .ok (.goto 28, 3) := by decide +kernel
theorem dL_named_54 : decode cL_named 54 = .ok (.iload_n 0, 1) := by decide +kernel
theorem dL_named_55 : decode cL_named 55 = .ok (.bipush 6, 2) := by decide +kernel
theorem dL_named_57 : decode cL_named 57 = .ok (.if_icmp .ne 9, 3) := by decide +kernel
theorem dL_named_60 : decode cL_named 60 = .ok (.sipush 1111, 3) := by decide +kernel
theorem dL_named_63 : decode cL_named 63 = .ok (.goto 16, 3) := by decide +kernel
theorem dL_named_66 : decode cL_named 66 = .ok (.iload_n 0, 1) := by decide +kernel
theorem dL_named_67 : decode cL_named 67 = .ok (.bipush 7, 2) := by decide +kernel
theorem dL_named_69 : decode cL_named 69 = .ok (.if_icmp .ne 8, 3) := by decide +kernel
theorem dL_named_72 : decode cL_named 72 = .ok (.ldc 62, 2) := by decide +kernel
theorem dL_named_74 : decode cL_named 74 = .ok (.goto 5, 3) := by decide +kernel
theorem dL_named_77 : decode cL_named 77 = .ok (.ldc 63, 2) := by decide +kernel
theorem dL_named_79 : decode cL_named 79 = .ok (.ireturn, 1) := by decide +kernel
theorem dL_say_0 : decode cL_say 0 = .ok (.aload_n 0, 1) := by decide +kernel
theorem dL_say_1 : decode cL_say 1 = .ok (.iload_n 1, 1) := by decide +kernel
theorem dL_say_2 : decode cL_say 2 = .ok (.invokevirtual 64, 3) := by decide +kernel
theorem dL_say_5 : decode cL_say 5 = .ok (.bipush 80, 2) := by decide +kernel
theorem dL_say_7 : decode cL_say 7 = .ok (.if_icmp .le 9, 3) := by decide +kernel
theorem dL_say_10 : decode cL_say 10 = .ok (.aload_n 0, 1) := by decide +kernel
theorem dL_say_11 : decode cL_say 11 = .ok (.iload_n 1, 1) := by decide +kernel
theorem dL_say_12 : decode cL_say 12 = .ok (.invokevirtual 64, 3) := by decide +kernel
theorem dL_say_15 : decode cL_say 15 = .ok (.ireturn, 1) := by decide +kernel
theorem dL_say_16 : decode cL_say 16 = .ok (.iload_n 2, 1) := by decide +kernel
theorem dL_say_17 : decode cL_say 17 = .ok (.bipush 9, 2) := by decide +kernel
theorem dL_say_19 : decode cL_say 19 = .ok (.invokestatic 67, 3) := by decide +kernel
theorem dL_say_22 : decode cL_say 22 = .ok (.istore_n 3, 1) := by decide +kernel
theorem dL_say_23 : decode cL_say 23 = .ok (.aload_n 0, 1) := by decide +kernel
theorem dL_say_24 : decode cL_say 24 = .ok (.iload_n 1, 1) := by decide +kernel
theorem dL_say_25 : decode cL_say 25 = .ok (.bipush 40, 2) := by decide +kernel
theorem dL_say_27 : decode cL_say 27 = .ok (.invokevirtual 8, 3) := by decide +kernel
theorem dL_say_30 : decode cL_say 30 = .ok (.istore 4, 2) := by decide +kernel
theorem dL_say_32 : decode cL_say 32 = .ok (.aload_n 0, 1) := by decide +kernel
theorem dL_say_33 : decode cL_say 33 = .ok (.iload_n 1, 1) := by decide +kernel
theorem dL_say_34 : decode cL_say 34 = .ok (.iload_n 3, 1) := by decide +kernel
theorem dL_say_35 : decode cL_say 35 = .ok (.invokestatic 72, 3) := by decide +kernel
theorem dL_say_38 : decode cL_say 38 = .ok (.invokestatic 75, 3) := by decide +kernel
theorem dL_say_41 : decode cL_say 41 = .ok (.istore 4, 2) := by decide +kernel
theorem dL_say_43 : decode cL_say 43 = .ok (.iload_n 3, 1) := by decide +kernel
theorem dL_say_44 : decode cL_say 44 = .ok (.iconst 3, 1) := by decide +kernel
theorem dL_say_45 : decode cL_say 45 = .ok (.if_icmp .ge 20, 3) := by decide +kernel
theorem dL_say_48 : decode cL_say 48 = .ok (.aload_n 0, 1) := by decide +kernel
theorem dL_say_49 : decode cL_say 49 = .ok (.iload_n 1, 1) := by decide +kernel
theorem dL_say_50 : decode cL_say 50 = .ok (.iconst 1, 1) := by decide +kernel
theorem dL_say_51 : decode cL_say 51 = .ok (.iload_n 2, 1) := by decide +kernel
theorem dL_say_52 : decode cL_say 52 = .ok (.iconst 4, 1) := by decide +kernel
theorem dL_say_53 : decode cL_say 53 = .ok (.ishr, 1) := by decide +kernel
theorem dL_say_54 : decode cL_say 54 = .ok (.iconst 3, 1) := by decide +kernel
theorem dL_say_55 : decode cL_say 55 = .ok (.invokestatic 67, 3) := by decide +kernel
theorem dL_say_58 : decode cL_say 58 = .ok (.iadd, 1) := by decide +kernel
theorem dL_say_59 : decode cL_say 59 = .ok (.invokestatic 75, 3) := by decide +kernel
theorem dL_say_62 : decode cL_say 62 = .ok (.goto 18, 3) := by decide +kernel
theorem dL_say_65 : decode cL_say 65 = .ok (.aload_n 0, 1) := by decide +kernel
theorem dL_say_66 : decode cL_say 66 = .ok (.iload_n 1, 1) := by decide +kernel
theorem dL_say_67 : decode cL_say 67 = .ok (.iload_n 2, 1) := by decide +kernel
theorem dL_say_68 : decode cL_say 68 = .ok (.iconst 4, 1) := by decide +kernel
theorem dL_say_69 : decode cL_say 69 = .ok (.ishr, 1) := by decide +kernel
theorem dL_say_70 : decode cL_say 70 = .ok (.bipush 9, 2) := by decide +kernel
theorem dL_say_72 : decode cL_say 72 = .ok (.invokestatic 67, 3) := by decide +kernel
theorem dL_say_75 : decode cL_say 75 = .ok (.iconst 2, 1) := by decide +kernel
theorem dL_say_76 : decode cL_say 76 = .ok (.isub, 1) := by decide +kernel
theorem dL_say_77 : decode cL_say 77 = .ok (.invokestatic 79, 3) := by decide +kernel
theorem dL_say_80 : decode cL_say 80 = .ok (.istore 4, 2) := by decide +kernel
theorem dL_say_82 : decode cL_say 82 = .ok (.iload_n 2, 1) := by decide +kernel
theorem dL_say_83 : decode cL_say 83 = .ok (.bipush 8, 2) := by decide +kernel
theorem dL_say_85 : decode cL_say 85 = .ok (.ishr, 1) := by decide +kernel
theorem dL_say_86 : decode cL_say 86 = .ok (.iconst 3, 1) := by decide +kernel
theorem dL_say_87 : decode cL_say 87 = .ok (.invokestatic 67, 3) := by decide +kernel
theorem dL_say_90 : decode cL_say 90 = .ok (.ifCond .ne 7, 3) := by decide +kernel
theorem dL_say_93 : decode cL_say 93 = .ok (.iconst 1, 1) := by decide +kernel
theorem dL_say_94 : decode cL_say 94 = .ok (.goto 4, 3) := by decide +kernel
theorem dL_say_97 : decode cL_say 97 = .ok (.iconst 0, 1) := by decide +kernel
theorem dL_say_98 : decode cL_say 98 = .ok (.istore 5, 2) := by decide +kernel
theorem dL_say_100 : decode cL_say 100 = .ok (.iload 5, 2) := by decide +kernel
theorem dL_say_102 : decode cL_say 102 = .ok (.ifCond .eq 13, 3) := by decide +kernel
theorem dL_say_105 : decode cL_say 105 = .ok (.aload_n 0, 1) := by decide +kernel
theorem dL_say_106 : decode cL_say 106 = .ok (.iload_n 1, 1) := by decide +kernel
theorem dL_say_107 : decode cL_say 107 = .ok (.bipush 40, 2) := by decide +kernel
theorem dL_say_109 : decode cL_say 109 = .ok (.invokevirtual 8, 3) := by decide +kernel
theorem dL_say_112 : decode cL_say 112 = .ok (.goto 5, 3) := by decide +kernel
theorem dL_say_115 : decode cL_say 115 = .ok (.iload 4, 2) := by decide +kernel
theorem dL_say_117 : decode cL_say 117 = .ok (.istore 4, 2) := by decide +kernel
theorem dL_say_119 : decode cL_say 119 = .ok (.iload 5, 2) := by decide +kernel
theorem dL_say_121 : decode cL_say 121 = .ok (.ifCond .eq 30, 3) := by decide +kernel
theorem dL_say_124 : decode cL_say 124 = .ok (.aload_n 0, 1) := by decide +kernel
theorem dL_say_125 : decode cL_say 125 = .ok (.iload_n 1, 1) := by decide +kernel
theorem dL_say_126 : decode cL_say 126 = .ok (.iload_n 2, 1) := by decide +kernel
theorem dL_say_127 : decode cL_say 127 = .ok (.bipush 10, 2) := by decide +kernel
theorem dL_say_129 : decode cL_say 129 = .ok (.ishr, 1) := by decide +kernel
theorem dL_say_130 : decode cL_say 130 = .ok (.iconst 2, 1) := by decide +kernel
theorem dL_say_131 : decode cL_say 131 = .ok (.invokestatic 67, 3) := by decide +kernel
theorem dL_say_134 : decode cL_say 134 = .ok (.ifCond .ne 9, 3) := by decide +kernel
theorem dL_say_137 : decode cL_say 137 = .ok (.sipush 841, 3) := by decide +kernel
theorem dL_say_140 : decode cL_say 140 = .ok (.goto 5, 3) := by decide +kernel
theorem dL_say_143 : decode cL_say 143 = .ok (.ldc 61, 2) := by decide +kernel
theorem dL_say_145 : decode cL_say 145 = .ok (.invokestatic 75, 3) := by decide +kernel
theorem dL_say_148 : decode cL_say 148 = .ok (.goto 5, 3) := by decide +kernel
theorem dL_say_151 : decode cL_say 151 = .ok (.iload 4, 2) := by decide +kernel
theorem dL_say_153 : decode cL_say 153 = .ok (.istore 4, 2) := by decide +kernel
theorem dL_say_155 : decode cL_say 155 = .ok (.iload 5, 2) := by decide +kernel
theorem dL_say_157 : decode cL_say 157 = .ok (.ifCond .eq 22, 3) := by decide +kernel
theorem dL_say_160 : decode cL_say 160 = .ok (.aload_n 0, 1) := by decide +kernel
theorem dL_say_161 : decode cL_say 161 = .ok (.iload_n 1, 1) := by decide +kernel
theorem dL_say_162 : decode cL_say 162 = .ok (.iconst 1, 1) := by decide +kernel
theorem dL_say_163 : decode cL_say 163 = .ok (.iload_n 2, 1) := by decide +kernel
theorem dL_say_164 : decode cL_say 164 = .ok (.bipush 12, 2) := by decide +kernel
theorem dL_say_166 : decode cL_say 166 = .ok (.ishr, 1) := by decide +kernel
theorem dL_say_167 : decode cL_say 167 = .ok (.bipush 9, 2) := by decide +kernel
theorem dL_say_169 : decode cL_say 169 = .ok (.invokestatic 67, 3) := by decide +kernel
theorem dL_say_172 : decode cL_say 172 = .ok (.iadd, 1) := by decide +kernel
theorem dL_say_173 : decode cL_say 173 = .ok (.invokestatic 75, 3) := by decide +kernel
theorem dL_say_176 : decode cL_say 176 = .ok (.goto 5, 3) := by decide +kernel
theorem dL_say_179 : decode cL_say 179 = .ok (.iload 4, 2) := by decide +kernel
theorem dL_say_181 : decode cL_say 181 = .ok (.istore 4, 2) := by decide +kernel
theorem dL_say_183 : decode cL_say 183 = .ok (.aload_n 0, 1) := by decide +kernel
theorem dL_say_184 : decode cL_say 184 = .ok (.iload_n 1, 1) := by decide +kernel
theorem dL_say_185 : decode cL_say 185 = .ok (.iload_n 2, 1) := by decide +kernel
theorem dL_say_186 : decode cL_say 186 = .ok (.bipush 13, 2) := by decide +kernel
theorem dL_say_188 : decode cL_say 188 = .ok (.ishr, 1) := by decide +kernel
theorem dL_say_189 : decode cL_say 189 = .ok (.bipush 15, 2) := by decide +kernel
theorem dL_say_191 : decode cL_say 191 = .ok (.invokestatic 67, 3) := by decide +kernel
theorem dL_say_194 : decode cL_say 194 = .ok (.iconst 1, 1) := by decide +kernel
theorem dL_say_195 : decode cL_say 195 = .ok (.isub, 1) := by decide +kernel
theorem dL_say_196 : decode cL_say 196 = .ok (.invokestatic 79, 3) := by decide +kernel
theorem dL_say_199 : decode cL_say 199 = .ok (.istore 4, 2) := by decide +kernel
theorem dL_say_201 : decode cL_say 201 = .ok (.iload 5, 2) := by decide +kernel
theorem dL_say_203 : decode cL_say 203 = .ok (.ifCond .eq 13, 3) := by decide +kernel
theorem dL_say_206 : decode cL_say 206 = .ok (.aload_n 0, 1) := by decide +kernel
theorem dL_say_207 : decode cL_say 207 = .ok (.iload_n 1, 1) := by decide +kernel
theorem dL_say_208 : decode cL_say 208 = .ok (.bipush 41, 2) := by decide +kernel
theorem dL_say_210 : decode cL_say 210 = .ok (.invokevirtual 8, 3) := by decide +kernel
theorem dL_say_213 : decode cL_say 213 = .ok (.goto 5, 3) := by decide +kernel
theorem dL_say_216 : decode cL_say 216 = .ok (.iload 4, 2) := by decide +kernel
theorem dL_say_218 : decode cL_say 218 = .ok (.istore 4, 2) := by decide +kernel
theorem dL_say_220 : decode cL_say 220 = .ok (.aload_n 0, 1) := by decide +kernel
theorem dL_say_221 : decode cL_say 221 = .ok (.iload_n 1, 1) := by decide +kernel
theorem dL_say_222 : decode cL_say 222 = .ok (.bipush 41, 2) := by decide +kernel
theorem dL_say_224 : decode cL_say 224 = .ok (.invokevirtual 8, 3) := by decide +kernel
theorem dL_say_227 : decode cL_say 227 = .ok (.ireturn, 1) := by decide +kernel
theorem dL_act_0 : decode cL_act 0 = .ok (.iload_n 1, 1) := by decide +kernel
theorem dL_act_1 : decode cL_act 1 = .ok (.bipush 24, 2) := by decide +kernel
theorem dL_act_3 : decode cL_act 3 = .ok (.ishr, 1) := by decide +kernel
theorem dL_act_4 : decode cL_act 4 = .ok (.bipush 9, 2) := by decide +kernel
theorem dL_act_6 : decode cL_act 6 = .ok (.invokestatic 67, 3) := by decide +kernel
theorem dL_act_9 : decode cL_act 9 = .ok (.ifCond .ne 7, 3) := by decide +kernel
theorem dL_act_12 : decode cL_act 12 = .ok (.iconst 1, 1) := by decide +kernel
theorem dL_act_13 : decode cL_act 13 = .ok (.goto 4, 3) := by decide +kernel
theorem dL_act_16 : decode cL_act 16 = .ok (.iconst 0, 1) := by decide +kernel
theorem dL_act_17 : decode cL_act 17 = .ok (.istore_n 2, 1) := by decide +kernel
theorem dL_act_18 : decode cL_act 18 = .ok (.iload_n 2, 1) := by decide +kernel
theorem dL_act_19 : decode cL_act 19 = .ok (.ifCond .eq 16, 3) := by decide +kernel
theorem dL_act_22 : decode cL_act 22 = .ok (.iload_n 1, 1) := by decide +kernel
theorem dL_act_23 : decode cL_act 23 = .ok (.iconst 4, 1) := by decide +kernel
theorem dL_act_24 : decode cL_act 24 = .ok (.ishr, 1) := by decide +kernel
theorem dL_act_25 : decode cL_act 25 = .ok (.bipush 10, 2) := by decide +kernel
theorem dL_act_27 : decode cL_act 27 = .ok (.invokestatic 67, 3) := by decide +kernel
theorem dL_act_30 : decode cL_act 30 = .ok (.iconst 1, 1) := by decide +kernel
theorem dL_act_31 : decode cL_act 31 = .ok (.isub, 1) := by decide +kernel
theorem dL_act_32 : decode cL_act 32 = .ok (.goto 10, 3) := by decide +kernel
theorem dL_act_35 : decode cL_act 35 = .ok (.iload_n 1, 1) := by decide +kernel
theorem dL_act_36 : decode cL_act 36 = .ok (.iconst 4, 1) := by decide +kernel
theorem dL_act_37 : decode cL_act 37 = .ok (.ishr, 1) := by decide +kernel
theorem dL_act_38 : decode cL_act 38 = .ok (.iconst 3, 1) := by decide +kernel
theorem dL_act_39 : decode cL_act 39 = .ok (.invokestatic 67, 3) := by decide +kernel
theorem dL_act_42 : decode cL_act 42 = .ok (.istore_n 3, 1) := by decide +kernel
theorem dL_act_43 : decode cL_act 43 = .ok (.iload_n 2, 1) := by decide +kernel
theorem dL_act_44 : decode cL_act 44 = .ok (.ifCond .eq 17, 3) := by decide +kernel
theorem dL_act_47 : decode cL_act 47 = .ok (.iload_n 1, 1) := by decide +kernel
theorem dL_act_48 : decode cL_act 48 = .ok (.bipush 7, 2) := by decide +kernel
theorem dL_act_50 : decode cL_act 50 = .ok (.ishr, 1) := by decide +kernel
theorem dL_act_51 : decode cL_act 51 = .ok (.bipush 6, 2) := by decide +kernel
theorem dL_act_53 : decode cL_act 53 = .ok (.invokestatic 67, 3) := by decide +kernel
theorem dL_act_56 : decode cL_act 56 = .ok (.iconst 1, 1) := by decide +kernel
theorem dL_act_57 : decode cL_act 57 = .ok (.isub, 1) := by decide +kernel
theorem dL_act_58 : decode cL_act 58 = .ok (.goto 11, 3) := by decide +kernel
theorem dL_act_61 : decode cL_act 61 = .ok (.iload_n 1, 1) := by decide +kernel
theorem dL_act_62 : decode cL_act 62 = .ok (.bipush 7, 2) := by decide +kernel
theorem dL_act_64 : decode cL_act 64 = .ok (.ishr, 1) := by decide +kernel
theorem dL_act_65 : decode cL_act 65 = .ok (.iconst 4, 1) := by decide +kernel
theorem dL_act_66 : decode cL_act 66 = .ok (.invokestatic 67, 3) := by decide +kernel
theorem dL_act_69 : decode cL_act 69 = .ok (.istore 4, 2) := by decide +kernel
theorem dL_act_71 : decode cL_act 71 = .ok (.iload_n 1, 1) := by decide +kernel
theorem dL_act_72 : decode cL_act 72 = .ok (.bipush 20, 2) := by decide +kernel
theorem dL_act_74 : decode cL_act 74 = .ok (.invokestatic 67, 3) := by decide +kernel
theorem dL_act_77 : decode cL_act 77 = .ok (.tableswitch 566 0 13 #[71, 146, 197, 232, 267, 299, 321, 364, 398, 398, 398, 464, 464, 495], 71) := by decide +kernel
theorem dL_act_148 : decode cL_act 148 = .ok (.aload_n 0, 1) := by decide +kernel
theorem dL_act_149 : decode cL_act 149 = .ok (.iload_n 3, 1) := by decide +kernel
theorem dL_act_150 : decode cL_act 150 = .ok (.iload_n 2, 1) := by decide +kernel
theorem dL_act_151 : decode cL_act 151 = .ok (.ifCond .eq 16, 3) := by decide +kernel
theorem dL_act_154 : decode cL_act 154 = .ok (.iload_n 1, 1) := by decide +kernel
theorem dL_act_155 : decode cL_act 155 = .ok (.bipush 7, 2) := by decide +kernel
theorem dL_act_157 : decode cL_act 157 = .ok (.ishr, 1) := by decide +kernel
theorem dL_act_158 : decode cL_act 158 = .ok (.sipush 130, 3) := by decide +kernel
theorem dL_act_161 : decode cL_act 161 = .ok (.invokestatic 67, 3) := by decide +kernel
theorem dL_act_164 : decode cL_act 164 = .ok (.goto 55, 3) := by decide +kernel
theorem dL_act_167 : decode cL_act 167 = .ok (.iload_n 1, 1) := by decide +kernel
theorem dL_act_168 : decode cL_act 168 = .ok (.bipush 7, 2) := by decide +kernel
theorem dL_act_170 : decode cL_act 170 = .ok (.ishr, 1) := by decide +kernel
theorem dL_act_171 : decode cL_act 171 = .ok (.iconst 4, 1) := by decide +kernel
theorem dL_act_172 : decode cL_act 172 = .ok (.invokestatic 67, 3) := by decide +kernel
theorem dL_act_175 : decode cL_act 175 = .ok (.ifCond .ne 8, 3) := by decide +kernel
theorem dL_act_178 : decode cL_act 178 = .ok (.bipush 32, 2) := by decide +kernel
theorem dL_act_180 : decode cL_act 180 = .ok (.goto 39, 3) := by decide +kernel
theorem dL_act_183 : decode cL_act 183 = .ok (.iload_n 1, 1) := by decide +kernel
theorem dL_act_184 : decode cL_act 184 = .ok (.bipush 7, 2) := by decide +kernel
theorem dL_act_186 : decode cL_act 186 = .ok (.ishr, 1) := by decide +kernel
theorem dL_act_187 : decode cL_act 187 = .ok (.iconst 4, 1) := by decide +kernel
theorem dL_act_188 : decode cL_act 188 = .ok (.invokestatic 67, 3) := by decide +kernel
theorem dL_act_191 : decode cL_act 191 = .ok (.iconst 1, 1) := by decide +kernel
theorem dL_act_192 : decode cL_act 192 = .ok (.if_icmp .ne 8, 3) := by decide +kernel
theorem dL_act_195 : decode cL_act 195 = .ok (.bipush 40, 2) := by decide +kernel
theorem dL_act_197 : decode cL_act 197 = .ok (.goto 22, 3) := by decide +kernel
theorem dL_act_200 : decode cL_act 200 = .ok (.iload_n 1, 1) := by decide +kernel
theorem dL_act_201 : decode cL_act 201 = .ok (.bipush 7, 2) := by decide +kernel
theorem dL_act_203 : decode cL_act 203 = .ok (.ishr, 1) := by decide +kernel
theorem dL_act_204 : decode cL_act 204 = .ok (.iconst 4, 1) := by decide +kernel
theorem dL_act_205 : decode cL_act 205 = .ok (.invokestatic 67, 3) := by decide +kernel
theorem dL_act_208 : decode cL_act 208 = .ok (.iconst 2, 1) := by decide +kernel
theorem dL_act_209 : decode cL_act 209 = .ok (.if_icmp .ne 8, 3) := by decide +kernel
theorem dL_act_212 : decode cL_act 212 = .ok (.bipush 41, 2) := by decide +kernel
theorem dL_act_214 : decode cL_act 214 = .ok (.goto 5, 3) := by decide +kernel
theorem dL_act_217 : decode cL_act 217 = .ok (.bipush 49, 2) := by decide +kernel
theorem dL_act_219 : decode cL_act 219 = .ok (.invokestatic 82, 3) := by decide +kernel
theorem dL_act_222 : decode cL_act 222 = .ok (.ireturn, 1) := by decide +kernel
theorem dL_act_223 : decode cL_act 223 = .ok (.aload_n 0, 1) := by decide +kernel
theorem dL_act_224 : decode cL_act 224 = .ok (.iload_n 3, 1) := by decide +kernel
theorem dL_act_225 : decode cL_act 225 = .ok (.iload_n 2, 1) := by decide +kernel
theorem dL_act_226 : decode cL_act 226 = .ok (.ifCond .eq 16, 3) := by decide +kernel
theorem dL_act_229 : decode cL_act 229 = .ok (.iload_n 1, 1) := by decide +kernel
theorem dL_act_230 : decode cL_act 230 = .ok (.bipush 7, 2) := by decide +kernel
theorem dL_act_232 : decode cL_act 232 = .ok (.ishr, 1) := by decide +kernel
theorem dL_act_233 : decode cL_act 233 = .ok (.iconst 5, 1) := by decide +kernel
theorem dL_act_234 : decode cL_act 234 = .ok (.invokestatic 67, 3) := by decide +kernel
theorem dL_act_237 : decode cL_act 237 = .ok (.iconst 1, 1) := by decide +kernel
theorem dL_act_238 : decode cL_act 238 = .ok (.isub, 1) := by decide +kernel
theorem dL_act_239 : decode cL_act 239 = .ok (.goto 31, 3) := by decide +kernel
theorem dL_act_242 : decode cL_act 242 = .ok (.iload_n 1, 1) := by decide +kernel
theorem dL_act_243 : decode cL_act 243 = .ok (.bipush 7, 2) := by decide +kernel
theorem dL_act_245 : decode cL_act 245 = .ok (.ishr, 1) := by decide +kernel
theorem dL_act_246 : decode cL_act 246 = .ok (.iconst 3, 1) := by decide +kernel
theorem dL_act_247 : decode cL_act 247 = .ok (.invokestatic 67, 3) := by decide +kernel
theorem dL_act_250 : decode cL_act 250 = .ok (.ifCond .ne 9, 3) := by decide +kernel
theorem dL_act_253 : decode cL_act 253 = .ok (.sipush 200, 3) := by decide +kernel
theorem dL_act_256 : decode cL_act 256 = .ok (.goto 14, 3) := by decide +kernel
theorem dL_act_259 : decode cL_act 259 = .ok (.iconst 1, 1) := by decide +kernel
theorem dL_act_260 : decode cL_act 260 = .ok (.iload_n 1, 1) := by decide +kernel
theorem dL_act_261 : decode cL_act 261 = .ok (.bipush 9, 2) := by decide +kernel
theorem dL_act_263 : decode cL_act 263 = .ok (.ishr, 1) := by decide +kernel
theorem dL_act_264 : decode cL_act 264 = .ok (.bipush 9, 2) := by decide +kernel
theorem dL_act_266 : decode cL_act 266 = .ok (.invokestatic 67, 3) := by decide +kernel
theorem dL_act_269 : decode cL_act 269 = .ok (.iadd, 1) := by decide +kernel
theorem dL_act_270 : decode cL_act 270 = .ok (.invokestatic 84, 3) := by decide +kernel
theorem dL_act_273 : decode cL_act 273 = .ok (.ireturn, 1) := by decide +kernel
theorem dL_act_274 : decode cL_act 274 = .ok (.aload_n 0, 1) := by decide +kernel
theorem dL_act_275 : decode cL_act 275 = .ok (.iload 4, 2) := by decide +kernel
theorem dL_act_277 : decode cL_act 277 = .ok (.iload_n 2, 1) := by decide +kernel
theorem dL_act_278 : decode cL_act 278 = .ok (.ifCond .eq 16, 3) := by decide +kernel
theorem dL_act_281 : decode cL_act 281 = .ok (.iload_n 1, 1) := by decide +kernel
theorem dL_act_282 : decode cL_act 282 = .ok (.bipush 9, 2) := by decide +kernel
theorem dL_act_284 : decode cL_act 284 = .ok (.ishr, 1) := by decide +kernel
theorem dL_act_285 : decode cL_act 285 = .ok (.sipush 1003, 3) := by decide +kernel
theorem dL_act_288 : decode cL_act 288 = .ok (.invokestatic 67, 3) := by decide +kernel
theorem dL_act_291 : decode cL_act 291 = .ok (.goto 14, 3) := by decide +kernel
theorem dL_act_294 : decode cL_act 294 = .ok (.iconst 1, 1) := by decide +kernel
theorem dL_act_295 : decode cL_act 295 = .ok (.iload_n 1, 1) := by decide +kernel
theorem dL_act_296 : decode cL_act 296 = .ok (.bipush 9, 2) := by decide +kernel
theorem dL_act_298 : decode cL_act 298 = .ok (.ishr, 1) := by decide +kernel
theorem dL_act_299 : decode cL_act 299 = .ok (.bipush 20, 2) := by decide +kernel
theorem dL_act_301 : decode cL_act 301 = .ok (.invokestatic 67, 3) := by decide +kernel
theorem dL_act_304 : decode cL_act 304 = .ok (.iadd, 1) := by decide +kernel
theorem dL_act_305 : decode cL_act 305 = .ok (.invokestatic 86, 3) := by decide +kernel
theorem dL_act_308 : decode cL_act 308 = .ok (.ireturn, 1) := by decide +kernel
theorem dL_act_309 : decode cL_act 309 = .ok (.aload_n 0, 1) := by decide +kernel
theorem dL_act_310 : decode cL_act 310 = .ok (.iload 4, 2) := by decide +kernel
theorem dL_act_312 : decode cL_act 312 = .ok (.iload_n 2, 1) := by decide +kernel
theorem dL_act_313 : decode cL_act 313 = .ok (.ifCond .eq 17, 3) := by decide +kernel
theorem dL_act_316 : decode cL_act 316 = .ok (.iload_n 1, 1) := by decide +kernel
theorem dL_act_317 : decode cL_act 317 = .ok (.bipush 9, 2) := by decide +kernel
theorem dL_act_319 : decode cL_act 319 = .ok (.ishr, 1) := by decide +kernel
theorem dL_act_320 : decode cL_act 320 = .ok (.bipush 30, 2) := by decide +kernel
theorem dL_act_322 : decode cL_act 322 = .ok (.invokestatic 67, 3) := by decide +kernel
theorem dL_act_325 : decode cL_act 325 = .ok (.iconst 1, 1) := by decide +kernel
theorem dL_act_326 : decode cL_act 326 = .ok (.isub, 1) := by decide +kernel
theorem dL_act_327 : decode cL_act 327 = .ok (.goto 13, 3) := by decide +kernel
theorem dL_act_330 : decode cL_act 330 = .ok (.iconst 1, 1) := by decide +kernel
theorem dL_act_331 : decode cL_act 331 = .ok (.iload_n 1, 1) := by decide +kernel
theorem dL_act_332 : decode cL_act 332 = .ok (.bipush 9, 2) := by decide +kernel
theorem dL_act_334 : decode cL_act 334 = .ok (.ishr, 1) := by decide +kernel
theorem dL_act_335 : decode cL_act 335 = .ok (.iconst 5, 1) := by decide +kernel
theorem dL_act_336 : decode cL_act 336 = .ok (.invokestatic 67, 3) := by decide +kernel
theorem dL_act_339 : decode cL_act 339 = .ok (.iadd, 1) := by decide +kernel
theorem dL_act_340 : decode cL_act 340 = .ok (.invokestatic 88, 3) := by decide +kernel
theorem dL_act_343 : decode cL_act 343 = .ok (.ireturn, 1) := by decide +kernel
theorem dL_act_344 : decode cL_act 344 = .ok (.aload_n 0, 1) := by decide +kernel
theorem dL_act_345 : decode cL_act 345 = .ok (.iload_n 2, 1) := by decide +kernel
theorem dL_act_346 : decode cL_act 346 = .ok (.ifCond .eq 17, 3) := by decide +kernel
theorem dL_act_349 : decode cL_act 349 = .ok (.iload_n 1, 1) := by decide +kernel
theorem dL_act_350 : decode cL_act 350 = .ok (.bipush 9, 2) := by decide +kernel
theorem dL_act_352 : decode cL_act 352 = .ok (.ishr, 1) := by decide +kernel
theorem dL_act_353 : decode cL_act 353 = .ok (.bipush 103, 2) := by decide +kernel
theorem dL_act_355 : decode cL_act 355 = .ok (.invokestatic 67, 3) := by decide +kernel
theorem dL_act_358 : decode cL_act 358 = .ok (.iconst 1, 1) := by decide +kernel
theorem dL_act_359 : decode cL_act 359 = .ok (.isub, 1) := by decide +kernel
theorem dL_act_360 : decode cL_act 360 = .ok (.goto 12, 3) := by decide +kernel
theorem dL_act_363 : decode cL_act 363 = .ok (.iload_n 1, 1) := by decide +kernel
theorem dL_act_364 : decode cL_act 364 = .ok (.bipush 9, 2) := by decide +kernel
theorem dL_act_366 : decode cL_act 366 = .ok (.ishr, 1) := by decide +kernel
theorem dL_act_367 : decode cL_act 367 = .ok (.bipush 12, 2) := by decide +kernel
theorem dL_act_369 : decode cL_act 369 = .ok (.invokestatic 67, 3) := by decide +kernel
theorem dL_act_372 : decode cL_act 372 = .ok (.invokestatic 90, 3) := by decide +kernel
theorem dL_act_375 : decode cL_act 375 = .ok (.ireturn, 1) := by decide +kernel
theorem dL_act_376 : decode cL_act 376 = .ok (.aload_n 0, 1) := by decide +kernel
theorem dL_act_377 : decode cL_act 377 = .ok (.iload 4, 2) := by decide +kernel
theorem dL_act_379 : decode cL_act 379 = .ok (.iload_n 1, 1) := by decide +kernel
theorem dL_act_380 : decode cL_act 380 = .ok (.bipush 9, 2) := by decide +kernel
theorem dL_act_382 : decode cL_act 382 = .ok (.ishr, 1) := by decide +kernel
theorem dL_act_383 : decode cL_act 383 = .ok (.iconst 1, 1) := by decide +kernel
theorem dL_act_384 : decode cL_act 384 = .ok (.iand, 1) := by decide +kernel
theorem dL_act_385 : decode cL_act 385 = .ok (.iconst 1, 1) := by decide +kernel
theorem dL_act_386 : decode cL_act 386 = .ok (.if_icmp .ne 7, 3) := by decide +kernel
theorem dL_act_389 : decode cL_act 389 = .ok (.iconst 1, 1) := by decide +kernel
theorem dL_act_390 : decode cL_act 390 = .ok (.goto 4, 3) := by decide +kernel
theorem dL_act_393 : decode cL_act 393 = .ok (.iconst 0, 1) := by decide +kernel
theorem dL_act_394 : decode cL_act 394 = .ok (.invokestatic 93, 3) := by decide +kernel
theorem dL_act_397 : decode cL_act 397 = .ok (.ireturn, 1) := by decide +kernel
theorem dL_act_398 : decode cL_act 398 = .ok (.aload_n 0, 1) := by decide +kernel
theorem dL_act_399 : decode cL_act 399 = .ok (.iload 4, 2) := by decide +kernel
theorem dL_act_401 : decode cL_act 401 = .ok (.iload_n 1, 1) := by decide +kernel
theorem dL_act_402 : decode cL_act 402 = .ok (.bipush 9, 2) := by decide +kernel
theorem dL_act_404 : decode cL_act 404 = .ok (.ishr, 1) := by decide +kernel
theorem dL_act_405 : decode cL_act 405 = .ok (.iconst 4, 1) := by decide +kernel
theorem dL_act_406 : decode cL_act 406 = .ok (.invokestatic 67, 3) := by decide +kernel
theorem dL_act_409 : decode cL_act 409 = .ok (.iload_n 2, 1) := by decide +kernel
theorem dL_act_410 : decode cL_act 410 = .ok (.ifCond .eq 18, 3) := by decide +kernel
theorem dL_act_413 : decode cL_act 413 = .ok (.iload_n 1, 1) := by decide +kernel
theorem dL_act_414 : decode cL_act 414 = .ok (.bipush 11, 2) := by decide +kernel
theorem dL_act_416 : decode cL_act 416 = .ok (.ishr, 1) := by decide +kernel
theorem dL_act_417 : decode cL_act 417 = .ok (.sipush 1003, 3) := by decide +kernel
theorem dL_act_420 : decode cL_act 420 = .ok (.invokestatic 67, 3) := by decide +kernel
theorem dL_act_423 : decode cL_act 423 = .ok (.iconst 1, 1) := by decide +kernel
theorem dL_act_424 : decode cL_act 424 = .ok (.isub, 1) := by decide +kernel
theorem dL_act_425 : decode cL_act 425 = .ok (.goto 12, 3) := by decide +kernel
theorem dL_act_428 : decode cL_act 428 = .ok (.iload_n 1, 1) := by decide +kernel
theorem dL_act_429 : decode cL_act 429 = .ok (.bipush 11, 2) := by decide +kernel
theorem dL_act_431 : decode cL_act 431 = .ok (.ishr, 1) := by decide +kernel
theorem dL_act_432 : decode cL_act 432 = .ok (.bipush 30, 2) := by decide +kernel
theorem dL_act_434 : decode cL_act 434 = .ok (.invokestatic 67, 3) := by decide +kernel
theorem dL_act_437 : decode cL_act 437 = .ok (.invokestatic 96, 3) := by decide +kernel
theorem dL_act_440 : decode cL_act 440 = .ok (.ireturn, 1) := by decide +kernel
theorem dL_act_441 : decode cL_act 441 = .ok (.aload_n 0, 1) := by decide +kernel
theorem dL_act_442 : decode cL_act 442 = .ok (.iload 4, 2) := by decide +kernel
theorem dL_act_444 : decode cL_act 444 = .ok (.iload_n 1, 1) := by decide +kernel
theorem dL_act_445 : decode cL_act 445 = .ok (.bipush 9, 2) := by decide +kernel
theorem dL_act_447 : decode cL_act 447 = .ok (.ishr, 1) := by decide +kernel
theorem dL_act_448 : decode cL_act 448 = .ok (.iconst 4, 1) := by decide +kernel
theorem dL_act_449 : decode cL_act 449 = .ok (.invokestatic 67, 3) := by decide +kernel
theorem dL_act_452 : decode cL_act 452 = .ok (.iload_n 1, 1) := by decide +kernel
theorem dL_act_453 : decode cL_act 453 = .ok (.bipush 11, 2) := by decide +kernel
theorem dL_act_455 : decode cL_act 455 = .ok (.ishr, 1) := by decide +kernel
theorem dL_act_456 : decode cL_act 456 = .ok (.bipush 9, 2) := by decide +kernel
theorem dL_act_458 : decode cL_act 458 = .ok (.invokestatic 67, 3) := by decide +kernel
theorem dL_act_461 : decode cL_act 461 = .ok (.iload_n 2, 1) := by decide +kernel
theorem dL_act_462 : decode cL_act 462 = .ok (.ifCond .eq 7, 3) := by decide +kernel
theorem dL_act_465 : decode cL_act 465 = .ok (.iconst 1, 1) := by decide +kernel
theorem dL_act_466 : decode cL_act 466 = .ok (.goto 4, 3) := by decide +kernel
theorem dL_act_469 : decode cL_act 469 = .ok (.iconst (-1), 1) := by decide +kernel
theorem dL_act_470 : decode cL_act 470 = .ok (.isub, 1) := by decide +kernel
theorem dL_act_471 : decode cL_act 471 = .ok (.invokestatic 99, 3) := by decide +kernel
theorem dL_act_474 : decode cL_act 474 = .ok (.ireturn, 1) := by decide +kernel
theorem dL_act_475 : decode cL_act 475 = .ok (.aload_n 0, 1) := by decide +kernel
theorem dL_act_476 : decode cL_act 476 = .ok (.iload 4, 2) := by decide +kernel
theorem dL_act_478 : decode cL_act 478 = .ok (.iload_n 3, 1) := by decide +kernel
theorem dL_act_479 : decode cL_act 479 = .ok (.iload_n 2, 1) := by decide +kernel
theorem dL_act_480 : decode cL_act 480 = .ok (.ifCond .eq 17, 3) := by decide +kernel
theorem dL_act_483 : decode cL_act 483 = .ok (.iload_n 1, 1) := by decide +kernel
theorem dL_act_484 : decode cL_act 484 = .ok (.bipush 9, 2) := by decide +kernel
theorem dL_act_486 : decode cL_act 486 = .ok (.ishr, 1) := by decide +kernel
theorem dL_act_487 : decode cL_act 487 = .ok (.bipush 103, 2) := by decide +kernel
theorem dL_act_489 : decode cL_act 489 = .ok (.invokestatic 67, 3) := by decide +kernel
theorem dL_act_492 : decode cL_act 492 = .ok (.iconst 1, 1) := by decide +kernel
theorem dL_act_493 : decode cL_act 493 = .ok (.isub, 1) := by decide +kernel
theorem dL_act_494 : decode cL_act 494 = .ok (.goto 13, 3) := by decide +kernel
theorem dL_act_497 : decode cL_act 497 = .ok (.iconst 1, 1) := by decide +kernel
theorem dL_act_498 : decode cL_act 498 = .ok (.iload_n 1, 1) := by decide +kernel
theorem dL_act_499 : decode cL_act 499 = .ok (.bipush 9, 2) := by decide +kernel
theorem dL_act_501 : decode cL_act 501 = .ok (.ishr, 1) := by decide +kernel
theorem dL_act_502 : decode cL_act 502 = .ok (.iconst 2, 1) := by decide +kernel
theorem dL_act_503 : decode cL_act 503 = .ok (.invokestatic 67, 3) := by decide +kernel
theorem dL_act_506 : decode cL_act 506 = .ok (.iadd, 1) := by decide +kernel
theorem dL_act_507 : decode cL_act 507 = .ok (.iload_n 2, 1) := by decide +kernel
theorem dL_act_508 : decode cL_act 508 = .ok (.ifCond .eq 18, 3) := by decide +kernel
theorem dL_act_511 : decode cL_act 511 = .ok (.iload_n 1, 1) := by decide +kernel
theorem dL_act_512 : decode cL_act 512 = .ok (.bipush 9, 2) := by decide +kernel
theorem dL_act_514 : decode cL_act 514 = .ok (.ishr, 1) := by decide +kernel
theorem dL_act_515 : decode cL_act 515 = .ok (.sipush 1003, 3) := by decide +kernel
theorem dL_act_518 : decode cL_act 518 = .ok (.invokestatic 67, 3) := by decide +kernel
theorem dL_act_521 : decode cL_act 521 = .ok (.iconst 1, 1) := by decide +kernel
theorem dL_act_522 : decode cL_act 522 = .ok (.isub, 1) := by decide +kernel
theorem dL_act_523 : decode cL_act 523 = .ok (.goto 14, 3) := by decide +kernel
theorem dL_act_526 : decode cL_act 526 = .ok (.iconst 1, 1) := by decide +kernel
theorem dL_act_527 : decode cL_act 527 = .ok (.iload_n 1, 1) := by decide +kernel
theorem dL_act_528 : decode cL_act 528 = .ok (.bipush 11, 2) := by decide +kernel
theorem dL_act_530 : decode cL_act 530 = .ok (.ishr, 1) := by decide +kernel
theorem dL_act_531 : decode cL_act 531 = .ok (.bipush 20, 2) := by decide +kernel
theorem dL_act_533 : decode cL_act 533 = .ok (.invokestatic 67, 3) := by decide +kernel
theorem dL_act_536 : decode cL_act 536 = .ok (.iadd, 1) := by decide +kernel
theorem dL_act_537 : decode cL_act 537 = .ok (.invokestatic 101, 3) := by decide +kernel
theorem dL_act_540 : decode cL_act 540 = .ok (.ireturn, 1) := by decide +kernel
theorem dL_act_541 : decode cL_act 541 = .ok (.aload_n 0, 1) := by decide +kernel
theorem dL_act_542 : decode cL_act 542 = .ok (.iload_n 2, 1) := by decide +kernel
theorem dL_act_543 : decode cL_act 543 = .ok (.ifCond .eq 16, 3) := by decide +kernel
theorem dL_act_546 : decode cL_act 546 = .ok (.iload_n 1, 1) := by decide +kernel
theorem dL_act_547 : decode cL_act 547 = .ok (.iconst 4, 1) := by decide +kernel
theorem dL_act_548 : decode cL_act 548 = .ok (.ishr, 1) := by decide +kernel
theorem dL_act_549 : decode cL_act 549 = .ok (.bipush 103, 2) := by decide +kernel
theorem dL_act_551 : decode cL_act 551 = .ok (.invokestatic 67, 3) := by decide +kernel
theorem dL_act_554 : decode cL_act 554 = .ok (.iconst 1, 1) := by decide +kernel
theorem dL_act_555 : decode cL_act 555 = .ok (.isub, 1) := by decide +kernel
theorem dL_act_556 : decode cL_act 556 = .ok (.goto 12, 3) := by decide +kernel
theorem dL_act_559 : decode cL_act 559 = .ok (.iconst 1, 1) := by decide +kernel
theorem dL_act_560 : decode cL_act 560 = .ok (.iload_n 1, 1) := by decide +kernel
theorem dL_act_561 : decode cL_act 561 = .ok (.iconst 4, 1) := by decide +kernel
theorem dL_act_562 : decode cL_act 562 = .ok (.ishr, 1) := by decide +kernel
theorem dL_act_563 : decode cL_act 563 = .ok (.iconst 2, 1) := by decide +kernel
theorem dL_act_564 : decode cL_act 564 = .ok (.invokestatic 67, 3) := by decide +kernel
theorem dL_act_567 : decode cL_act 567 = .ok (.iadd, 1) := by decide +kernel
theorem dL_act_568 : decode cL_act 568 = .ok (.invokestatic 104, 3) := by decide +kernel
theorem dL_act_571 : decode cL_act 571 = .ok (.ireturn, 1) := by decide +kernel
theorem dL_act_572 : decode cL_act 572 = .ok (.aload_n 0, 1) := by decide +kernel
theorem dL_act_573 : decode cL_act 573 = .ok (.iload_n 2, 1) := by decide +kernel
theorem dL_act_574 : decode cL_act 574 = .ok (.ifCond .eq 16, 3) := by decide +kernel
theorem dL_act_577 : decode cL_act 577 = .ok (.iload_n 1, 1) := by decide +kernel
theorem dL_act_578 : decode cL_act 578 = .ok (.iconst 4, 1) := by decide +kernel
theorem dL_act_579 : decode cL_act 579 = .ok (.ishr, 1) := by decide +kernel
theorem dL_act_580 : decode cL_act 580 = .ok (.bipush 63, 2) := by decide +kernel
theorem dL_act_582 : decode cL_act 582 = .ok (.invokestatic 67, 3) := by decide +kernel
theorem dL_act_585 : decode cL_act 585 = .ok (.iconst 1, 1) := by decide +kernel
theorem dL_act_586 : decode cL_act 586 = .ok (.isub, 1) := by decide +kernel
theorem dL_act_587 : decode cL_act 587 = .ok (.goto 24, 3) := by decide +kernel
theorem dL_act_590 : decode cL_act 590 = .ok (.aload_n 0, 1) := by decide +kernel
theorem dL_act_591 : decode cL_act 591 = .ok (.invokevirtual 106, 3) := by decide +kernel
theorem dL_act_594 : decode cL_act 594 = .ok (.ifCond .ne 7, 3) := by decide +kernel
theorem dL_act_597 : decode cL_act 597 = .ok (.iconst 0, 1) := by decide +kernel
theorem dL_act_598 : decode cL_act 598 = .ok (.goto 13, 3) := by decide +kernel
theorem dL_act_601 : decode cL_act 601 = .ok (.iload_n 1, 1) := by decide +kernel
theorem dL_act_602 : decode cL_act 602 = .ok (.iconst 4, 1) := by decide +kernel
theorem dL_act_603 : decode cL_act 603 = .ok (.ishr, 1) := by decide +kernel
theorem dL_act_604 : decode cL_act 604 = .ok (.aload_n 0, 1) := by decide +kernel
theorem dL_act_605 : decode cL_act 605 = .ok (.invokevirtual 106, 3) := by decide +kernel
theorem dL_act_608 : decode cL_act 608 = .ok (.invokestatic 67, 3) := by decide +kernel
theorem dL_act_611 : decode cL_act 611 = .ok (.iload_n 2, 1) := by decide +kernel
theorem dL_act_612 : decode cL_act 612 = .ok (.ifCond .eq 16, 3) := by decide +kernel
theorem dL_act_615 : decode cL_act 615 = .ok (.iload_n 1, 1) := by decide +kernel
theorem dL_act_616 : decode cL_act 616 = .ok (.bipush 9, 2) := by decide +kernel
theorem dL_act_618 : decode cL_act 618 = .ok (.ishr, 1) := by decide +kernel
theorem dL_act_619 : decode cL_act 619 = .ok (.sipush 1003, 3) := by decide +kernel
theorem dL_act_622 : decode cL_act 622 = .ok (.invokestatic 67, 3) := by decide +kernel
theorem dL_act_625 : decode cL_act 625 = .ok (.goto 14, 3) := by decide +kernel
theorem dL_act_628 : decode cL_act 628 = .ok (.iconst 5, 1) := by decide +kernel
theorem dL_act_629 : decode cL_act 629 = .ok (.iload_n 1, 1) := by decide +kernel
theorem dL_act_630 : decode cL_act 630 = .ok (.bipush 9, 2) := by decide +kernel
theorem dL_act_632 : decode cL_act 632 = .ok (.ishr, 1) := by decide +kernel
theorem dL_act_633 : decode cL_act 633 = .ok (.bipush 30, 2) := by decide +kernel
theorem dL_act_635 : decode cL_act 635 = .ok (.invokestatic 67, 3) := by decide +kernel
theorem dL_act_638 : decode cL_act 638 = .ok (.iadd, 1) := by decide +kernel
theorem dL_act_639 : decode cL_act 639 = .ok (.invokestatic 110, 3) := by decide +kernel
theorem dL_act_642 : decode cL_act 642 = .ok (.ireturn, 1) := by decide +kernel
theorem dL_act_643 : decode cL_act 643 = .ok (.iload_n 2, 1) := by decide +kernel
theorem dL_act_644 : decode cL_act 644 = .ok (.ifCond .eq 13, 3) := by decide +kernel
theorem dL_act_647 : decode cL_act 647 = .ok (.aload_n 0, 1) := by decide +kernel
theorem dL_act_648 : decode cL_act 648 = .ok (.iconst 0, 1) := by decide +kernel
theorem dL_act_649 : decode cL_act 649 = .ok (.bipush 33, 2) := by decide +kernel
theorem dL_act_651 : decode cL_act 651 = .ok (.invokestatic 82, 3) := by decide +kernel
theorem dL_act_654 : decode cL_act 654 = .ok (.goto 12, 3) := by decide +kernel
theorem dL_act_657 : decode cL_act 657 = .ok (.aload_n 0, 1) := by decide +kernel
theorem dL_act_658 : decode cL_act 658 = .ok (.iload_n 3, 1) := by decide +kernel
theorem dL_act_659 : decode cL_act 659 = .ok (.iload_n 1, 1) := by decide +kernel
theorem dL_act_660 : decode cL_act 660 = .ok (.bipush 7, 2) := by decide +kernel
theorem dL_act_662 : decode cL_act 662 = .ok (.ishr, 1) := by decide +kernel
theorem dL_act_663 : decode cL_act 663 = .ok (.invokestatic 112, 3) := by decide +kernel
theorem dL_act_666 : decode cL_act 666 = .ok (.ireturn, 1) := by decide +kernel
theorem dL_areAlike_0 : decode cL_areAlike 0 = .ok (.aload_n 0, 1) := by decide +kernel
theorem dL_areAlike_1 : decode cL_areAlike 1 = .ok (.invokevirtual 115, 3) := by decide +kernel
theorem dL_areAlike_4 : decode cL_areAlike 4 = .ok (.aload_n 1, 1) := by decide +kernel
theorem dL_areAlike_5 : decode cL_areAlike 5 = .ok (.invokevirtual 115, 3) := by decide +kernel
theorem dL_areAlike_8 : decode cL_areAlike 8 = .ok (.if_icmp .ne 29, 3) := by decide +kernel
theorem dL_areAlike_11 : decode cL_areAlike 11 = .ok (.aload_n 0, 1) := by decide +kernel
theorem dL_areAlike_12 : decode cL_areAlike 12 = .ok (.invokevirtual 106, 3) := by decide +kernel
theorem dL_areAlike_15 : decode cL_areAlike 15 = .ok (.aload_n 1, 1) := by decide +kernel
theorem dL_areAlike_16 : decode cL_areAlike 16 = .ok (.invokevirtual 106, 3) := by decide +kernel
theorem dL_areAlike_19 : decode cL_areAlike 19 = .ok (.if_icmp .ne 18, 3) := by decide +kernel
theorem dL_areAlike_22 : decode cL_areAlike 22 = .ok (.aload_n 0, 1) := by decide +kernel
theorem dL_areAlike_23 : decode cL_areAlike 23 = .ok (.invokevirtual 118, 3) := by decide +kernel
theorem dL_areAlike_26 : decode cL_areAlike 26 = .ok (.aload_n 1, 1) := by decide +kernel
theorem dL_areAlike_27 : decode cL_areAlike 27 = .ok (.invokevirtual 118, 3) := by decide +kernel
theorem dL_areAlike_30 : decode cL_areAlike 30 = .ok (.if_icmp .ne 7, 3) := by decide +kernel
theorem dL_areAlike_33 : decode cL_areAlike 33 = .ok (.iconst 1, 1) := by decide +kernel
theorem dL_areAlike_34 : decode cL_areAlike 34 = .ok (.goto 4, 3) := by decide +kernel
theorem dL_areAlike_37 : decode cL_areAlike 37 = .ok (.iconst 0, 1) := by decide +kernel
theorem dL_areAlike_38 : decode cL_areAlike 38 = .ok (.istore_n 2, 1) := by decide +kernel
theorem dL_areAlike_39 : decode cL_areAlike 39 = .ok (.iconst 0, 1) := by decide +kernel
theorem dL_areAlike_40 : decode cL_areAlike 40 = .ok (.istore_n 3, 1) := by decide +kernel
theorem dL_areAlike_41 : decode cL_areAlike 41 = .ok (.iload_n 3, 1) := by decide +kernel
theorem dL_areAlike_42 : decode cL_areAlike 42 = .ok (.iconst 4, 1) := by decide +kernel
theorem dL_areAlike_43 : decode cL_areAlike 43 = .ok (.if_icmp .ge 87, 3) := by decide +kernel
theorem dL_areAlike_46 : decode cL_areAlike 46 = .ok (.iload_n 2, 1) := by decide +kernel
theorem dL_areAlike_47 : decode cL_areAlike 47 = .ok (.ifCond .eq 83, 3) := by decide +kernel
theorem dL_areAlike_50 : decode cL_areAlike 50 = .ok (.aload_n 0, 1) := by decide +kernel
theorem dL_areAlike_51 : decode cL_areAlike 51 = .ok (.iload_n 3, 1) := by decide +kernel
theorem dL_areAlike_52 : decode cL_areAlike 52 = .ok (.invokevirtual 121, 3) := by decide +kernel
theorem dL_areAlike_55 : decode cL_areAlike 55 = .ok (.aload_n 1, 1) := by decide +kernel
theorem dL_areAlike_56 : decode cL_areAlike 56 = .ok (.iload_n 3, 1) := by decide +kernel
theorem dL_areAlike_57 : decode cL_areAlike 57 = .ok (.invokevirtual 121, 3) := by decide +kernel
theorem dL_areAlike_60 : decode cL_areAlike 60 = .ok (.if_icmp .ne 20, 3) := by decide +kernel
theorem dL_areAlike_63 : decode cL_areAlike 63 = .ok (.aload_n 0, 1) := by decide +kernel
theorem dL_areAlike_64 : decode cL_areAlike 64 = .ok (.iload_n 3, 1) := by decide +kernel
theorem dL_areAlike_65 : decode cL_areAlike 65 = .ok (.invokevirtual 124, 3) := by decide +kernel
theorem dL_areAlike_68 : decode cL_areAlike 68 = .ok (.aload_n 1, 1) := by decide +kernel
theorem dL_areAlike_69 : decode cL_areAlike 69 = .ok (.iload_n 3, 1) := by decide +kernel
theorem dL_areAlike_70 : decode cL_areAlike 70 = .ok (.invokevirtual 124, 3) := by decide +kernel
theorem dL_areAlike_73 : decode cL_areAlike 73 = .ok (.if_icmp .ne 7, 3) := by decide +kernel
theorem dL_areAlike_76 : decode cL_areAlike 76 = .ok (.iconst 1, 1) := by decide +kernel
theorem dL_areAlike_77 : decode cL_areAlike 77 = .ok (.goto 4, 3) := by decide +kernel
theorem dL_areAlike_80 : decode cL_areAlike 80 = .ok (.iconst 0, 1) := by decide +kernel
theorem dL_areAlike_81 : decode cL_areAlike 81 = .ok (.istore_n 2, 1) := by decide +kernel
theorem dL_areAlike_82 : decode cL_areAlike 82 = .ok (.iconst 0, 1) := by decide +kernel
theorem dL_areAlike_83 : decode cL_areAlike 83 = .ok (.istore 4, 2) := by decide +kernel
theorem dL_areAlike_85 : decode cL_areAlike 85 = .ok (.iload 4, 2) := by decide +kernel
theorem dL_areAlike_87 : decode cL_areAlike 87 = .ok (.iconst 4, 1) := by decide +kernel
theorem dL_areAlike_88 : decode cL_areAlike 88 = .ok (.if_icmp .ge 36, 3) := by decide +kernel
theorem dL_areAlike_91 : decode cL_areAlike 91 = .ok (.iload_n 2, 1) := by decide +kernel
theorem dL_areAlike_92 : decode cL_areAlike 92 = .ok (.ifCond .eq 24, 3) := by decide +kernel
theorem dL_areAlike_95 : decode cL_areAlike 95 = .ok (.aload_n 0, 1) := by decide +kernel
theorem dL_areAlike_96 : decode cL_areAlike 96 = .ok (.iload_n 3, 1) := by decide +kernel
theorem dL_areAlike_97 : decode cL_areAlike 97 = .ok (.iload 4, 2) := by decide +kernel
theorem dL_areAlike_99 : decode cL_areAlike 99 = .ok (.invokevirtual 127, 3) := by decide +kernel
theorem dL_areAlike_102 : decode cL_areAlike 102 = .ok (.aload_n 1, 1) := by decide +kernel
theorem dL_areAlike_103 : decode cL_areAlike 103 = .ok (.iload_n 3, 1) := by decide +kernel
theorem dL_areAlike_104 : decode cL_areAlike 104 = .ok (.iload 4, 2) := by decide +kernel
theorem dL_areAlike_106 : decode cL_areAlike 106 = .ok (.invokevirtual 127, 3) := by decide +kernel
theorem dL_areAlike_109 : decode cL_areAlike 109 = .ok (.if_icmp .ne 7, 3) := by decide +kernel
theorem dL_areAlike_112 : decode cL_areAlike 112 = .ok (.iconst 1, 1) := by decide +kernel
theorem dL_areAlike_113 : decode cL_areAlike 113 = .ok (.goto 4, 3) := by decide +kernel
theorem dL_areAlike_116 : decode cL_areAlike 116 = .ok (.iconst 0, 1) := by decide +kernel
theorem dL_areAlike_117 : decode cL_areAlike 117 = .ok (.istore_n 2, 1) := by decide +kernel
theorem dL_areAlike_118 : decode cL_areAlike 118 = .ok (.iinc 4 1, 3) := by decide +kernel
theorem dL_areAlike_121 : decode cL_areAlike 121 = .ok (.goto (-36), 3) := by decide +kernel
theorem dL_areAlike_124 : decode cL_areAlike 124 = .ok (.iinc 3 1, 3) := by decide +kernel
theorem dL_areAlike_127 : decode cL_areAlike 127 = .ok (.goto (-86), 3) := by decide +kernel
theorem dL_areAlike_130 : decode cL_areAlike 130 = .ok (.iconst 0, 1) := by decide +kernel
theorem dL_areAlike_131 : decode cL_areAlike 131 = .ok (.istore_n 3, 1) := by decide +kernel
theorem dL_areAlike_132 : decode cL_areAlike 132 = .ok (.iload_n 3, 1) := by decide +kernel
theorem dL_areAlike_133 : decode cL_areAlike 133 = .ok (.bipush 8, 2) := by decide +kernel
theorem dL_areAlike_135 : decode cL_areAlike 135 = .ok (.if_icmp .ge 45, 3) := by decide +kernel
theorem dL_areAlike_138 : decode cL_areAlike 138 = .ok (.iload_n 2, 1) := by decide +kernel
theorem dL_areAlike_139 : decode cL_areAlike 139 = .ok (.ifCond .eq 41, 3) := by decide +kernel
theorem dL_areAlike_142 : decode cL_areAlike 142 = .ok (.aload_n 0, 1) := by decide +kernel
theorem dL_areAlike_143 : decode cL_areAlike 143 = .ok (.iload_n 3, 1) := by decide +kernel
theorem dL_areAlike_144 : decode cL_areAlike 144 = .ok (.invokevirtual 64, 3) := by decide +kernel
theorem dL_areAlike_147 : decode cL_areAlike 147 = .ok (.aload_n 1, 1) := by decide +kernel
theorem dL_areAlike_148 : decode cL_areAlike 148 = .ok (.iload_n 3, 1) := by decide +kernel
theorem dL_areAlike_149 : decode cL_areAlike 149 = .ok (.invokevirtual 64, 3) := by decide +kernel
theorem dL_areAlike_152 : decode cL_areAlike 152 = .ok (.if_icmp .ne 20, 3) := by decide +kernel
theorem dL_areAlike_155 : decode cL_areAlike 155 = .ok (.aload_n 0, 1) := by decide +kernel
theorem dL_areAlike_156 : decode cL_areAlike 156 = .ok (.iload_n 3, 1) := by decide +kernel
theorem dL_areAlike_157 : decode cL_areAlike 157 = .ok (.invokevirtual 130, 3) := by decide +kernel
theorem dL_areAlike_160 : decode cL_areAlike 160 = .ok (.aload_n 1, 1) := by decide +kernel
theorem dL_areAlike_161 : decode cL_areAlike 161 = .ok (.iload_n 3, 1) := by decide +kernel
theorem dL_areAlike_162 : decode cL_areAlike 162 = .ok (.invokevirtual 130, 3) := by decide +kernel
theorem dL_areAlike_165 : decode cL_areAlike 165 = .ok (.if_icmp .ne 7, 3) := by decide +kernel
theorem dL_areAlike_168 : decode cL_areAlike 168 = .ok (.iconst 1, 1) := by decide +kernel
theorem dL_areAlike_169 : decode cL_areAlike 169 = .ok (.goto 4, 3) := by decide +kernel
theorem dL_areAlike_172 : decode cL_areAlike 172 = .ok (.iconst 0, 1) := by decide +kernel
theorem dL_areAlike_173 : decode cL_areAlike 173 = .ok (.istore_n 2, 1) := by decide +kernel
theorem dL_areAlike_174 : decode cL_areAlike 174 = .ok (.iinc 3 1, 3) := by decide +kernel
theorem dL_areAlike_177 : decode cL_areAlike 177 = .ok (.goto (-45), 3) := by decide +kernel
theorem dL_areAlike_180 : decode cL_areAlike 180 = .ok (.iconst 0, 1) := by decide +kernel
theorem dL_areAlike_181 : decode cL_areAlike 181 = .ok (.istore_n 3, 1) := by decide +kernel
theorem dL_areAlike_182 : decode cL_areAlike 182 = .ok (.iload_n 3, 1) := by decide +kernel
theorem dL_areAlike_183 : decode cL_areAlike 183 = .ok (.aload_n 0, 1) := by decide +kernel
theorem dL_areAlike_184 : decode cL_areAlike 184 = .ok (.invokevirtual 106, 3) := by decide +kernel
theorem dL_areAlike_187 : decode cL_areAlike 187 = .ok (.if_icmp .ge 71, 3) := by decide +kernel
theorem dL_areAlike_190 : decode cL_areAlike 190 = .ok (.iload_n 2, 1) := by decide +kernel
theorem dL_areAlike_191 : decode cL_areAlike 191 = .ok (.ifCond .eq 67, 3) := by decide +kernel
theorem dL_areAlike_194 : decode cL_areAlike 194 = .ok (.aload_n 0, 1) := by decide +kernel
theorem dL_areAlike_195 : decode cL_areAlike 195 = .ok (.iload_n 3, 1) := by decide +kernel
theorem dL_areAlike_196 : decode cL_areAlike 196 = .ok (.invokevirtual 133, 3) := by decide +kernel
theorem dL_areAlike_199 : decode cL_areAlike 199 = .ok (.aload_n 1, 1) := by decide +kernel
theorem dL_areAlike_200 : decode cL_areAlike 200 = .ok (.iload_n 3, 1) := by decide +kernel
theorem dL_areAlike_201 : decode cL_areAlike 201 = .ok (.invokevirtual 133, 3) := by decide +kernel
theorem dL_areAlike_204 : decode cL_areAlike 204 = .ok (.if_icmp .ne 46, 3) := by decide +kernel
theorem dL_areAlike_207 : decode cL_areAlike 207 = .ok (.aload_n 0, 1) := by decide +kernel
theorem dL_areAlike_208 : decode cL_areAlike 208 = .ok (.iload_n 3, 1) := by decide +kernel
theorem dL_areAlike_209 : decode cL_areAlike 209 = .ok (.invokevirtual 136, 3) := by decide +kernel
theorem dL_areAlike_212 : decode cL_areAlike 212 = .ok (.aload_n 1, 1) := by decide +kernel
theorem dL_areAlike_213 : decode cL_areAlike 213 = .ok (.iload_n 3, 1) := by decide +kernel
theorem dL_areAlike_214 : decode cL_areAlike 214 = .ok (.invokevirtual 136, 3) := by decide +kernel
theorem dL_areAlike_217 : decode cL_areAlike 217 = .ok (.if_icmp .ne 33, 3) := by decide +kernel
theorem dL_areAlike_220 : decode cL_areAlike 220 = .ok (.aload_n 0, 1) := by decide +kernel
theorem dL_areAlike_221 : decode cL_areAlike 221 = .ok (.iload_n 3, 1) := by decide +kernel
theorem dL_areAlike_222 : decode cL_areAlike 222 = .ok (.invokevirtual 139, 3) := by decide +kernel
theorem dL_areAlike_225 : decode cL_areAlike 225 = .ok (.aload_n 1, 1) := by decide +kernel
theorem dL_areAlike_226 : decode cL_areAlike 226 = .ok (.iload_n 3, 1) := by decide +kernel
theorem dL_areAlike_227 : decode cL_areAlike 227 = .ok (.invokevirtual 139, 3) := by decide +kernel
theorem dL_areAlike_230 : decode cL_areAlike 230 = .ok (.if_icmp .ne 20, 3) := by decide +kernel
theorem dL_areAlike_233 : decode cL_areAlike 233 = .ok (.aload_n 0, 1) := by decide +kernel
theorem dL_areAlike_234 : decode cL_areAlike 234 = .ok (.iload_n 3, 1) := by decide +kernel
theorem dL_areAlike_235 : decode cL_areAlike 235 = .ok (.invokevirtual 142, 3) := by decide +kernel
theorem dL_areAlike_238 : decode cL_areAlike 238 = .ok (.aload_n 1, 1) := by decide +kernel
theorem dL_areAlike_239 : decode cL_areAlike 239 = .ok (.iload_n 3, 1) := by decide +kernel
theorem dL_areAlike_240 : decode cL_areAlike 240 = .ok (.invokevirtual 142, 3) := by decide +kernel
theorem dL_areAlike_243 : decode cL_areAlike 243 = .ok (.if_icmp .ne 7, 3) := by decide +kernel
theorem dL_areAlike_246 : decode cL_areAlike 246 = .ok (.iconst 1, 1) := by decide +kernel
theorem dL_areAlike_247 : decode cL_areAlike 247 = .ok (.goto 4, 3) := by decide +kernel
theorem dL_areAlike_250 : decode cL_areAlike 250 = .ok (.iconst 0, 1) := by decide +kernel
theorem dL_areAlike_251 : decode cL_areAlike 251 = .ok (.istore_n 2, 1) := by decide +kernel
theorem dL_areAlike_252 : decode cL_areAlike 252 = .ok (.iinc 3 1, 3) := by decide +kernel
theorem dL_areAlike_255 : decode cL_areAlike 255 = .ok (.goto (-73), 3) := by decide +kernel
theorem dL_areAlike_258 : decode cL_areAlike 258 = .ok (.iload_n 2, 1) := by decide +kernel
theorem dL_areAlike_259 : decode cL_areAlike 259 = .ok (.ireturn, 1) := by decide +kernel
theorem dL_areStocksSo_0 : decode cL_areStocksSo 0 = .ok (.iconst 0, 1) := by decide +kernel
theorem dL_areStocksSo_1 : decode cL_areStocksSo 1 = .ok (.istore_n 2, 1) := by decide +kernel
theorem dL_areStocksSo_2 : decode cL_areStocksSo 2 = .ok (.iload_n 2, 1) := by decide +kernel
theorem dL_areStocksSo_3 : decode cL_areStocksSo 3 = .ok (.bipush 8, 2) := by decide +kernel
theorem dL_areStocksSo_5 : decode cL_areStocksSo 5 = .ok (.if_icmp .ge 116, 3) := by decide +kernel
theorem dL_areStocksSo_8 : decode cL_areStocksSo 8 = .ok (.iconst 0, 1) := by decide +kernel
theorem dL_areStocksSo_9 : decode cL_areStocksSo 9 = .ok (.istore_n 3, 1) := by decide +kernel
theorem dL_areStocksSo_10 : decode cL_areStocksSo 10 = .ok (.iconst 0, 1) := by decide +kernel
theorem dL_areStocksSo_11 : decode cL_areStocksSo 11 = .ok (.istore 4, 2) := by decide +kernel
theorem dL_areStocksSo_13 : decode cL_areStocksSo 13 = .ok (.iconst (-1), 1) := by decide +kernel
theorem dL_areStocksSo_14 : decode cL_areStocksSo 14 = .ok (.istore 5, 2) := by decide +kernel
theorem dL_areStocksSo_16 : decode cL_areStocksSo 16 = .ok (.iload 5, 2) := by decide +kernel
theorem dL_areStocksSo_18 : decode cL_areStocksSo 18 = .ok (.iconst 4, 1) := by decide +kernel
theorem dL_areStocksSo_19 : decode cL_areStocksSo 19 = .ok (.if_icmp .ge 42, 3) := by decide +kernel
theorem dL_areStocksSo_22 : decode cL_areStocksSo 22 = .ok (.aload_n 0, 1) := by decide +kernel
theorem dL_areStocksSo_23 : decode cL_areStocksSo 23 = .ok (.iload 5, 2) := by decide +kernel
theorem dL_areStocksSo_25 : decode cL_areStocksSo 25 = .ok (.iload_n 2, 1) := by decide +kernel
theorem dL_areStocksSo_26 : decode cL_areStocksSo 26 = .ok (.invokevirtual 145, 3) := by decide +kernel
theorem dL_areStocksSo_29 : decode cL_areStocksSo 29 = .ok (.istore 6, 2) := by decide +kernel
theorem dL_areStocksSo_31 : decode cL_areStocksSo 31 = .ok (.iload 6, 2) := by decide +kernel
theorem dL_areStocksSo_33 : decode cL_areStocksSo 33 = .ok (.ifCond .lt 15, 3) := by decide +kernel
theorem dL_areStocksSo_36 : decode cL_areStocksSo 36 = .ok (.iload 6, 2) := by decide +kernel
theorem dL_areStocksSo_38 : decode cL_areStocksSo 38 = .ok (.aload_n 0, 1) := by decide +kernel
theorem dL_areStocksSo_39 : decode cL_areStocksSo 39 = .ok (.iload 5, 2) := by decide +kernel
theorem dL_areStocksSo_41 : decode cL_areStocksSo 41 = .ok (.iload_n 2, 1) := by decide +kernel
theorem dL_areStocksSo_42 : decode cL_areStocksSo 42 = .ok (.invokevirtual 148, 3) := by decide +kernel
theorem dL_areStocksSo_45 : decode cL_areStocksSo 45 = .ok (.if_icmp .eq 5, 3) := by decide +kernel
theorem dL_areStocksSo_48 : decode cL_areStocksSo 48 = .ok (.iconst 0, 1) := by decide +kernel
theorem dL_areStocksSo_49 : decode cL_areStocksSo 49 = .ok (.ireturn, 1) := by decide +kernel
theorem dL_areStocksSo_50 : decode cL_areStocksSo 50 = .ok (.iload_n 3, 1) := by decide +kernel
theorem dL_areStocksSo_51 : decode cL_areStocksSo 51 = .ok (.iload 6, 2) := by decide +kernel
theorem dL_areStocksSo_53 : decode cL_areStocksSo 53 = .ok (.iadd, 1) := by decide +kernel
theorem dL_areStocksSo_54 : decode cL_areStocksSo 54 = .ok (.istore_n 3, 1) := by decide +kernel
theorem dL_areStocksSo_55 : decode cL_areStocksSo 55 = .ok (.iinc 5 1, 3) := by decide +kernel
theorem dL_areStocksSo_58 : decode cL_areStocksSo 58 = .ok (.goto (-42), 3) := by decide +kernel
theorem dL_areStocksSo_61 : decode cL_areStocksSo 61 = .ok (.iconst 0, 1) := by decide +kernel
theorem dL_areStocksSo_62 : decode cL_areStocksSo 62 = .ok (.istore 5, 2) := by decide +kernel
theorem dL_areStocksSo_64 : decode cL_areStocksSo 64 = .ok (.iload 5, 2) := by decide +kernel
theorem dL_areStocksSo_66 : decode cL_areStocksSo 66 = .ok (.aload_n 0, 1) := by decide +kernel
theorem dL_areStocksSo_67 : decode cL_areStocksSo 67 = .ok (.invokevirtual 106, 3) := by decide +kernel
theorem dL_areStocksSo_70 : decode cL_areStocksSo 70 = .ok (.if_icmp .ge 21, 3) := by decide +kernel
theorem dL_areStocksSo_73 : decode cL_areStocksSo 73 = .ok (.iload 4, 2) := by decide +kernel
theorem dL_areStocksSo_75 : decode cL_areStocksSo 75 = .ok (.aload_n 0, 1) := by decide +kernel
theorem dL_areStocksSo_76 : decode cL_areStocksSo 76 = .ok (.iload 5, 2) := by decide +kernel
theorem dL_areStocksSo_78 : decode cL_areStocksSo 78 = .ok (.iload_n 2, 1) := by decide +kernel
theorem dL_areStocksSo_79 : decode cL_areStocksSo 79 = .ok (.invokevirtual 151, 3) := by decide +kernel
theorem dL_areStocksSo_82 : decode cL_areStocksSo 82 = .ok (.iadd, 1) := by decide +kernel
theorem dL_areStocksSo_83 : decode cL_areStocksSo 83 = .ok (.istore 4, 2) := by decide +kernel
theorem dL_areStocksSo_85 : decode cL_areStocksSo 85 = .ok (.iinc 5 1, 3) := by decide +kernel
theorem dL_areStocksSo_88 : decode cL_areStocksSo 88 = .ok (.goto (-24), 3) := by decide +kernel
theorem dL_areStocksSo_91 : decode cL_areStocksSo 91 = .ok (.iload_n 3, 1) := by decide +kernel
theorem dL_areStocksSo_92 : decode cL_areStocksSo 92 = .ok (.aload_n 1, 1) := by decide +kernel
theorem dL_areStocksSo_93 : decode cL_areStocksSo 93 = .ok (.iload_n 2, 1) := by decide +kernel
theorem dL_areStocksSo_94 : decode cL_areStocksSo 94 = .ok (.iaload, 1) := by decide +kernel
theorem dL_areStocksSo_95 : decode cL_areStocksSo 95 = .ok (.if_icmp .ne 18, 3) := by decide +kernel
theorem dL_areStocksSo_98 : decode cL_areStocksSo 98 = .ok (.aload_n 0, 1) := by decide +kernel
theorem dL_areStocksSo_99 : decode cL_areStocksSo 99 = .ok (.iconst (-1), 1) := by decide +kernel
theorem dL_areStocksSo_100 : decode cL_areStocksSo 100 = .ok (.iload_n 2, 1) := by decide +kernel
theorem dL_areStocksSo_101 : decode cL_areStocksSo 101 = .ok (.invokevirtual 145, 3) := by decide +kernel
theorem dL_areStocksSo_104 : decode cL_areStocksSo 104 = .ok (.aload_n 1, 1) := by decide +kernel
theorem dL_areStocksSo_105 : decode cL_areStocksSo 105 = .ok (.iload_n 2, 1) := by decide +kernel
theorem dL_areStocksSo_106 : decode cL_areStocksSo 106 = .ok (.iaload, 1) := by decide +kernel
theorem dL_areStocksSo_107 : decode cL_areStocksSo 107 = .ok (.iload 4, 2) := by decide +kernel
theorem dL_areStocksSo_109 : decode cL_areStocksSo 109 = .ok (.isub, 1) := by decide +kernel
theorem dL_areStocksSo_110 : decode cL_areStocksSo 110 = .ok (.if_icmp .eq 5, 3) := by decide +kernel
theorem dL_areStocksSo_113 : decode cL_areStocksSo 113 = .ok (.iconst 0, 1) := by decide +kernel
theorem dL_areStocksSo_114 : decode cL_areStocksSo 114 = .ok (.ireturn, 1) := by decide +kernel
theorem dL_areStocksSo_115 : decode cL_areStocksSo 115 = .ok (.iinc 2 1, 3) := by decide +kernel
theorem dL_areStocksSo_118 : decode cL_areStocksSo 118 = .ok (.goto (-116), 3) := by decide +kernel
theorem dL_areStocksSo_121 : decode cL_areStocksSo 121 = .ok (.iconst 1, 1) := by decide +kernel
theorem dL_areStocksSo_122 : decode cL_areStocksSo 122 = .ok (.ireturn, 1) := by decide +kernel
theorem dL_areOrdersSo_0 : decode cL_areOrdersSo 0 = .ok (.iconst 0, 1) := by decide +kernel
theorem dL_areOrdersSo_1 : decode cL_areOrdersSo 1 = .ok (.istore_n 1, 1) := by decide +kernel
theorem dL_areOrdersSo_2 : decode cL_areOrdersSo 2 = .ok (.iload_n 1, 1) := by decide +kernel
theorem dL_areOrdersSo_3 : decode cL_areOrdersSo 3 = .ok (.aload_n 0, 1) := by decide +kernel
theorem dL_areOrdersSo_4 : decode cL_areOrdersSo 4 = .ok (.invokevirtual 106, 3) := by decide +kernel
theorem dL_areOrdersSo_7 : decode cL_areOrdersSo 7 = .ok (.if_icmp .ge 116, 3) := by decide +kernel
theorem dL_areOrdersSo_10 : decode cL_areOrdersSo 10 = .ok (.aload_n 0, 1) := by decide +kernel
theorem dL_areOrdersSo_11 : decode cL_areOrdersSo 11 = .ok (.iload_n 1, 1) := by decide +kernel
theorem dL_areOrdersSo_12 : decode cL_areOrdersSo 12 = .ok (.invokevirtual 133, 3) := by decide +kernel
theorem dL_areOrdersSo_15 : decode cL_areOrdersSo 15 = .ok (.istore_n 2, 1) := by decide +kernel
theorem dL_areOrdersSo_16 : decode cL_areOrdersSo 16 = .ok (.iload_n 2, 1) := by decide +kernel
theorem dL_areOrdersSo_17 : decode cL_areOrdersSo 17 = .ok (.ifCond .lt 72, 3) := by decide +kernel
theorem dL_areOrdersSo_20 : decode cL_areOrdersSo 20 = .ok (.iload_n 2, 1) := by decide +kernel
theorem dL_areOrdersSo_21 : decode cL_areOrdersSo 21 = .ok (.iconst 5, 1) := by decide +kernel
theorem dL_areOrdersSo_22 : decode cL_areOrdersSo 22 = .ok (.if_icmp .ge 67, 3) := by decide +kernel
theorem dL_areOrdersSo_25 : decode cL_areOrdersSo 25 = .ok (.iload_n 2, 1) := by decide +kernel
theorem dL_areOrdersSo_26 : decode cL_areOrdersSo 26 = .ok (.iconst 3, 1) := by decide +kernel
theorem dL_areOrdersSo_27 : decode cL_areOrdersSo 27 = .ok (.if_icmp .ne 7, 3) := by decide +kernel
theorem dL_areOrdersSo_30 : decode cL_areOrdersSo 30 = .ok (.iconst 1, 1) := by decide +kernel
theorem dL_areOrdersSo_31 : decode cL_areOrdersSo 31 = .ok (.goto 4, 3) := by decide +kernel
theorem dL_areOrdersSo_34 : decode cL_areOrdersSo 34 = .ok (.iconst 0, 1) := by decide +kernel
theorem dL_areOrdersSo_35 : decode cL_areOrdersSo 35 = .ok (.aload_n 0, 1) := by decide +kernel
theorem dL_areOrdersSo_36 : decode cL_areOrdersSo 36 = .ok (.iload_n 1, 1) := by decide +kernel
theorem dL_areOrdersSo_37 : decode cL_areOrdersSo 37 = .ok (.invokevirtual 154, 3) := by decide +kernel
theorem dL_areOrdersSo_40 : decode cL_areOrdersSo 40 = .ok (.ifCond .le 7, 3) := by decide +kernel
theorem dL_areOrdersSo_43 : decode cL_areOrdersSo 43 = .ok (.iconst 1, 1) := by decide +kernel
theorem dL_areOrdersSo_44 : decode cL_areOrdersSo 44 = .ok (.goto 4, 3) := by decide +kernel
theorem dL_areOrdersSo_47 : decode cL_areOrdersSo 47 = .ok (.iconst 0, 1) := by decide +kernel
theorem dL_areOrdersSo_48 : decode cL_areOrdersSo 48 = .ok (.if_icmp .ne 41, 3) := by decide +kernel
theorem dL_areOrdersSo_51 : decode cL_areOrdersSo 51 = .ok (.aload_n 0, 1) := by decide +kernel
theorem dL_areOrdersSo_52 : decode cL_areOrdersSo 52 = .ok (.iload_n 1, 1) := by decide +kernel
theorem dL_areOrdersSo_53 : decode cL_areOrdersSo 53 = .ok (.invokevirtual 154, 3) := by decide +kernel
theorem dL_areOrdersSo_56 : decode cL_areOrdersSo 56 = .ok (.bipush 7, 2) := by decide +kernel
theorem dL_areOrdersSo_58 : decode cL_areOrdersSo 58 = .ok (.if_icmp .ge 31, 3) := by decide +kernel
theorem dL_areOrdersSo_61 : decode cL_areOrdersSo 61 = .ok (.aload_n 0, 1) := by decide +kernel
theorem dL_areOrdersSo_62 : decode cL_areOrdersSo 62 = .ok (.iload_n 1, 1) := by decide +kernel
theorem dL_areOrdersSo_63 : decode cL_areOrdersSo 63 = .ok (.invokevirtual 136, 3) := by decide +kernel
theorem dL_areOrdersSo_66 : decode cL_areOrdersSo 66 = .ok (.ifCond .lt 23, 3) := by decide +kernel
theorem dL_areOrdersSo_69 : decode cL_areOrdersSo 69 = .ok (.aload_n 0, 1) := by decide +kernel
theorem dL_areOrdersSo_70 : decode cL_areOrdersSo 70 = .ok (.iload_n 1, 1) := by decide +kernel
theorem dL_areOrdersSo_71 : decode cL_areOrdersSo 71 = .ok (.invokevirtual 139, 3) := by decide +kernel
theorem dL_areOrdersSo_74 : decode cL_areOrdersSo 74 = .ok (.ifCond .lt 15, 3) := by decide +kernel
theorem dL_areOrdersSo_77 : decode cL_areOrdersSo 77 = .ok (.aload_n 0, 1) := by decide +kernel
theorem dL_areOrdersSo_78 : decode cL_areOrdersSo 78 = .ok (.iload_n 1, 1) := by decide +kernel
theorem dL_areOrdersSo_79 : decode cL_areOrdersSo 79 = .ok (.invokevirtual 157, 3) := by decide +kernel
theorem dL_areOrdersSo_82 : decode cL_areOrdersSo 82 = .ok (.ifCond .le 7, 3) := by decide +kernel
theorem dL_areOrdersSo_85 : decode cL_areOrdersSo 85 = .ok (.iconst 1, 1) := by decide +kernel
theorem dL_areOrdersSo_86 : decode cL_areOrdersSo 86 = .ok (.goto 4, 3) := by decide +kernel
theorem dL_areOrdersSo_89 : decode cL_areOrdersSo 89 = .ok (.iconst 0, 1) := by decide +kernel
theorem dL_areOrdersSo_90 : decode cL_areOrdersSo 90 = .ok (.istore_n 3, 1) := by decide +kernel
theorem dL_areOrdersSo_91 : decode cL_areOrdersSo 91 = .ok (.iload_n 3, 1) := by decide +kernel
theorem dL_areOrdersSo_92 : decode cL_areOrdersSo 92 = .ok (.ifCond .eq 23, 3) := by decide +kernel
theorem dL_areOrdersSo_95 : decode cL_areOrdersSo 95 = .ok (.iload_n 2, 1) := by decide +kernel
theorem dL_areOrdersSo_96 : decode cL_areOrdersSo 96 = .ok (.ifCond .ne 21, 3) := by decide +kernel
theorem dL_areOrdersSo_99 : decode cL_areOrdersSo 99 = .ok (.aload_n 0, 1) := by decide +kernel
theorem dL_areOrdersSo_100 : decode cL_areOrdersSo 100 = .ok (.iload_n 1, 1) := by decide +kernel
theorem dL_areOrdersSo_101 : decode cL_areOrdersSo 101 = .ok (.invokevirtual 136, 3) := by decide +kernel
theorem dL_areOrdersSo_104 : decode cL_areOrdersSo 104 = .ok (.ifCond .ne 11, 3) := by decide +kernel
theorem dL_areOrdersSo_107 : decode cL_areOrdersSo 107 = .ok (.aload_n 0, 1) := by decide +kernel
theorem dL_areOrdersSo_108 : decode cL_areOrdersSo 108 = .ok (.iload_n 1, 1) := by decide +kernel
theorem dL_areOrdersSo_109 : decode cL_areOrdersSo 109 = .ok (.invokevirtual 139, 3) := by decide +kernel
theorem dL_areOrdersSo_112 : decode cL_areOrdersSo 112 = .ok (.ifCond .eq 5, 3) := by decide +kernel
theorem dL_areOrdersSo_115 : decode cL_areOrdersSo 115 = .ok (.iconst 0, 1) := by decide +kernel
theorem dL_areOrdersSo_116 : decode cL_areOrdersSo 116 = .ok (.ireturn, 1) := by decide +kernel
theorem dL_areOrdersSo_117 : decode cL_areOrdersSo 117 = .ok (.iinc 1 1, 3) := by decide +kernel
theorem dL_areOrdersSo_120 : decode cL_areOrdersSo 120 = .ok (.goto (-118), 3) := by decide +kernel
theorem dL_areOrdersSo_123 : decode cL_areOrdersSo 123 = .ok (.iconst 0, 1) := by decide +kernel
theorem dL_areOrdersSo_124 : decode cL_areOrdersSo 124 = .ok (.istore_n 1, 1) := by decide +kernel
theorem dL_areOrdersSo_125 : decode cL_areOrdersSo 125 = .ok (.iload_n 1, 1) := by decide +kernel
theorem dL_areOrdersSo_126 : decode cL_areOrdersSo 126 = .ok (.aload_n 0, 1) := by decide +kernel
theorem dL_areOrdersSo_127 : decode cL_areOrdersSo 127 = .ok (.invokevirtual 118, 3) := by decide +kernel
theorem dL_areOrdersSo_130 : decode cL_areOrdersSo 130 = .ok (.if_icmp .ge 106, 3) := by decide +kernel
theorem dL_areOrdersSo_133 : decode cL_areOrdersSo 133 = .ok (.aload_n 0, 1) := by decide +kernel
theorem dL_areOrdersSo_134 : decode cL_areOrdersSo 134 = .ok (.iload_n 1, 1) := by decide +kernel
theorem dL_areOrdersSo_135 : decode cL_areOrdersSo 135 = .ok (.invokevirtual 160, 3) := by decide +kernel
theorem dL_areOrdersSo_138 : decode cL_areOrdersSo 138 = .ok (.istore_n 2, 1) := by decide +kernel
theorem dL_areOrdersSo_139 : decode cL_areOrdersSo 139 = .ok (.aload_n 0, 1) := by decide +kernel
theorem dL_areOrdersSo_140 : decode cL_areOrdersSo 140 = .ok (.iload_n 1, 1) := by decide +kernel
theorem dL_areOrdersSo_141 : decode cL_areOrdersSo 141 = .ok (.invokevirtual 163, 3) := by decide +kernel
theorem dL_areOrdersSo_144 : decode cL_areOrdersSo 144 = .ok (.istore_n 3, 1) := by decide +kernel
theorem dL_areOrdersSo_145 : decode cL_areOrdersSo 145 = .ok (.iload_n 2, 1) := by decide +kernel
theorem dL_areOrdersSo_146 : decode cL_areOrdersSo 146 = .ok (.iload_n 3, 1) := by decide +kernel
theorem dL_areOrdersSo_147 : decode cL_areOrdersSo 147 = .ok (.if_icmp .eq 73, 3) := by decide +kernel
theorem dL_areOrdersSo_150 : decode cL_areOrdersSo 150 = .ok (.iload_n 2, 1) := by decide +kernel
theorem dL_areOrdersSo_151 : decode cL_areOrdersSo 151 = .ok (.iconst (-1), 1) := by decide +kernel
theorem dL_areOrdersSo_152 : decode cL_areOrdersSo 152 = .ok (.if_icmp .lt 68, 3) := by decide +kernel
theorem dL_areOrdersSo_155 : decode cL_areOrdersSo 155 = .ok (.iload_n 2, 1) := by decide +kernel
theorem dL_areOrdersSo_156 : decode cL_areOrdersSo 156 = .ok (.iconst 4, 1) := by decide +kernel
theorem dL_areOrdersSo_157 : decode cL_areOrdersSo 157 = .ok (.if_icmp .ge 63, 3) := by decide +kernel
theorem dL_areOrdersSo_160 : decode cL_areOrdersSo 160 = .ok (.iload_n 3, 1) := by decide +kernel
theorem dL_areOrdersSo_161 : decode cL_areOrdersSo 161 = .ok (.iconst (-1), 1) := by decide +kernel
theorem dL_areOrdersSo_162 : decode cL_areOrdersSo 162 = .ok (.if_icmp .lt 58, 3) := by decide +kernel
theorem dL_areOrdersSo_165 : decode cL_areOrdersSo 165 = .ok (.iload_n 3, 1) := by decide +kernel
theorem dL_areOrdersSo_166 : decode cL_areOrdersSo 166 = .ok (.iconst 4, 1) := by decide +kernel
theorem dL_areOrdersSo_167 : decode cL_areOrdersSo 167 = .ok (.if_icmp .ge 53, 3) := by decide +kernel
theorem dL_areOrdersSo_170 : decode cL_areOrdersSo 170 = .ok (.aload_n 0, 1) := by decide +kernel
theorem dL_areOrdersSo_171 : decode cL_areOrdersSo 171 = .ok (.iload_n 1, 1) := by decide +kernel
theorem dL_areOrdersSo_172 : decode cL_areOrdersSo 172 = .ok (.invokevirtual 166, 3) := by decide +kernel
theorem dL_areOrdersSo_175 : decode cL_areOrdersSo 175 = .ok (.ifCond .le 45, 3) := by decide +kernel
theorem dL_areOrdersSo_178 : decode cL_areOrdersSo 178 = .ok (.aload_n 0, 1) := by decide +kernel
theorem dL_areOrdersSo_179 : decode cL_areOrdersSo 179 = .ok (.iload_n 1, 1) := by decide +kernel
theorem dL_areOrdersSo_180 : decode cL_areOrdersSo 180 = .ok (.invokevirtual 169, 3) := by decide +kernel
theorem dL_areOrdersSo_183 : decode cL_areOrdersSo 183 = .ok (.ifCond .lt 37, 3) := by decide +kernel
theorem dL_areOrdersSo_186 : decode cL_areOrdersSo 186 = .ok (.aload_n 0, 1) := by decide +kernel
theorem dL_areOrdersSo_187 : decode cL_areOrdersSo 187 = .ok (.iload_n 1, 1) := by decide +kernel
theorem dL_areOrdersSo_188 : decode cL_areOrdersSo 188 = .ok (.invokevirtual 169, 3) := by decide +kernel
theorem dL_areOrdersSo_191 : decode cL_areOrdersSo 191 = .ok (.bipush 8, 2) := by decide +kernel
theorem dL_areOrdersSo_193 : decode cL_areOrdersSo 193 = .ok (.if_icmp .ge 27, 3) := by decide +kernel
theorem dL_areOrdersSo_196 : decode cL_areOrdersSo 196 = .ok (.aload_n 0, 1) := by decide +kernel
theorem dL_areOrdersSo_197 : decode cL_areOrdersSo 197 = .ok (.iload_n 1, 1) := by decide +kernel
theorem dL_areOrdersSo_198 : decode cL_areOrdersSo 198 = .ok (.invokevirtual 172, 3) := by decide +kernel
theorem dL_areOrdersSo_201 : decode cL_areOrdersSo 201 = .ok (.ifCond .lt 19, 3) := by decide +kernel
theorem dL_areOrdersSo_204 : decode cL_areOrdersSo 204 = .ok (.aload_n 0, 1) := by decide +kernel
theorem dL_areOrdersSo_205 : decode cL_areOrdersSo 205 = .ok (.iload_n 1, 1) := by decide +kernel
theorem dL_areOrdersSo_206 : decode cL_areOrdersSo 206 = .ok (.invokevirtual 172, 3) := by decide +kernel
theorem dL_areOrdersSo_209 : decode cL_areOrdersSo 209 = .ok (.aload_n 0, 1) := by decide +kernel
theorem dL_areOrdersSo_210 : decode cL_areOrdersSo 210 = .ok (.invokevirtual 106, 3) := by decide +kernel
theorem dL_areOrdersSo_213 : decode cL_areOrdersSo 213 = .ok (.if_icmp .ge 7, 3) := by decide +kernel
theorem dL_areOrdersSo_216 : decode cL_areOrdersSo 216 = .ok (.iconst 1, 1) := by decide +kernel
theorem dL_areOrdersSo_217 : decode cL_areOrdersSo 217 = .ok (.goto 4, 3) := by decide +kernel
theorem dL_areOrdersSo_220 : decode cL_areOrdersSo 220 = .ok (.iconst 0, 1) := by decide +kernel
theorem dL_areOrdersSo_221 : decode cL_areOrdersSo 221 = .ok (.istore 4, 2) := by decide +kernel
theorem dL_areOrdersSo_223 : decode cL_areOrdersSo 223 = .ok (.iload 4, 2) := by decide +kernel
theorem dL_areOrdersSo_225 : decode cL_areOrdersSo 225 = .ok (.ifCond .ne 5, 3) := by decide +kernel
theorem dL_areOrdersSo_228 : decode cL_areOrdersSo 228 = .ok (.iconst 0, 1) := by decide +kernel
theorem dL_areOrdersSo_229 : decode cL_areOrdersSo 229 = .ok (.ireturn, 1) := by decide +kernel
theorem dL_areOrdersSo_230 : decode cL_areOrdersSo 230 = .ok (.iinc 1 1, 3) := by decide +kernel
theorem dL_areOrdersSo_233 : decode cL_areOrdersSo 233 = .ok (.goto (-108), 3) := by decide +kernel
theorem dL_areOrdersSo_236 : decode cL_areOrdersSo 236 = .ok (.iconst 0, 1) := by decide +kernel
theorem dL_areOrdersSo_237 : decode cL_areOrdersSo 237 = .ok (.istore_n 1, 1) := by decide +kernel
theorem dL_areOrdersSo_238 : decode cL_areOrdersSo 238 = .ok (.iload_n 1, 1) := by decide +kernel
theorem dL_areOrdersSo_239 : decode cL_areOrdersSo 239 = .ok (.iconst 4, 1) := by decide +kernel
theorem dL_areOrdersSo_240 : decode cL_areOrdersSo 240 = .ok (.if_icmp .ge 65, 3) := by decide +kernel
theorem dL_areOrdersSo_243 : decode cL_areOrdersSo 243 = .ok (.iconst 0, 1) := by decide +kernel
theorem dL_areOrdersSo_244 : decode cL_areOrdersSo 244 = .ok (.istore_n 2, 1) := by decide +kernel
theorem dL_areOrdersSo_245 : decode cL_areOrdersSo 245 = .ok (.iload_n 2, 1) := by decide +kernel
theorem dL_areOrdersSo_246 : decode cL_areOrdersSo 246 = .ok (.iconst 4, 1) := by decide +kernel
theorem dL_areOrdersSo_247 : decode cL_areOrdersSo 247 = .ok (.if_icmp .ge 34, 3) := by decide +kernel
theorem dL_areOrdersSo_250 : decode cL_areOrdersSo 250 = .ok (.aload_n 0, 1) := by decide +kernel
theorem dL_areOrdersSo_251 : decode cL_areOrdersSo 251 = .ok (.iload_n 1, 1) := by decide +kernel
theorem dL_areOrdersSo_252 : decode cL_areOrdersSo 252 = .ok (.iload_n 2, 1) := by decide +kernel
theorem dL_areOrdersSo_253 : decode cL_areOrdersSo 253 = .ok (.invokevirtual 127, 3) := by decide +kernel
theorem dL_areOrdersSo_256 : decode cL_areOrdersSo 256 = .ok (.ifCond .lt 17, 3) := by decide +kernel
theorem dL_areOrdersSo_259 : decode cL_areOrdersSo 259 = .ok (.iload_n 1, 1) := by decide +kernel
theorem dL_areOrdersSo_260 : decode cL_areOrdersSo 260 = .ok (.iload_n 2, 1) := by decide +kernel
theorem dL_areOrdersSo_261 : decode cL_areOrdersSo 261 = .ok (.if_icmp .ne 14, 3) := by decide +kernel
theorem dL_areOrdersSo_264 : decode cL_areOrdersSo 264 = .ok (.aload_n 0, 1) := by decide +kernel
theorem dL_areOrdersSo_265 : decode cL_areOrdersSo 265 = .ok (.iload_n 1, 1) := by decide +kernel
theorem dL_areOrdersSo_266 : decode cL_areOrdersSo 266 = .ok (.iload_n 2, 1) := by decide +kernel
theorem dL_areOrdersSo_267 : decode cL_areOrdersSo 267 = .ok (.invokevirtual 127, 3) := by decide +kernel
theorem dL_areOrdersSo_270 : decode cL_areOrdersSo 270 = .ok (.ifCond .eq 5, 3) := by decide +kernel
theorem dL_areOrdersSo_273 : decode cL_areOrdersSo 273 = .ok (.iconst 0, 1) := by decide +kernel
theorem dL_areOrdersSo_274 : decode cL_areOrdersSo 274 = .ok (.ireturn, 1) := by decide +kernel
theorem dL_areOrdersSo_275 : decode cL_areOrdersSo 275 = .ok (.iinc 2 1, 3) := by decide +kernel
theorem dL_areOrdersSo_278 : decode cL_areOrdersSo 278 = .ok (.goto (-33), 3) := by decide +kernel
theorem dL_areOrdersSo_281 : decode cL_areOrdersSo 281 = .ok (.aload_n 0, 1) := by decide +kernel
theorem dL_areOrdersSo_282 : decode cL_areOrdersSo 282 = .ok (.iload_n 1, 1) := by decide +kernel
theorem dL_areOrdersSo_283 : decode cL_areOrdersSo 283 = .ok (.invokevirtual 121, 3) := by decide +kernel
theorem dL_areOrdersSo_286 : decode cL_areOrdersSo 286 = .ok (.ifCond .lt 11, 3) := by decide +kernel
theorem dL_areOrdersSo_289 : decode cL_areOrdersSo 289 = .ok (.aload_n 0, 1) := by decide +kernel
theorem dL_areOrdersSo_290 : decode cL_areOrdersSo 290 = .ok (.iload_n 1, 1) := by decide +kernel
theorem dL_areOrdersSo_291 : decode cL_areOrdersSo 291 = .ok (.invokevirtual 124, 3) := by decide +kernel
theorem dL_areOrdersSo_294 : decode cL_areOrdersSo 294 = .ok (.ifCond .ge 5, 3) := by decide +kernel
theorem dL_areOrdersSo_297 : decode cL_areOrdersSo 297 = .ok (.iconst 0, 1) := by decide +kernel
theorem dL_areOrdersSo_298 : decode cL_areOrdersSo 298 = .ok (.ireturn, 1) := by decide +kernel
theorem dL_areOrdersSo_299 : decode cL_areOrdersSo 299 = .ok (.iinc 1 1, 3) := by decide +kernel
theorem dL_areOrdersSo_302 : decode cL_areOrdersSo 302 = .ok (.goto (-64), 3) := by decide +kernel
theorem dL_areOrdersSo_305 : decode cL_areOrdersSo 305 = .ok (.iconst 1, 1) := by decide +kernel
theorem dL_areOrdersSo_306 : decode cL_areOrdersSo 306 = .ok (.ireturn, 1) := by decide +kernel
theorem dL_law_0 : decode cL_law 0 = .ok (.bipush 8, 2) := by decide +kernel
theorem dL_law_2 : decode cL_law 2 = .ok (.newarray .int, 2) := by decide +kernel
theorem dL_law_4 : decode cL_law 4 = .ok (.astore_n 1, 1) := by decide +kernel
theorem dL_law_5 : decode cL_law 5 = .ok (.new 9, 3) := by decide +kernel
theorem dL_law_8 : decode cL_law 8 = .ok (.dup, 1) := by decide +kernel
theorem dL_law_9 : decode cL_law 9 = .ok (.invokespecial 175, 3) := by decide +kernel
theorem dL_law_12 : decode cL_law 12 = .ok (.astore_n 2, 1) := by decide +kernel
theorem dL_law_13 : decode cL_law 13 = .ok (.new 9, 3) := by decide +kernel
theorem dL_law_16 : decode cL_law 16 = .ok (.dup, 1) := by decide +kernel
theorem dL_law_17 : decode cL_law 17 = .ok (.invokespecial 175, 3) := by decide +kernel
theorem dL_law_20 : decode cL_law 20 = .ok (.astore_n 3, 1) := by decide +kernel
theorem dL_law_21 : decode cL_law 21 = .ok (.iconst 0, 1) := by decide +kernel
theorem dL_law_22 : decode cL_law 22 = .ok (.istore 4, 2) := by decide +kernel
theorem dL_law_24 : decode cL_law 24 = .ok (.iload 4, 2) := by decide +kernel
theorem dL_law_26 : decode cL_law 26 = .ok (.bipush 100, 2) := by decide +kernel
theorem dL_law_28 : decode cL_law 28 = .ok (.if_icmp .ge 277, 3) := by decide +kernel
theorem dL_law_31 : decode cL_law 31 = .ok (.aload_n 0, 1) := by decide +kernel
theorem dL_law_32 : decode cL_law 32 = .ok (.iload 4, 2) := by decide +kernel
theorem dL_law_34 : decode cL_law 34 = .ok (.invokestatic 176, 3) := by decide +kernel
theorem dL_law_37 : decode cL_law 37 = .ok (.istore 5, 2) := by decide +kernel
theorem dL_law_39 : decode cL_law 39 = .ok (.iload 5, 2) := by decide +kernel
theorem dL_law_41 : decode cL_law 41 = .ok (.bipush 7, 2) := by decide +kernel
theorem dL_law_43 : decode cL_law 43 = .ok (.invokestatic 67, 3) := by decide +kernel
theorem dL_law_46 : decode cL_law 46 = .ok (.ifCond .ne 116, 3) := by decide +kernel
theorem dL_law_49 : decode cL_law 49 = .ok (.iload 5, 2) := by decide +kernel
theorem dL_law_51 : decode cL_law 51 = .ok (.iconst 3, 1) := by decide +kernel
theorem dL_law_52 : decode cL_law 52 = .ok (.ishr, 1) := by decide +kernel
theorem dL_law_53 : decode cL_law 53 = .ok (.iconst 3, 1) := by decide +kernel
theorem dL_law_54 : decode cL_law 54 = .ok (.invokestatic 67, 3) := by decide +kernel
theorem dL_law_57 : decode cL_law 57 = .ok (.istore 6, 2) := by decide +kernel
theorem dL_law_59 : decode cL_law 59 = .ok (.aload_n 2, 1) := by decide +kernel
theorem dL_law_60 : decode cL_law 60 = .ok (.iload 6, 2) := by decide +kernel
theorem dL_law_62 : decode cL_law 62 = .ok (.iconst 1, 1) := by decide +kernel
theorem dL_law_63 : decode cL_law 63 = .ok (.iload 5, 2) := by decide +kernel
theorem dL_law_65 : decode cL_law 65 = .ok (.bipush 6, 2) := by decide +kernel
theorem dL_law_67 : decode cL_law 67 = .ok (.ishr, 1) := by decide +kernel
theorem dL_law_68 : decode cL_law 68 = .ok (.bipush 9, 2) := by decide +kernel
theorem dL_law_70 : decode cL_law 70 = .ok (.invokestatic 67, 3) := by decide +kernel
theorem dL_law_73 : decode cL_law 73 = .ok (.iadd, 1) := by decide +kernel
theorem dL_law_74 : decode cL_law 74 = .ok (.invokestatic 180, 3) := by decide +kernel
theorem dL_law_77 : decode cL_law 77 = .ok (.istore 7, 2) := by decide +kernel
theorem dL_law_79 : decode cL_law 79 = .ok (.aload_n 1, 1) := by decide +kernel
theorem dL_law_80 : decode cL_law 80 = .ok (.iload 6, 2) := by decide +kernel
theorem dL_law_82 : decode cL_law 82 = .ok (.dup2, 1) := by decide +kernel
theorem dL_law_83 : decode cL_law 83 = .ok (.iaload, 1) := by decide +kernel
theorem dL_law_84 : decode cL_law 84 = .ok (.iconst 1, 1) := by decide +kernel
theorem dL_law_85 : decode cL_law 85 = .ok (.iload 5, 2) := by decide +kernel
theorem dL_law_87 : decode cL_law 87 = .ok (.bipush 6, 2) := by decide +kernel
theorem dL_law_89 : decode cL_law 89 = .ok (.ishr, 1) := by decide +kernel
theorem dL_law_90 : decode cL_law 90 = .ok (.bipush 9, 2) := by decide +kernel
theorem dL_law_92 : decode cL_law 92 = .ok (.invokestatic 67, 3) := by decide +kernel
theorem dL_law_95 : decode cL_law 95 = .ok (.iadd, 1) := by decide +kernel
theorem dL_law_96 : decode cL_law 96 = .ok (.iadd, 1) := by decide +kernel
theorem dL_law_97 : decode cL_law 97 = .ok (.iastore, 1) := by decide +kernel
theorem dL_law_98 : decode cL_law 98 = .ok (.iload 7, 2) := by decide +kernel
theorem dL_law_100 : decode cL_law 100 = .ok (.aload_n 2, 1) := by decide +kernel
theorem dL_law_101 : decode cL_law 101 = .ok (.iconst (-1), 1) := by decide +kernel
theorem dL_law_102 : decode cL_law 102 = .ok (.iload 6, 2) := by decide +kernel
theorem dL_law_104 : decode cL_law 104 = .ok (.invokevirtual 145, 3) := by decide +kernel
theorem dL_law_107 : decode cL_law 107 = .ok (.if_icmp .ne 50, 3) := by decide +kernel
theorem dL_law_110 : decode cL_law 110 = .ok (.aload_n 3, 1) := by decide +kernel
theorem dL_law_111 : decode cL_law 111 = .ok (.iload 6, 2) := by decide +kernel
theorem dL_law_113 : decode cL_law 113 = .ok (.iconst 1, 1) := by decide +kernel
theorem dL_law_114 : decode cL_law 114 = .ok (.iload 5, 2) := by decide +kernel
theorem dL_law_116 : decode cL_law 116 = .ok (.bipush 6, 2) := by decide +kernel
theorem dL_law_118 : decode cL_law 118 = .ok (.ishr, 1) := by decide +kernel
theorem dL_law_119 : decode cL_law 119 = .ok (.bipush 9, 2) := by decide +kernel
theorem dL_law_121 : decode cL_law 121 = .ok (.invokestatic 67, 3) := by decide +kernel
theorem dL_law_124 : decode cL_law 124 = .ok (.iadd, 1) := by decide +kernel
theorem dL_law_125 : decode cL_law 125 = .ok (.invokestatic 180, 3) := by decide +kernel
theorem dL_law_128 : decode cL_law 128 = .ok (.iload 7, 2) := by decide +kernel
theorem dL_law_130 : decode cL_law 130 = .ok (.if_icmp .ne 27, 3) := by decide +kernel
theorem dL_law_133 : decode cL_law 133 = .ok (.aload_n 2, 1) := by decide +kernel
theorem dL_law_134 : decode cL_law 134 = .ok (.bipush 8, 2) := by decide +kernel
theorem dL_law_136 : decode cL_law 136 = .ok (.iconst 1, 1) := by decide +kernel
theorem dL_law_137 : decode cL_law 137 = .ok (.invokestatic 180, 3) := by decide +kernel
theorem dL_law_140 : decode cL_law 140 = .ok (.ldc 16, 2) := by decide +kernel
theorem dL_law_142 : decode cL_law 142 = .ok (.if_icmp .ne 15, 3) := by decide +kernel
theorem dL_law_145 : decode cL_law 145 = .ok (.aload_n 2, 1) := by decide +kernel
theorem dL_law_146 : decode cL_law 146 = .ok (.iload 6, 2) := by decide +kernel
theorem dL_law_148 : decode cL_law 148 = .ok (.iconst 0, 1) := by decide +kernel
theorem dL_law_149 : decode cL_law 149 = .ok (.invokestatic 180, 3) := by decide +kernel
theorem dL_law_152 : decode cL_law 152 = .ok (.ldc 16, 2) := by decide +kernel
theorem dL_law_154 : decode cL_law 154 = .ok (.if_icmp .eq 5, 3) := by decide +kernel
theorem dL_law_157 : decode cL_law 157 = .ok (.iconst 0, 1) := by decide +kernel
theorem dL_law_158 : decode cL_law 158 = .ok (.ireturn, 1) := by decide +kernel
theorem dL_law_159 : decode cL_law 159 = .ok (.goto 35, 3) := by decide +kernel
theorem dL_law_162 : decode cL_law 162 = .ok (.aload_n 2, 1) := by decide +kernel
theorem dL_law_163 : decode cL_law 163 = .ok (.iload 5, 2) := by decide +kernel
theorem dL_law_165 : decode cL_law 165 = .ok (.iconst 2, 1) := by decide +kernel
theorem dL_law_166 : decode cL_law 166 = .ok (.ishr, 1) := by decide +kernel
theorem dL_law_167 : decode cL_law 167 = .ok (.invokestatic 182, 3) := by decide +kernel
theorem dL_law_170 : decode cL_law 170 = .ok (.istore 6, 2) := by decide +kernel
theorem dL_law_172 : decode cL_law 172 = .ok (.iload 6, 2) := by decide +kernel
theorem dL_law_174 : decode cL_law 174 = .ok (.ldc 16, 2) := by decide +kernel
theorem dL_law_176 : decode cL_law 176 = .ok (.if_icmp .eq 18, 3) := by decide +kernel
theorem dL_law_179 : decode cL_law 179 = .ok (.aload_n 3, 1) := by decide +kernel
theorem dL_law_180 : decode cL_law 180 = .ok (.iload 5, 2) := by decide +kernel
theorem dL_law_182 : decode cL_law 182 = .ok (.iconst 2, 1) := by decide +kernel
theorem dL_law_183 : decode cL_law 183 = .ok (.ishr, 1) := by decide +kernel
theorem dL_law_184 : decode cL_law 184 = .ok (.invokestatic 182, 3) := by decide +kernel
theorem dL_law_187 : decode cL_law 187 = .ok (.iload 6, 2) := by decide +kernel
theorem dL_law_189 : decode cL_law 189 = .ok (.if_icmp .eq 5, 3) := by decide +kernel
theorem dL_law_192 : decode cL_law 192 = .ok (.iconst 0, 1) := by decide +kernel
theorem dL_law_193 : decode cL_law 193 = .ok (.ireturn, 1) := by decide +kernel
theorem dL_law_194 : decode cL_law 194 = .ok (.aload_n 2, 1) := by decide +kernel
theorem dL_law_195 : decode cL_law 195 = .ok (.aload_n 3, 1) := by decide +kernel
theorem dL_law_196 : decode cL_law 196 = .ok (.invokestatic 185, 3) := by decide +kernel
theorem dL_law_199 : decode cL_law 199 = .ok (.ifCond .eq 38, 3) := by decide +kernel
theorem dL_law_202 : decode cL_law 202 = .ok (.iload 4, 2) := by decide +kernel
theorem dL_law_204 : decode cL_law 204 = .ok (.bipush 10, 2) := by decide +kernel
theorem dL_law_206 : decode cL_law 206 = .ok (.irem, 1) := by decide +kernel
theorem dL_law_207 : decode cL_law 207 = .ok (.bipush 9, 2) := by decide +kernel
theorem dL_law_209 : decode cL_law 209 = .ok (.if_icmp .ne 11, 3) := by decide +kernel
theorem dL_law_212 : decode cL_law 212 = .ok (.aload_n 2, 1) := by decide +kernel
theorem dL_law_213 : decode cL_law 213 = .ok (.aload_n 1, 1) := by decide +kernel
theorem dL_law_214 : decode cL_law 214 = .ok (.invokestatic 189, 3) := by decide +kernel
theorem dL_law_217 : decode cL_law 217 = .ok (.ifCond .eq 20, 3) := by decide +kernel
theorem dL_law_220 : decode cL_law 220 = .ok (.iload 4, 2) := by decide +kernel
theorem dL_law_222 : decode cL_law 222 = .ok (.bipush 12, 2) := by decide +kernel
theorem dL_law_224 : decode cL_law 224 = .ok (.irem, 1) := by decide +kernel
theorem dL_law_225 : decode cL_law 225 = .ok (.bipush 11, 2) := by decide +kernel
theorem dL_law_227 : decode cL_law 227 = .ok (.if_icmp .ne 12, 3) := by decide +kernel
theorem dL_law_230 : decode cL_law 230 = .ok (.aload_n 2, 1) := by decide +kernel
theorem dL_law_231 : decode cL_law 231 = .ok (.invokestatic 193, 3) := by decide +kernel
theorem dL_law_234 : decode cL_law 234 = .ok (.ifCond .ne 5, 3) := by decide +kernel
theorem dL_law_237 : decode cL_law 237 = .ok (.iconst 0, 1) := by decide +kernel
theorem dL_law_238 : decode cL_law 238 = .ok (.ireturn, 1) := by decide +kernel
theorem dL_law_239 : decode cL_law 239 = .ok (.iload 5, 2) := by decide +kernel
theorem dL_law_241 : decode cL_law 241 = .ok (.iconst 5, 1) := by decide +kernel
theorem dL_law_242 : decode cL_law 242 = .ok (.ishr, 1) := by decide +kernel
theorem dL_law_243 : decode cL_law 243 = .ok (.bipush 8, 2) := by decide +kernel
theorem dL_law_245 : decode cL_law 245 = .ok (.invokestatic 67, 3) := by decide +kernel
theorem dL_law_248 : decode cL_law 248 = .ok (.istore 6, 2) := by decide +kernel
theorem dL_law_250 : decode cL_law 250 = .ok (.aload_n 2, 1) := by decide +kernel
theorem dL_law_251 : decode cL_law 251 = .ok (.iload 6, 2) := by decide +kernel
theorem dL_law_253 : decode cL_law 253 = .ok (.invokestatic 197, 3) := by decide +kernel
theorem dL_law_256 : decode cL_law 256 = .ok (.iconst (-1), 1) := by decide +kernel
theorem dL_law_257 : decode cL_law 257 = .ok (.if_icmp .ne 7, 3) := by decide +kernel
theorem dL_law_260 : decode cL_law 260 = .ok (.iconst 1, 1) := by decide +kernel
theorem dL_law_261 : decode cL_law 261 = .ok (.goto 4, 3) := by decide +kernel
theorem dL_law_264 : decode cL_law 264 = .ok (.iconst 0, 1) := by decide +kernel
theorem dL_law_265 : decode cL_law 265 = .ok (.aload_n 2, 1) := by decide +kernel
theorem dL_law_266 : decode cL_law 266 = .ok (.iload 6, 2) := by decide +kernel
theorem dL_law_268 : decode cL_law 268 = .ok (.invokevirtual 130, 3) := by decide +kernel
theorem dL_law_271 : decode cL_law 271 = .ok (.ifCond .lt 7, 3) := by decide +kernel
theorem dL_law_274 : decode cL_law 274 = .ok (.iconst 1, 1) := by decide +kernel
theorem dL_law_275 : decode cL_law 275 = .ok (.goto 4, 3) := by decide +kernel
theorem dL_law_278 : decode cL_law 278 = .ok (.iconst 0, 1) := by decide +kernel
theorem dL_law_279 : decode cL_law 279 = .ok (.if_icmp .ne 18, 3) := by decide +kernel
theorem dL_law_282 : decode cL_law 282 = .ok (.aload_n 2, 1) := by decide +kernel
theorem dL_law_283 : decode cL_law 283 = .ok (.iload 6, 2) := by decide +kernel
theorem dL_law_285 : decode cL_law 285 = .ok (.invokevirtual 130, 3) := by decide +kernel
theorem dL_law_288 : decode cL_law 288 = .ok (.aload_n 2, 1) := by decide +kernel
theorem dL_law_289 : decode cL_law 289 = .ok (.iload 6, 2) := by decide +kernel
theorem dL_law_291 : decode cL_law 291 = .ok (.invokevirtual 64, 3) := by decide +kernel
theorem dL_law_294 : decode cL_law 294 = .ok (.if_icmp .le 5, 3) := by decide +kernel
theorem dL_law_297 : decode cL_law 297 = .ok (.iconst 0, 1) := by decide +kernel
theorem dL_law_298 : decode cL_law 298 = .ok (.ireturn, 1) := by decide +kernel
theorem dL_law_299 : decode cL_law 299 = .ok (.iinc 4 1, 3) := by decide +kernel
theorem dL_law_302 : decode cL_law 302 = .ok (.goto (-278), 3) := by decide +kernel
theorem dL_law_305 : decode cL_law 305 = .ok (.aload_n 2, 1) := by decide +kernel
theorem dL_law_306 : decode cL_law 306 = .ok (.aload_n 1, 1) := by decide +kernel
theorem dL_law_307 : decode cL_law 307 = .ok (.invokestatic 189, 3) := by decide +kernel
theorem dL_law_310 : decode cL_law 310 = .ok (.ifCond .eq 14, 3) := by decide +kernel
theorem dL_law_313 : decode cL_law 313 = .ok (.aload_n 2, 1) := by decide +kernel
theorem dL_law_314 : decode cL_law 314 = .ok (.invokestatic 193, 3) := by decide +kernel
theorem dL_law_317 : decode cL_law 317 = .ok (.ifCond .eq 7, 3) := by decide +kernel
theorem dL_law_320 : decode cL_law 320 = .ok (.iconst 1, 1) := by decide +kernel
theorem dL_law_321 : decode cL_law 321 = .ok (.goto 4, 3) := by decide +kernel
theorem dL_law_324 : decode cL_law 324 = .ok (.iconst 0, 1) := by decide +kernel
theorem dL_law_325 : decode cL_law 325 = .ok (.ireturn, 1) := by decide +kernel
