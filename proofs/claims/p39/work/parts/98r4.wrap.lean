/-! THE LAW'S LINKS, and its methods that catch what a call throws -/
theorem xl_14 : Cond.classLink RL 14 (exN 1) ∈ BG := BG_at 562 (by decide +kernel) (by decide +kernel)
theorem xl_17 : Cond.classLink RL 17 (exN 2) ∈ BG := BG_at 563 (by decide +kernel) (by decide +kernel)
theorem xl_59 : Cond.classLink RL 59 (exN 3) ∈ BG := BG_at 1016 (by decide +kernel) (by decide +kernel)
theorem xc_1 : Cond.castable (exN 1) (exN 1) ∈ NX := List.mem_filter.mpr ⟨List.mem_of_getElem? (i := 380) (by decide +kernel), rfl⟩
theorem xc_2 : Cond.castable (exN 2) (exN 2) ∈ NX := List.mem_filter.mpr ⟨List.mem_of_getElem? (i := 573) (by decide +kernel), rfl⟩
theorem xc_3 : Cond.castable (exN 3) (exN 3) ∈ NX := List.mem_filter.mpr ⟨List.mem_of_getElem? (i := 1030) (by decide +kernel), rfl⟩
theorem ld_L_7 : Cond.constant RL 7 2147483647 ∈ BG := BG_at 558 (by decide +kernel) (by decide +kernel)
theorem ld_L_16 : Cond.constant RL 16 (-99999) ∈ BG := BG_at 602 (by decide +kernel) (by decide +kernel)
theorem ld_L_61 : Cond.constant RL 61 394691 ∈ BG := BG_at 1049 (by decide +kernel) (by decide +kernel)
theorem ld_L_62 : Cond.constant RL 62 12387497 ∈ BG := BG_at 1050 (by decide +kernel) (by decide +kernel)
theorem ld_L_63 : Cond.constant RL 63 240373 ∈ BG := BG_at 1051 (by decide +kernel) (by decide +kernel)
theorem cv_L_64 : CV RL 64 yX11_length RX11 cX11_length 2 (some .int) 1 := ⟨⟨BG_at 365 (by decide +kernel) (by decide +kernel), BG_at 366 (by decide +kernel) (by decide +kernel), BG_at 367 (by decide +kernel) (by decide +kernel), BG_at 36 (by decide +kernel) (by decide +kernel), BG_at 368 (by decide +kernel) (by decide +kernel)⟩, rfl, by decide, by decide, by decide +kernel⟩
theorem cv_L_130 : CV RL 130 yX11_fault RX11 cX11_fault 2 (some .int) 1 := ⟨⟨BG_at 445 (by decide +kernel) (by decide +kernel), BG_at 446 (by decide +kernel) (by decide +kernel), BG_at 447 (by decide +kernel) (by decide +kernel), BG_at 36 (by decide +kernel) (by decide +kernel), BG_at 448 (by decide +kernel) (by decide +kernel)⟩, rfl, by decide, by decide, by decide +kernel⟩
theorem cv_L_145 : CV RL 145 yX11_stock RX11 cX11_stock 3 (some .int) 2 := ⟨⟨BG_at 538 (by decide +kernel) (by decide +kernel), BG_at 539 (by decide +kernel) (by decide +kernel), BG_at 540 (by decide +kernel) (by decide +kernel), BG_at 36 (by decide +kernel) (by decide +kernel), BG_at 541 (by decide +kernel) (by decide +kernel)⟩, rfl, by decide, by decide, by decide +kernel⟩
set_option maxRecDepth 100000 in
theorem cs_L_176 : CS RL 176 yL_cell cL_cell 2 (some .int) 2 := ⟨⟨BG_at 552 (by decide +kernel) (by decide +kernel), BG_at 553 (by decide +kernel) (by decide +kernel), BG_at 35 (by decide +kernel) (by decide +kernel), BG_at 554 (by decide +kernel) (by decide +kernel)⟩, by decide, by decide, by decide +kernel⟩
set_option maxRecDepth 100000 in
theorem cs_L_67 : CS RL 67 yL_low cL_low 2 (some .int) 2 := ⟨⟨BG_at 555 (by decide +kernel) (by decide +kernel), BG_at 556 (by decide +kernel) (by decide +kernel), BG_at 35 (by decide +kernel) (by decide +kernel), BG_at 557 (by decide +kernel) (by decide +kernel)⟩, by decide, by decide, by decide +kernel⟩
theorem cs_L_197 : CSh RL 197 yL_expressions cL_expressions 3 (some .int) [(0, 5, 6, 14), (0, 5, 10, 17)] 2 := ⟨⟨BG_at 559 (by decide +kernel) (by decide +kernel), BG_at 560 (by decide +kernel) (by decide +kernel), BG_at 35 (by decide +kernel) (by decide +kernel), BG_at 561 (by decide +kernel) (by decide +kernel)⟩, by decide, by decide, by decide +kernel⟩
theorem cv_L_22 : CV RL 22 yX11_expressions RX11 cX11_expressions 2 (some .int) 1 := ⟨⟨BG_at 564 (by decide +kernel) (by decide +kernel), BG_at 565 (by decide +kernel) (by decide +kernel), BG_at 566 (by decide +kernel) (by decide +kernel), BG_at 36 (by decide +kernel) (by decide +kernel), BG_at 567 (by decide +kernel) (by decide +kernel)⟩, rfl, by decide, by decide, by decide +kernel⟩
theorem cs_L_180 : CSh RL 180 yL_supply cL_supply 4 (some .int) [(0, 6, 7, 14)] 3 := ⟨⟨BG_at 591 (by decide +kernel) (by decide +kernel), BG_at 592 (by decide +kernel) (by decide +kernel), BG_at 35 (by decide +kernel) (by decide +kernel), BG_at 593 (by decide +kernel) (by decide +kernel)⟩, by decide, by decide, by decide +kernel⟩
theorem cv_L_26 : CV RL 26 yX11_supply RX11 cX11_supply 3 (some .int) 2 := ⟨⟨BG_at 594 (by decide +kernel) (by decide +kernel), BG_at 595 (by decide +kernel) (by decide +kernel), BG_at 596 (by decide +kernel) (by decide +kernel), BG_at 36 (by decide +kernel) (by decide +kernel), BG_at 597 (by decide +kernel) (by decide +kernel)⟩, rfl, by decide, by decide, by decide +kernel⟩
set_option maxRecDepth 100000 in
theorem cs_L_182 : CS RL 182 yL_act cL_act 5 (some .int) 2 := ⟨⟨BG_at 603 (by decide +kernel) (by decide +kernel), BG_at 604 (by decide +kernel) (by decide +kernel), BG_at 35 (by decide +kernel) (by decide +kernel), BG_at 605 (by rfl) (by decide +kernel)⟩, by decide, by decide, by decide +kernel⟩
theorem cs_L_82 : CSh RL 82 yL_type cL_type 4 (some .int) [(0, 6, 7, 14), (0, 6, 11, 17)] 3 := ⟨⟨BG_at 606 (by decide +kernel) (by decide +kernel), BG_at 607 (by decide +kernel) (by decide +kernel), BG_at 35 (by decide +kernel) (by decide +kernel), BG_at 608 (by decide +kernel) (by decide +kernel)⟩, by decide, by decide, by decide +kernel⟩
theorem cv_L_8 : CV RL 8 yX11_type RX11 cX11_type 3 (some .int) 2 := ⟨⟨BG_at 609 (by decide +kernel) (by decide +kernel), BG_at 610 (by decide +kernel) (by decide +kernel), BG_at 611 (by decide +kernel) (by decide +kernel), BG_at 36 (by decide +kernel) (by decide +kernel), BG_at 612 (by decide +kernel) (by decide +kernel)⟩, rfl, by decide, by decide, by decide +kernel⟩
theorem cs_L_84 : CSh RL 84 yL_erase cL_erase 4 (some .int) [(0, 6, 7, 14)] 3 := ⟨⟨BG_at 620 (by decide +kernel) (by decide +kernel), BG_at 621 (by decide +kernel) (by decide +kernel), BG_at 35 (by decide +kernel) (by decide +kernel), BG_at 622 (by decide +kernel) (by decide +kernel)⟩, by decide, by decide, by decide +kernel⟩
theorem cv_L_19 : CV RL 19 yX11_erase RX11 cX11_erase 3 (some .int) 2 := ⟨⟨BG_at 623 (by decide +kernel) (by decide +kernel), BG_at 624 (by decide +kernel) (by decide +kernel), BG_at 625 (by decide +kernel) (by decide +kernel), BG_at 36 (by decide +kernel) (by decide +kernel), BG_at 626 (by decide +kernel) (by decide +kernel)⟩, rfl, by decide, by decide, by decide +kernel⟩
theorem cs_L_86 : CSh RL 86 yL_giveRations cL_giveRations 4 (some .int) [(0, 6, 7, 14)] 3 := ⟨⟨BG_at 634 (by decide +kernel) (by decide +kernel), BG_at 635 (by decide +kernel) (by decide +kernel), BG_at 35 (by decide +kernel) (by decide +kernel), BG_at 636 (by decide +kernel) (by decide +kernel)⟩, by decide, by decide, by decide +kernel⟩
theorem cv_L_29 : CV RL 29 yX11_giveRations RX11 cX11_giveRations 3 (some .int) 2 := ⟨⟨BG_at 637 (by decide +kernel) (by decide +kernel), BG_at 638 (by decide +kernel) (by decide +kernel), BG_at 639 (by decide +kernel) (by decide +kernel), BG_at 36 (by decide +kernel) (by decide +kernel), BG_at 640 (by decide +kernel) (by decide +kernel)⟩, rfl, by decide, by decide, by decide +kernel⟩
theorem cs_L_88 : CSh RL 88 yL_buy cL_buy 4 (some .int) [(0, 6, 7, 14), (0, 6, 11, 17)] 3 := ⟨⟨BG_at 648 (by decide +kernel) (by decide +kernel), BG_at 649 (by decide +kernel) (by decide +kernel), BG_at 35 (by decide +kernel) (by decide +kernel), BG_at 650 (by decide +kernel) (by decide +kernel)⟩, by decide, by decide, by decide +kernel⟩
theorem cv_L_35 : CV RL 35 yX11_buy RX11 cX11_buy 3 (some .int) 2 := ⟨⟨BG_at 651 (by decide +kernel) (by decide +kernel), BG_at 652 (by decide +kernel) (by decide +kernel), BG_at 653 (by decide +kernel) (by decide +kernel), BG_at 36 (by decide +kernel) (by decide +kernel), BG_at 654 (by decide +kernel) (by decide +kernel)⟩, rfl, by decide, by decide, by decide +kernel⟩
theorem cs_L_90 : CSh RL 90 yL_setTariff cL_setTariff 3 (some .int) [(0, 5, 6, 14)] 2 := ⟨⟨BG_at 672 (by decide +kernel) (by decide +kernel), BG_at 673 (by decide +kernel) (by decide +kernel), BG_at 35 (by decide +kernel) (by decide +kernel), BG_at 674 (by decide +kernel) (by decide +kernel)⟩, by decide, by decide, by decide +kernel⟩
theorem cv_L_32 : CV RL 32 yX11_setTariff RX11 cX11_setTariff 2 (some .int) 1 := ⟨⟨BG_at 675 (by decide +kernel) (by decide +kernel), BG_at 676 (by decide +kernel) (by decide +kernel), BG_at 677 (by decide +kernel) (by decide +kernel), BG_at 36 (by decide +kernel) (by decide +kernel), BG_at 678 (by decide +kernel) (by decide +kernel)⟩, rfl, by decide, by decide, by decide +kernel⟩
theorem cs_L_93 : CSh RL 93 yL_setBuying cL_setBuying 4 (some .int) [(0, 14, 15, 14)] 3 := ⟨⟨BG_at 683 (by decide +kernel) (by decide +kernel), BG_at 684 (by decide +kernel) (by decide +kernel), BG_at 35 (by decide +kernel) (by decide +kernel), BG_at 685 (by decide +kernel) (by decide +kernel)⟩, by decide, by decide, by decide +kernel⟩
theorem cv_L_38 : CV RL 38 yX11_setBuying RX11 cX11_setBuying 3 (some .boolean) 2 := ⟨⟨BG_at 686 (by decide +kernel) (by decide +kernel), BG_at 687 (by decide +kernel) (by decide +kernel), BG_at 688 (by decide +kernel) (by decide +kernel), BG_at 36 (by decide +kernel) (by decide +kernel), BG_at 689 (by decide +kernel) (by decide +kernel)⟩, rfl, by decide, by decide, by decide +kernel⟩
theorem cs_L_96 : CSh RL 96 yL_setCredit cL_setCredit 5 (some .int) [(0, 7, 8, 14)] 4 := ⟨⟨BG_at 694 (by decide +kernel) (by decide +kernel), BG_at 695 (by decide +kernel) (by decide +kernel), BG_at 35 (by decide +kernel) (by decide +kernel), BG_at 696 (by decide +kernel) (by decide +kernel)⟩, by decide, by decide, by decide +kernel⟩
theorem cv_L_42 : CV RL 42 yX11_setCredit RX11 cX11_setCredit 4 (some .int) 3 := ⟨⟨BG_at 697 (by decide +kernel) (by decide +kernel), BG_at 698 (by decide +kernel) (by decide +kernel), BG_at 699 (by decide +kernel) (by decide +kernel), BG_at 36 (by decide +kernel) (by decide +kernel), BG_at 700 (by decide +kernel) (by decide +kernel)⟩, rfl, by decide, by decide, by decide +kernel⟩
theorem cs_L_99 : CSh RL 99 yL_payBack cL_payBack 5 (some .int) [(0, 7, 8, 14), (0, 7, 13, 17)] 4 := ⟨⟨BG_at 705 (by decide +kernel) (by decide +kernel), BG_at 706 (by decide +kernel) (by decide +kernel), BG_at 35 (by decide +kernel) (by decide +kernel), BG_at 707 (by decide +kernel) (by decide +kernel)⟩, by decide, by decide, by decide +kernel⟩
theorem cv_L_46 : CV RL 46 yX11_payBack RX11 cX11_payBack 4 (some .int) 3 := ⟨⟨BG_at 708 (by decide +kernel) (by decide +kernel), BG_at 709 (by decide +kernel) (by decide +kernel), BG_at 710 (by decide +kernel) (by decide +kernel), BG_at 36 (by decide +kernel) (by decide +kernel), BG_at 711 (by decide +kernel) (by decide +kernel)⟩, rfl, by decide, by decide, by decide +kernel⟩
theorem cs_L_101 : CSh RL 101 yL_order cL_order 6 (some .int) [(0, 9, 10, 14), (0, 9, 15, 17)] 5 := ⟨⟨BG_at 718 (by decide +kernel) (by decide +kernel), BG_at 719 (by decide +kernel) (by decide +kernel), BG_at 35 (by decide +kernel) (by decide +kernel), BG_at 720 (by decide +kernel) (by decide +kernel)⟩, by decide, by decide, by decide +kernel⟩
theorem cv_L_49 : CV RL 49 yX11_order RX11 cX11_order 5 (some .int) 4 := ⟨⟨BG_at 721 (by decide +kernel) (by decide +kernel), BG_at 722 (by decide +kernel) (by decide +kernel), BG_at 723 (by decide +kernel) (by decide +kernel), BG_at 36 (by decide +kernel) (by decide +kernel), BG_at 724 (by decide +kernel) (by decide +kernel)⟩, rfl, by decide, by decide, by decide +kernel⟩
theorem cs_L_104 : CSh RL 104 yL_pass cL_pass 3 (some .int) [(0, 5, 6, 14), (0, 5, 10, 17)] 2 := ⟨⟨BG_at 734 (by decide +kernel) (by decide +kernel), BG_at 735 (by decide +kernel) (by decide +kernel), BG_at 35 (by decide +kernel) (by decide +kernel), BG_at 736 (by decide +kernel) (by decide +kernel)⟩, by decide, by decide, by decide +kernel⟩
theorem cv_L_53 : CV RL 53 yX11_pass RX11 cX11_pass 7 (some .int) 1 := ⟨⟨BG_at 737 (by decide +kernel) (by decide +kernel), BG_at 738 (by decide +kernel) (by decide +kernel), BG_at 739 (by decide +kernel) (by decide +kernel), BG_at 36 (by decide +kernel) (by decide +kernel), BG_at 740 (by decide +kernel) (by decide +kernel)⟩, rfl, by decide, by decide, by decide +kernel⟩
theorem cv_L_106 : CV RL 106 yX11_orders RX11 cX11_orders 1 (some .int) 0 := ⟨⟨BG_at 1009 (by decide +kernel) (by decide +kernel), BG_at 1010 (by decide +kernel) (by decide +kernel), BG_at 1011 (by decide +kernel) (by decide +kernel), BG_at 36 (by decide +kernel) (by decide +kernel), BG_at 1012 (by decide +kernel) (by decide +kernel)⟩, rfl, by decide, by decide, by decide +kernel⟩
theorem cs_L_110 : CSh RL 110 yL_takeUp cL_takeUp 4 (some .int) [(0, 6, 7, 59), (0, 6, 11, 14), (0, 6, 15, 17)] 3 := ⟨⟨BG_at 1013 (by decide +kernel) (by decide +kernel), BG_at 1014 (by decide +kernel) (by decide +kernel), BG_at 35 (by decide +kernel) (by decide +kernel), BG_at 1015 (by decide +kernel) (by decide +kernel)⟩, by decide, by decide, by decide +kernel⟩
theorem cv_L_56 : CV RL 56 yX11_takeUp RX11 cX11_takeUp 4 (some .int) 2 := ⟨⟨BG_at 1017 (by decide +kernel) (by decide +kernel), BG_at 1018 (by decide +kernel) (by decide +kernel), BG_at 1019 (by decide +kernel) (by decide +kernel), BG_at 36 (by decide +kernel) (by decide +kernel), BG_at 1020 (by decide +kernel) (by decide +kernel)⟩, rfl, by decide, by decide, by decide +kernel⟩
set_option maxRecDepth 100000 in
theorem cs_L_112 : CS RL 112 yL_say cL_say 6 (some .int) 3 := ⟨⟨BG_at 1043 (by decide +kernel) (by decide +kernel), BG_at 1044 (by decide +kernel) (by decide +kernel), BG_at 35 (by decide +kernel) (by decide +kernel), BG_at 1045 (by rfl) (by decide +kernel)⟩, by decide, by decide, by decide +kernel⟩
set_option maxRecDepth 100000 in
theorem cs_L_72 : CS RL 72 yL_named cL_named 1 (some .int) 1 := ⟨⟨BG_at 1046 (by decide +kernel) (by decide +kernel), BG_at 1047 (by decide +kernel) (by decide +kernel), BG_at 35 (by decide +kernel) (by decide +kernel), BG_at 1048 (by decide +kernel) (by decide +kernel)⟩, by decide, by decide, by decide +kernel⟩
set_option maxRecDepth 100000 in
theorem cs_L_75 : CS RL 75 yL_sayName cL_sayName 6 (some .int) 3 := ⟨⟨BG_at 1052 (by decide +kernel) (by decide +kernel), BG_at 1053 (by decide +kernel) (by decide +kernel), BG_at 35 (by decide +kernel) (by decide +kernel), BG_at 1054 (by decide +kernel) (by decide +kernel)⟩, by decide, by decide, by decide +kernel⟩
set_option maxRecDepth 100000 in
theorem cs_L_79 : CS RL 79 yL_sayNumber cL_sayNumber 5 (some .int) 3 := ⟨⟨BG_at 1055 (by decide +kernel) (by decide +kernel), BG_at 1056 (by decide +kernel) (by decide +kernel), BG_at 35 (by decide +kernel) (by decide +kernel), BG_at 1057 (by decide +kernel) (by decide +kernel)⟩, by decide, by decide, by decide +kernel⟩
set_option maxRecDepth 100000 in
theorem cs_L_185 : CS RL 185 yL_areAlike cL_areAlike 5 (some .boolean) 2 := ⟨⟨BG_at 1058 (by decide +kernel) (by decide +kernel), BG_at 1059 (by decide +kernel) (by decide +kernel), BG_at 35 (by decide +kernel) (by decide +kernel), BG_at 1060 (by rfl) (by decide +kernel)⟩, by decide, by decide, by decide +kernel⟩
theorem cv_L_115 : CV RL 115 yX11_hour RX11 cX11_hour 1 (some .int) 0 := ⟨⟨BG_at 1061 (by decide +kernel) (by decide +kernel), BG_at 1062 (by decide +kernel) (by decide +kernel), BG_at 1063 (by decide +kernel) (by decide +kernel), BG_at 36 (by decide +kernel) (by decide +kernel), BG_at 1064 (by decide +kernel) (by decide +kernel)⟩, rfl, by decide, by decide, by decide +kernel⟩
theorem cv_L_118 : CV RL 118 yX11_moves RX11 cX11_moves 1 (some .int) 0 := ⟨⟨BG_at 1065 (by decide +kernel) (by decide +kernel), BG_at 1066 (by decide +kernel) (by decide +kernel), BG_at 1067 (by decide +kernel) (by decide +kernel), BG_at 36 (by decide +kernel) (by decide +kernel), BG_at 1068 (by decide +kernel) (by decide +kernel)⟩, rfl, by decide, by decide, by decide +kernel⟩
theorem cv_L_121 : CV RL 121 yX11_fuel RX11 cX11_fuel 2 (some .int) 1 := ⟨⟨BG_at 1069 (by decide +kernel) (by decide +kernel), BG_at 1070 (by decide +kernel) (by decide +kernel), BG_at 1071 (by decide +kernel) (by decide +kernel), BG_at 36 (by decide +kernel) (by decide +kernel), BG_at 1072 (by decide +kernel) (by decide +kernel)⟩, rfl, by decide, by decide, by decide +kernel⟩
theorem cv_L_124 : CV RL 124 yX11_rations RX11 cX11_rations 2 (some .int) 1 := ⟨⟨BG_at 1073 (by decide +kernel) (by decide +kernel), BG_at 1074 (by decide +kernel) (by decide +kernel), BG_at 1075 (by decide +kernel) (by decide +kernel), BG_at 36 (by decide +kernel) (by decide +kernel), BG_at 1076 (by decide +kernel) (by decide +kernel)⟩, rfl, by decide, by decide, by decide +kernel⟩
theorem cv_L_127 : CV RL 127 yX11_debt RX11 cX11_debt 3 (some .int) 2 := ⟨⟨BG_at 1077 (by decide +kernel) (by decide +kernel), BG_at 1078 (by decide +kernel) (by decide +kernel), BG_at 1079 (by decide +kernel) (by decide +kernel), BG_at 36 (by decide +kernel) (by decide +kernel), BG_at 1080 (by decide +kernel) (by decide +kernel)⟩, rfl, by decide, by decide, by decide +kernel⟩
theorem cv_L_133 : CV RL 133 yX11_state RX11 cX11_state 2 (some .int) 1 := ⟨⟨BG_at 1081 (by decide +kernel) (by decide +kernel), BG_at 1082 (by decide +kernel) (by decide +kernel), BG_at 1083 (by decide +kernel) (by decide +kernel), BG_at 36 (by decide +kernel) (by decide +kernel), BG_at 1084 (by decide +kernel) (by decide +kernel)⟩, rfl, by decide, by decide, by decide +kernel⟩
theorem cv_L_136 : CV RL 136 yX11_done RX11 cX11_done 2 (some .int) 1 := ⟨⟨BG_at 1085 (by decide +kernel) (by decide +kernel), BG_at 1086 (by decide +kernel) (by decide +kernel), BG_at 1087 (by decide +kernel) (by decide +kernel), BG_at 36 (by decide +kernel) (by decide +kernel), BG_at 1088 (by decide +kernel) (by decide +kernel)⟩, rfl, by decide, by decide, by decide +kernel⟩
theorem cv_L_139 : CV RL 139 yX11_used RX11 cX11_used 2 (some .int) 1 := ⟨⟨BG_at 1089 (by decide +kernel) (by decide +kernel), BG_at 1090 (by decide +kernel) (by decide +kernel), BG_at 1091 (by decide +kernel) (by decide +kernel), BG_at 36 (by decide +kernel) (by decide +kernel), BG_at 1092 (by decide +kernel) (by decide +kernel)⟩, rfl, by decide, by decide, by decide +kernel⟩
theorem cv_L_142 : CV RL 142 yX11_value RX11 cX11_value 2 (some .int) 1 := ⟨⟨BG_at 1093 (by decide +kernel) (by decide +kernel), BG_at 1094 (by decide +kernel) (by decide +kernel), BG_at 1095 (by decide +kernel) (by decide +kernel), BG_at 36 (by decide +kernel) (by decide +kernel), BG_at 1096 (by decide +kernel) (by decide +kernel)⟩, rfl, by decide, by decide, by decide +kernel⟩
set_option maxRecDepth 100000 in
theorem cs_L_189 : CS RL 189 yL_areStocksSo cL_areStocksSo 7 (some .boolean) 2 := ⟨⟨BG_at 1097 (by decide +kernel) (by decide +kernel), BG_at 1098 (by decide +kernel) (by decide +kernel), BG_at 35 (by decide +kernel) (by decide +kernel), BG_at 1099 (by rfl) (by decide +kernel)⟩, by decide, by decide, by decide +kernel⟩
theorem cv_L_148 : CV RL 148 yX11_stockByMoves RX11 cX11_stockByMoves 3 (some .int) 2 := ⟨⟨BG_at 1100 (by decide +kernel) (by decide +kernel), BG_at 1101 (by decide +kernel) (by decide +kernel), BG_at 1102 (by decide +kernel) (by decide +kernel), BG_at 36 (by decide +kernel) (by decide +kernel), BG_at 1103 (by decide +kernel) (by decide +kernel)⟩, rfl, by decide, by decide, by decide +kernel⟩
theorem cv_L_151 : CV RL 151 yX11_leftBy RX11 cX11_leftBy 3 (some .int) 2 := ⟨⟨BG_at 1108 (by decide +kernel) (by decide +kernel), BG_at 1109 (by decide +kernel) (by decide +kernel), BG_at 1110 (by decide +kernel) (by decide +kernel), BG_at 36 (by decide +kernel) (by decide +kernel), BG_at 1111 (by decide +kernel) (by decide +kernel)⟩, rfl, by decide, by decide, by decide +kernel⟩
set_option maxRecDepth 100000 in
theorem cs_L_193 : CS RL 193 yL_areOrdersSo cL_areOrdersSo 5 (some .boolean) 1 := ⟨⟨BG_at 1116 (by decide +kernel) (by decide +kernel), BG_at 1117 (by decide +kernel) (by decide +kernel), BG_at 35 (by decide +kernel) (by decide +kernel), BG_at 1118 (by rfl) (by decide +kernel)⟩, by decide, by decide, by decide +kernel⟩
theorem cv_L_154 : CV RL 154 yX11_why RX11 cX11_why 2 (some .int) 1 := ⟨⟨BG_at 1119 (by decide +kernel) (by decide +kernel), BG_at 1120 (by decide +kernel) (by decide +kernel), BG_at 1121 (by decide +kernel) (by decide +kernel), BG_at 36 (by decide +kernel) (by decide +kernel), BG_at 1122 (by decide +kernel) (by decide +kernel)⟩, rfl, by decide, by decide, by decide +kernel⟩
theorem cv_L_157 : CV RL 157 yX11_hourOf RX11 cX11_hourOf 2 (some .int) 1 := ⟨⟨BG_at 1123 (by decide +kernel) (by decide +kernel), BG_at 1124 (by decide +kernel) (by decide +kernel), BG_at 1125 (by decide +kernel) (by decide +kernel), BG_at 36 (by decide +kernel) (by decide +kernel), BG_at 1126 (by decide +kernel) (by decide +kernel)⟩, rfl, by decide, by decide, by decide +kernel⟩
theorem cv_L_160 : CV RL 160 yX11_movedFrom RX11 cX11_movedFrom 2 (some .int) 1 := ⟨⟨BG_at 1127 (by decide +kernel) (by decide +kernel), BG_at 1128 (by decide +kernel) (by decide +kernel), BG_at 1129 (by decide +kernel) (by decide +kernel), BG_at 36 (by decide +kernel) (by decide +kernel), BG_at 1130 (by decide +kernel) (by decide +kernel)⟩, rfl, by decide, by decide, by decide +kernel⟩
theorem cv_L_163 : CV RL 163 yX11_movedTo RX11 cX11_movedTo 2 (some .int) 1 := ⟨⟨BG_at 1131 (by decide +kernel) (by decide +kernel), BG_at 1132 (by decide +kernel) (by decide +kernel), BG_at 1133 (by decide +kernel) (by decide +kernel), BG_at 36 (by decide +kernel) (by decide +kernel), BG_at 1134 (by decide +kernel) (by decide +kernel)⟩, rfl, by decide, by decide, by decide +kernel⟩
theorem cv_L_166 : CV RL 166 yX11_movedAmount RX11 cX11_movedAmount 2 (some .int) 1 := ⟨⟨BG_at 1135 (by decide +kernel) (by decide +kernel), BG_at 1136 (by decide +kernel) (by decide +kernel), BG_at 1137 (by decide +kernel) (by decide +kernel), BG_at 36 (by decide +kernel) (by decide +kernel), BG_at 1138 (by decide +kernel) (by decide +kernel)⟩, rfl, by decide, by decide, by decide +kernel⟩
theorem cv_L_169 : CV RL 169 yX11_movedGood RX11 cX11_movedGood 2 (some .int) 1 := ⟨⟨BG_at 1139 (by decide +kernel) (by decide +kernel), BG_at 1140 (by decide +kernel) (by decide +kernel), BG_at 1141 (by decide +kernel) (by decide +kernel), BG_at 36 (by decide +kernel) (by decide +kernel), BG_at 1142 (by decide +kernel) (by decide +kernel)⟩, rfl, by decide, by decide, by decide +kernel⟩
theorem cv_L_172 : CV RL 172 yX11_movedBy RX11 cX11_movedBy 2 (some .int) 1 := ⟨⟨BG_at 1143 (by decide +kernel) (by decide +kernel), BG_at 1144 (by decide +kernel) (by decide +kernel), BG_at 1145 (by decide +kernel) (by decide +kernel), BG_at 36 (by decide +kernel) (by decide +kernel), BG_at 1146 (by decide +kernel) (by decide +kernel)⟩, rfl, by decide, by decide, by decide +kernel⟩
section WRP
variable {l : Launch} {w : Int32 → Int32} {sa sb : ST} {M : Wm}
def W_expressions (sa : ST) (p1 : Int32) : Int32 := if (g_expressions sa.2.2 p1).1 = 0 then (g_expressions sa.2.2 p1).2 else if (g_expressions sa.2.2 p1).1 = 1 then (-2) else (-1)
theorem kk_expressions (hG : GM w sa sb M) (p1 : Int32) : (g_expressions sa.2.2 p1).1 = 0 ∨ (g_expressions sa.2.2 p1).1 = 1 ∨ (g_expressions sa.2.2 p1).1 = 2 := by
  obtain ⟨a, b⟩ := hG.2.1
  have O := A_expressions (p1 := p1) b
  rw [a] at O
  rw [← O.1]; exact k_expressions
set_option maxHeartbeats 1000000 in
theorem ml_L_expressions (hl : l.stackTraces = false) (D : va_G) (ta : wTa) (ad : wAd) (p1 : Int32) : ML l D ta ad yL_expressions (.codeWith yL_expressions cL_expressions 3 (some .int) [(0, 5, 6, 14), (0, 5, 10, 17)]) 9 2 [.ref (ad 11 0 0), .int p1] (GM w sa sb) ((0, W_expressions sa p1), GM w sa sb) := by
  refine ML.ofH (fun z : Int32 => ((0, z), GM w sa sb)) (W_expressions sa p1) rfl (by decide) (Nat.le_of_ble_eq_true rfl) (fun p e s m args below meth c cx hzx hcx ht hr M hG => ?_)
  have hk := kk_expressions hG p1
  obtain ⟨M2, hG2, hM⟩ := C_expressions (D := D) (ta := ta) (ad := ad) hl hG p1
  have e0 : (g_expressions sa.2.2 p1).1 = 0 → W_expressions sa p1 = (g_expressions sa.2.2 p1).2 := fun h => by unfold W_expressions; rw [if_pos h]
  have e1 : (g_expressions sa.2.2 p1).1 = 1 → W_expressions sa p1 = (-2) := fun h => by unfold W_expressions; rw [h]; rfl
  have e2 : (g_expressions sa.2.2 p1).1 = 2 → W_expressions sa p1 = (-1) := fun h => by unfold W_expressions; rw [h]; rfl
  generalize hF : g_expressions sa.2.2 p1 = F at hk hM e0 e1 e2 ⊢
  generalize W_expressions sa p1 = S at e0 e1 e2 ⊢
  refine mw_sub (lv' := [(0, .ref (ad 11 0 0)), (1, .int p1)]) [0, 1] rfl ?_
  refine mw_aload_n cx (q := 1) 0 rfl rfl dL_expressions_0 rfl ?_
  refine mw_iload_n cx (q := 2) 1 rfl rfl dL_expressions_1 rfl ?_
  refine mx_callV cx hzx (q := 5) (d := 8) (u0 := 2) (As := [.int p1]) (z := fxi (F, M2)) (st := []) (st1 := [.int F.2]) (M' := M2) hM cv_L_22 rfl rfl rfl vi_11_0 ⟨by decide, by decide⟩ ⟨by decide, by decide⟩ (by simp) rfl rfl rfl dL_expressions_2 rfl (fun h0 ls hl2 H1 locs1 q9 ce a1 a2 a3 a4 a5 => ?_) (fun h0 => ?_)
  · rcases hk with k0 | k1 | k2
    · exact absurd k0 h0
    · have ez : (fxi (F, M2)).1.1 = 1 := k1
      rw [ez] at a5
      refine mh_catch cx hzx hcx (k := 1) (lv := [(0, .ref (ad 11 0 0)), (1, .int p1)]) (by decide) ht [] (0, 5, 6, 14) [(0, 5, 10, 17)] rfl (by intro z hz; cases hz) rfl (by decide) xl_14 xc_1 hl2 a1 a2 a3 a4 a5 ?_
      refine mw_astore_n cx (q := 7) (lv' := [(2, .ref q9), (0, .ref (ad 11 0 0)), (1, .int p1)]) rfl rfl (by decide) dL_expressions_6 rfl ?_
      refine mw_bipush cx (q := 9) (v := (-2)) dL_expressions_7 rfl rfl ?_
      exact gl_iret (cb := 0 + 2) cx hr rfl (by rw [e1 k1]) hG2 (by decide) dL_expressions_9
    · have ez : (fxi (F, M2)).1.1 = 2 := k2
      rw [ez] at a5
      refine mh_catch cx hzx hcx (k := 2) (lv := [(0, .ref (ad 11 0 0)), (1, .int p1)]) (by decide) ht [(0, 5, 6, 14)] (0, 5, 10, 17) [] rfl (by intro z hz; simp only [List.mem_cons, List.not_mem_nil, or_false] at hz; rcases hz with rfl <;> first | exact ⟨by decide, 1, by decide, by decide, xl_14⟩) rfl (by decide) xl_17 xc_2 hl2 a1 a2 a3 a4 a5 ?_
      refine mw_astore_n cx (q := 11) (lv' := [(2, .ref q9), (0, .ref (ad 11 0 0)), (1, .int p1)]) rfl rfl (by decide) dL_expressions_10 rfl ?_
      refine mw_iconst cx (q := 12) (v := (-1)) dL_expressions_11 rfl rfl ?_
      exact gl_iret (cb := 0 + 2) cx hr rfl (by rw [e2 k2]) hG2 (by decide) dL_expressions_12
  · exact gl_iret (cb := 0 + 2) cx hr rfl (by rw [e0 h0]) hG2 (by decide) dL_expressions_5
def W_supply (sa : ST) (p1 : Int32) (p2 : Int32) : Int32 × ST := if (F_supply sa p1 p2).1.1 = 0 then ((F_supply sa p1 p2).1.2, (F_supply sa p1 p2).2) else (-99999, (F_supply sa p1 p2).2)
theorem kk_supply (hG : GM w sa sb M) (p1 : Int32) (p2 : Int32) (hx : (Z12 1 1 sa.2.2 (f12_supply sa.2.2 p1 p2)).1.1 = 0 → XB (upx sa.1 p1 p2)) : (F_supply sa p1 p2).1.1 = 0 ∨ (F_supply sa p1 p2).1.1 = 1 := by
  obtain ⟨a, b⟩ := hG.2.1
  have hz : (f11_supply M p1 p2).1.1 = (F_supply sa p1 p2).1.1 := by
    have H := R_supply (p1 := p1) (p2 := p2) b.1 (by decide)
    show _ = (Z12 1 1 sa.2.2 (f12_supply sa.2.2 p1 p2)).1.1
    rw [← a]
    obtain ⟨e12, H | H⟩ := H
    · obtain ⟨h0, t0, _⟩ := H
      unfold Z12; rw [if_pos t0]; exact h0
    · obtain ⟨h0, ef, hkf, _⟩ := H
      have t0 : (f12_supply (M 12) p1 p2).2 0 0 0 = kfI 1 1 (f11_supply M p1 p2).1.1 := by rw [ef, u3_at]
      unfold Z12; rw [if_neg (by rw [t0]; exact hkf), t0]; exact ((k11 k_supply).resolve_left h0).symm
  rw [← hz]
  exact k_supply
set_option maxHeartbeats 1000000 in
theorem ml_L_supply (hl : l.stackTraces = false) (D : va_G) (ta : wTa) (ad : wAd) (p1 : Int32) (p2 : Int32) (hx : (Z12 1 1 sa.2.2 (f12_supply sa.2.2 p1 p2)).1.1 = 0 → XB (upx sa.1 p1 p2)) : ML l D ta ad yL_supply (.codeWith yL_supply cL_supply 4 (some .int) [(0, 6, 7, 14)]) 9 2 [.ref (ad 11 0 0), .int p1, .int p2] (GM w sa sb) ((0, (W_supply sa p1 p2).1), GM w (W_supply sa p1 p2).2 sb) := by
  refine ML.ofH (fun z : Int32 × ST => ((0, z.1), GM w z.2 sb)) (W_supply sa p1 p2) rfl (by decide) (Nat.le_of_ble_eq_true rfl) (fun p e s m args below meth c cx hzx hcx ht hr M hG => ?_)
  have hk := kk_supply hG p1 p2 hx
  obtain ⟨M2, hG2, hM⟩ := C_supply (D := D) (ta := ta) (ad := ad) hl hG p1 p2 hx
  have e0 : (F_supply sa p1 p2).1.1 = 0 → W_supply sa p1 p2 = ((F_supply sa p1 p2).1.2, (F_supply sa p1 p2).2) := fun h => by unfold W_supply; rw [if_pos h]
  have e1 : ¬ (F_supply sa p1 p2).1.1 = 0 → W_supply sa p1 p2 = (-99999, (F_supply sa p1 p2).2) := fun h => by unfold W_supply; rw [if_neg h]
  generalize hF : F_supply sa p1 p2 = F at hk hG2 hM e0 e1 ⊢
  generalize W_supply sa p1 p2 = S at e0 e1 ⊢
  refine mw_sub (lv' := [(0, .ref (ad 11 0 0)), (1, .int p1), (2, .int p2)]) [0, 1, 2] rfl ?_
  refine mw_aload_n cx (q := 1) 0 rfl rfl dL_supply_0 rfl ?_
  refine mw_iload_n cx (q := 2) 1 rfl rfl dL_supply_1 rfl ?_
  refine mw_iload_n cx (q := 3) 2 rfl rfl dL_supply_2 rfl ?_
  refine mx_callV cx hzx (q := 6) (d := 8) (u0 := 2) (As := [.int p1, .int p2]) (z := fxi (F.1, M2)) (st := []) (st1 := [.int F.1.2]) (M' := M2) hM cv_L_26 rfl rfl rfl vi_11_0 ⟨by decide, by decide⟩ ⟨by decide, by decide⟩ (by simp) rfl rfl rfl dL_supply_3 rfl (fun h0 ls hl2 H1 locs1 q9 ce a1 a2 a3 a4 a5 => ?_) (fun h0 => ?_)
  · rcases hk with k0 | k1
    · exact absurd k0 h0
    · have ez : (fxi (F.1, M2)).1.1 = 1 := k1
      rw [ez] at a5
      refine mh_catch cx hzx hcx (k := 1) (lv := [(0, .ref (ad 11 0 0)), (1, .int p1), (2, .int p2)]) (by decide) ht [] (0, 6, 7, 14) [] rfl (by intro z hz; cases hz) rfl (by decide) xl_14 xc_1 hl2 a1 a2 a3 a4 a5 ?_
      refine mw_astore_n cx (q := 8) (lv' := [(3, .ref q9), (0, .ref (ad 11 0 0)), (1, .int p1), (2, .int p2)]) rfl rfl (by decide) dL_supply_7 rfl ?_
      refine mw_ldc cx (q := 10) (v := (-99999)) dL_supply_8 rfl ld_L_16 ?_
      exact gl_iret (cb := 0 + 2) cx hr rfl (by rw [e1 h0]) (by rw [e1 h0]; exact hG2) (by decide) dL_supply_10
  · exact gl_iret (cb := 0 + 2) cx hr rfl (by rw [e0 h0]) (by rw [e0 h0]; exact hG2) (by decide) dL_supply_6
def W_type (sa : ST) (p1 : Int32) (p2 : Int32) : Int32 × ST := if (F_type sa p1 p2).1.1 = 0 then ((F_type sa p1 p2).1.2, (F_type sa p1 p2).2) else (-99999, (F_type sa p1 p2).2)
theorem kk_type (hG : GM w sa sb M) (p1 : Int32) (p2 : Int32) : (F_type sa p1 p2).1.1 = 0 ∨ (F_type sa p1 p2).1.1 = 1 ∨ (F_type sa p1 p2).1.1 = 2 := by
  obtain ⟨a, b⟩ := hG.2.1
  have O := O_type (p1 := p1) (p2 := p2) b
  rw [a] at O
  have e : (f11_type M p1 p2).1.1 = (F_type sa p1 p2).1.1 := O.1
  rw [← e]
  exact k_type
set_option maxHeartbeats 1000000 in
theorem ml_L_type (hl : l.stackTraces = false) (D : va_G) (ta : wTa) (ad : wAd) (p1 : Int32) (p2 : Int32) : ML l D ta ad yL_type (.codeWith yL_type cL_type 4 (some .int) [(0, 6, 7, 14), (0, 6, 11, 17)]) 9 3 [.ref (ad 11 0 0), .int p1, .int p2] (GM w sa sb) ((0, (W_type sa p1 p2).1), GM w (W_type sa p1 p2).2 sb) := by
  refine ML.ofH (fun z : Int32 × ST => ((0, z.1), GM w z.2 sb)) (W_type sa p1 p2) rfl (by decide) (Nat.le_of_ble_eq_true rfl) (fun p e s m args below meth c cx hzx hcx ht hr M hG => ?_)
  have hk := kk_type hG p1 p2
  obtain ⟨M2, hG2, hM⟩ := C_type (D := D) (ta := ta) (ad := ad) hl hG p1 p2
  have e0 : (F_type sa p1 p2).1.1 = 0 → W_type sa p1 p2 = ((F_type sa p1 p2).1.2, (F_type sa p1 p2).2) := fun h => by unfold W_type; rw [if_pos h]
  have e1 : ¬ (F_type sa p1 p2).1.1 = 0 → W_type sa p1 p2 = (-99999, (F_type sa p1 p2).2) := fun h => by unfold W_type; rw [if_neg h]
  generalize hF : F_type sa p1 p2 = F at hk hG2 hM e0 e1 ⊢
  generalize W_type sa p1 p2 = S at e0 e1 ⊢
  refine mw_sub (lv' := [(0, .ref (ad 11 0 0)), (1, .int p1), (2, .int p2)]) [0, 1, 2] rfl ?_
  refine mw_aload_n cx (q := 1) 0 rfl rfl dL_type_0 rfl ?_
  refine mw_iload_n cx (q := 2) 1 rfl rfl dL_type_1 rfl ?_
  refine mw_iload_n cx (q := 3) 2 rfl rfl dL_type_2 rfl ?_
  refine mx_callV cx hzx (q := 6) (d := 8) (u0 := 3) (As := [.int p1, .int p2]) (z := fxi (F.1, M2)) (st := []) (st1 := [.int F.1.2]) (M' := M2) hM cv_L_8 rfl rfl rfl vi_11_0 ⟨by decide, by decide⟩ ⟨by decide, by decide⟩ (by simp) rfl rfl rfl dL_type_3 rfl (fun h0 ls hl2 H1 locs1 q9 ce a1 a2 a3 a4 a5 => ?_) (fun h0 => ?_)
  · rcases hk with k0 | k1 | k2
    · exact absurd k0 h0
    · have ez : (fxi (F.1, M2)).1.1 = 1 := k1
      rw [ez] at a5
      refine mh_catch cx hzx hcx (k := 1) (lv := [(0, .ref (ad 11 0 0)), (1, .int p1), (2, .int p2)]) (by decide) ht [] (0, 6, 7, 14) [(0, 6, 11, 17)] rfl (by intro z hz; cases hz) rfl (by decide) xl_14 xc_1 hl2 a1 a2 a3 a4 a5 ?_
      refine mw_astore_n cx (q := 8) (lv' := [(3, .ref q9), (0, .ref (ad 11 0 0)), (1, .int p1), (2, .int p2)]) rfl rfl (by decide) dL_type_7 rfl ?_
      refine mw_ldc cx (q := 10) (v := (-99999)) dL_type_8 rfl ld_L_16 ?_
      exact gl_iret (cb := 0 + 3) cx hr rfl (by rw [e1 h0]) (by rw [e1 h0]; exact hG2) (by decide) dL_type_10
    · have ez : (fxi (F.1, M2)).1.1 = 2 := k2
      rw [ez] at a5
      refine mh_catch cx hzx hcx (k := 2) (lv := [(0, .ref (ad 11 0 0)), (1, .int p1), (2, .int p2)]) (by decide) ht [(0, 6, 7, 14)] (0, 6, 11, 17) [] rfl (by intro z hz; simp only [List.mem_cons, List.not_mem_nil, or_false] at hz; rcases hz with rfl <;> first | exact ⟨by decide, 1, by decide, by decide, xl_14⟩) rfl (by decide) xl_17 xc_2 hl2 a1 a2 a3 a4 a5 ?_
      refine mw_astore_n cx (q := 12) (lv' := [(3, .ref q9), (0, .ref (ad 11 0 0)), (1, .int p1), (2, .int p2)]) rfl rfl (by decide) dL_type_11 rfl ?_
      refine mw_ldc cx (q := 14) (v := (-99999)) dL_type_12 rfl ld_L_16 ?_
      exact gl_iret (cb := 0 + 3) cx hr rfl (by rw [e1 h0]) (by rw [e1 h0]; exact hG2) (by decide) dL_type_14
  · exact gl_iret (cb := 0 + 3) cx hr rfl (by rw [e0 h0]) (by rw [e0 h0]; exact hG2) (by decide) dL_type_6
def W_erase (sa : ST) (p1 : Int32) (p2 : Int32) : Int32 × ST := if (F_erase sa p1 p2).1.1 = 0 then ((F_erase sa p1 p2).1.2, (F_erase sa p1 p2).2) else (-99999, (F_erase sa p1 p2).2)
theorem kk_erase (hG : GM w sa sb M) (p1 : Int32) (p2 : Int32) : (F_erase sa p1 p2).1.1 = 0 ∨ (F_erase sa p1 p2).1.1 = 1 := by
  obtain ⟨a, b⟩ := hG.2.1
  have O := O_erase (p1 := p1) (p2 := p2) b
  rw [a] at O
  have e : (f11_erase M p1 p2).1.1 = (F_erase sa p1 p2).1.1 := O.1
  rw [← e]
  exact k_erase
set_option maxHeartbeats 1000000 in
theorem ml_L_erase (hl : l.stackTraces = false) (D : va_G) (ta : wTa) (ad : wAd) (p1 : Int32) (p2 : Int32) : ML l D ta ad yL_erase (.codeWith yL_erase cL_erase 4 (some .int) [(0, 6, 7, 14)]) 9 2 [.ref (ad 11 0 0), .int p1, .int p2] (GM w sa sb) ((0, (W_erase sa p1 p2).1), GM w (W_erase sa p1 p2).2 sb) := by
  refine ML.ofH (fun z : Int32 × ST => ((0, z.1), GM w z.2 sb)) (W_erase sa p1 p2) rfl (by decide) (Nat.le_of_ble_eq_true rfl) (fun p e s m args below meth c cx hzx hcx ht hr M hG => ?_)
  have hk := kk_erase hG p1 p2
  obtain ⟨M2, hG2, hM⟩ := C_erase (D := D) (ta := ta) (ad := ad) hl hG p1 p2
  have e0 : (F_erase sa p1 p2).1.1 = 0 → W_erase sa p1 p2 = ((F_erase sa p1 p2).1.2, (F_erase sa p1 p2).2) := fun h => by unfold W_erase; rw [if_pos h]
  have e1 : ¬ (F_erase sa p1 p2).1.1 = 0 → W_erase sa p1 p2 = (-99999, (F_erase sa p1 p2).2) := fun h => by unfold W_erase; rw [if_neg h]
  generalize hF : F_erase sa p1 p2 = F at hk hG2 hM e0 e1 ⊢
  generalize W_erase sa p1 p2 = S at e0 e1 ⊢
  refine mw_sub (lv' := [(0, .ref (ad 11 0 0)), (1, .int p1), (2, .int p2)]) [0, 1, 2] rfl ?_
  refine mw_aload_n cx (q := 1) 0 rfl rfl dL_erase_0 rfl ?_
  refine mw_iload_n cx (q := 2) 1 rfl rfl dL_erase_1 rfl ?_
  refine mw_iload_n cx (q := 3) 2 rfl rfl dL_erase_2 rfl ?_
  refine mx_callV cx hzx (q := 6) (d := 8) (u0 := 2) (As := [.int p1, .int p2]) (z := fxi (F.1, M2)) (st := []) (st1 := [.int F.1.2]) (M' := M2) hM cv_L_19 rfl rfl rfl vi_11_0 ⟨by decide, by decide⟩ ⟨by decide, by decide⟩ (by simp) rfl rfl rfl dL_erase_3 rfl (fun h0 ls hl2 H1 locs1 q9 ce a1 a2 a3 a4 a5 => ?_) (fun h0 => ?_)
  · rcases hk with k0 | k1
    · exact absurd k0 h0
    · have ez : (fxi (F.1, M2)).1.1 = 1 := k1
      rw [ez] at a5
      refine mh_catch cx hzx hcx (k := 1) (lv := [(0, .ref (ad 11 0 0)), (1, .int p1), (2, .int p2)]) (by decide) ht [] (0, 6, 7, 14) [] rfl (by intro z hz; cases hz) rfl (by decide) xl_14 xc_1 hl2 a1 a2 a3 a4 a5 ?_
      refine mw_astore_n cx (q := 8) (lv' := [(3, .ref q9), (0, .ref (ad 11 0 0)), (1, .int p1), (2, .int p2)]) rfl rfl (by decide) dL_erase_7 rfl ?_
      refine mw_ldc cx (q := 10) (v := (-99999)) dL_erase_8 rfl ld_L_16 ?_
      exact gl_iret (cb := 0 + 2) cx hr rfl (by rw [e1 h0]) (by rw [e1 h0]; exact hG2) (by decide) dL_erase_10
  · exact gl_iret (cb := 0 + 2) cx hr rfl (by rw [e0 h0]) (by rw [e0 h0]; exact hG2) (by decide) dL_erase_6
def W_giveRations (sa : ST) (p1 : Int32) (p2 : Int32) : Int32 × ST := if (F_giveRations sa p1 p2).1.1 = 0 then ((F_giveRations sa p1 p2).1.2, (F_giveRations sa p1 p2).2) else (-99999, (F_giveRations sa p1 p2).2)
theorem kk_giveRations (hG : GM w sa sb M) (p1 : Int32) (p2 : Int32) (hk0 : sa.2.1 < 10000) : (F_giveRations sa p1 p2).1.1 = 0 ∨ (F_giveRations sa p1 p2).1.1 = 1 := by
  obtain ⟨a, b⟩ := hG.2.1
  have O := O_giveRations (p1 := p1) (p2 := p2) b hk0
  rw [a] at O
  have e : (f11_giveRations M p1 p2).1.1 = (F_giveRations sa p1 p2).1.1 := O.1
  rw [← e]
  exact k_giveRations
set_option maxHeartbeats 1000000 in
theorem ml_L_giveRations (hl : l.stackTraces = false) (D : va_G) (ta : wTa) (ad : wAd) (p1 : Int32) (p2 : Int32) (hk0 : sa.2.1 < 10000) : ML l D ta ad yL_giveRations (.codeWith yL_giveRations cL_giveRations 4 (some .int) [(0, 6, 7, 14)]) 9 2 [.ref (ad 11 0 0), .int p1, .int p2] (GM w sa sb) ((0, (W_giveRations sa p1 p2).1), GM w (W_giveRations sa p1 p2).2 sb) := by
  refine ML.ofH (fun z : Int32 × ST => ((0, z.1), GM w z.2 sb)) (W_giveRations sa p1 p2) rfl (by decide) (Nat.le_of_ble_eq_true rfl) (fun p e s m args below meth c cx hzx hcx ht hr M hG => ?_)
  have hk := kk_giveRations hG p1 p2 hk0
  obtain ⟨M2, hG2, hM⟩ := C_giveRations (D := D) (ta := ta) (ad := ad) hl hG p1 p2 hk0
  have e0 : (F_giveRations sa p1 p2).1.1 = 0 → W_giveRations sa p1 p2 = ((F_giveRations sa p1 p2).1.2, (F_giveRations sa p1 p2).2) := fun h => by unfold W_giveRations; rw [if_pos h]
  have e1 : ¬ (F_giveRations sa p1 p2).1.1 = 0 → W_giveRations sa p1 p2 = (-99999, (F_giveRations sa p1 p2).2) := fun h => by unfold W_giveRations; rw [if_neg h]
  generalize hF : F_giveRations sa p1 p2 = F at hk hG2 hM e0 e1 ⊢
  generalize W_giveRations sa p1 p2 = S at e0 e1 ⊢
  refine mw_sub (lv' := [(0, .ref (ad 11 0 0)), (1, .int p1), (2, .int p2)]) [0, 1, 2] rfl ?_
  refine mw_aload_n cx (q := 1) 0 rfl rfl dL_giveRations_0 rfl ?_
  refine mw_iload_n cx (q := 2) 1 rfl rfl dL_giveRations_1 rfl ?_
  refine mw_iload_n cx (q := 3) 2 rfl rfl dL_giveRations_2 rfl ?_
  refine mx_callV cx hzx (q := 6) (d := 8) (u0 := 2) (As := [.int p1, .int p2]) (z := fxi (F.1, M2)) (st := []) (st1 := [.int F.1.2]) (M' := M2) hM cv_L_29 rfl rfl rfl vi_11_0 ⟨by decide, by decide⟩ ⟨by decide, by decide⟩ (by simp) rfl rfl rfl dL_giveRations_3 rfl (fun h0 ls hl2 H1 locs1 q9 ce a1 a2 a3 a4 a5 => ?_) (fun h0 => ?_)
  · rcases hk with k0 | k1
    · exact absurd k0 h0
    · have ez : (fxi (F.1, M2)).1.1 = 1 := k1
      rw [ez] at a5
      refine mh_catch cx hzx hcx (k := 1) (lv := [(0, .ref (ad 11 0 0)), (1, .int p1), (2, .int p2)]) (by decide) ht [] (0, 6, 7, 14) [] rfl (by intro z hz; cases hz) rfl (by decide) xl_14 xc_1 hl2 a1 a2 a3 a4 a5 ?_
      refine mw_astore_n cx (q := 8) (lv' := [(3, .ref q9), (0, .ref (ad 11 0 0)), (1, .int p1), (2, .int p2)]) rfl rfl (by decide) dL_giveRations_7 rfl ?_
      refine mw_ldc cx (q := 10) (v := (-99999)) dL_giveRations_8 rfl ld_L_16 ?_
      exact gl_iret (cb := 0 + 2) cx hr rfl (by rw [e1 h0]) (by rw [e1 h0]; exact hG2) (by decide) dL_giveRations_10
  · exact gl_iret (cb := 0 + 2) cx hr rfl (by rw [e0 h0]) (by rw [e0 h0]; exact hG2) (by decide) dL_giveRations_6
def W_buy (sa : ST) (p1 : Int32) (p2 : Int32) : Int32 × ST := if (F_buy sa p1 p2).1.1 = 0 then ((F_buy sa p1 p2).1.2, (F_buy sa p1 p2).2) else (-99999, (F_buy sa p1 p2).2)
theorem kk_buy (hG : GM w sa sb M) (p1 : Int32) (p2 : Int32) : (F_buy sa p1 p2).1.1 = 0 ∨ (F_buy sa p1 p2).1.1 = 1 ∨ (F_buy sa p1 p2).1.1 = 2 := by
  obtain ⟨a, b⟩ := hG.2.1
  have O := O_buy (p1 := p1) (p2 := p2) b
  rw [a] at O
  have e : (f11_buy M p1 p2).1.1 = (F_buy sa p1 p2).1.1 := O.1
  rw [← e]
  exact k_buy
set_option maxHeartbeats 1000000 in
theorem ml_L_buy (hl : l.stackTraces = false) (D : va_G) (ta : wTa) (ad : wAd) (p1 : Int32) (p2 : Int32) : ML l D ta ad yL_buy (.codeWith yL_buy cL_buy 4 (some .int) [(0, 6, 7, 14), (0, 6, 11, 17)]) 9 3 [.ref (ad 11 0 0), .int p1, .int p2] (GM w sa sb) ((0, (W_buy sa p1 p2).1), GM w (W_buy sa p1 p2).2 sb) := by
  refine ML.ofH (fun z : Int32 × ST => ((0, z.1), GM w z.2 sb)) (W_buy sa p1 p2) rfl (by decide) (Nat.le_of_ble_eq_true rfl) (fun p e s m args below meth c cx hzx hcx ht hr M hG => ?_)
  have hk := kk_buy hG p1 p2
  obtain ⟨M2, hG2, hM⟩ := C_buy (D := D) (ta := ta) (ad := ad) hl hG p1 p2
  have e0 : (F_buy sa p1 p2).1.1 = 0 → W_buy sa p1 p2 = ((F_buy sa p1 p2).1.2, (F_buy sa p1 p2).2) := fun h => by unfold W_buy; rw [if_pos h]
  have e1 : ¬ (F_buy sa p1 p2).1.1 = 0 → W_buy sa p1 p2 = (-99999, (F_buy sa p1 p2).2) := fun h => by unfold W_buy; rw [if_neg h]
  generalize hF : F_buy sa p1 p2 = F at hk hG2 hM e0 e1 ⊢
  generalize W_buy sa p1 p2 = S at e0 e1 ⊢
  refine mw_sub (lv' := [(0, .ref (ad 11 0 0)), (1, .int p1), (2, .int p2)]) [0, 1, 2] rfl ?_
  refine mw_aload_n cx (q := 1) 0 rfl rfl dL_buy_0 rfl ?_
  refine mw_iload_n cx (q := 2) 1 rfl rfl dL_buy_1 rfl ?_
  refine mw_iload_n cx (q := 3) 2 rfl rfl dL_buy_2 rfl ?_
  refine mx_callV cx hzx (q := 6) (d := 8) (u0 := 3) (As := [.int p1, .int p2]) (z := fxi (F.1, M2)) (st := []) (st1 := [.int F.1.2]) (M' := M2) hM cv_L_35 rfl rfl rfl vi_11_0 ⟨by decide, by decide⟩ ⟨by decide, by decide⟩ (by simp) rfl rfl rfl dL_buy_3 rfl (fun h0 ls hl2 H1 locs1 q9 ce a1 a2 a3 a4 a5 => ?_) (fun h0 => ?_)
  · rcases hk with k0 | k1 | k2
    · exact absurd k0 h0
    · have ez : (fxi (F.1, M2)).1.1 = 1 := k1
      rw [ez] at a5
      refine mh_catch cx hzx hcx (k := 1) (lv := [(0, .ref (ad 11 0 0)), (1, .int p1), (2, .int p2)]) (by decide) ht [] (0, 6, 7, 14) [(0, 6, 11, 17)] rfl (by intro z hz; cases hz) rfl (by decide) xl_14 xc_1 hl2 a1 a2 a3 a4 a5 ?_
      refine mw_astore_n cx (q := 8) (lv' := [(3, .ref q9), (0, .ref (ad 11 0 0)), (1, .int p1), (2, .int p2)]) rfl rfl (by decide) dL_buy_7 rfl ?_
      refine mw_ldc cx (q := 10) (v := (-99999)) dL_buy_8 rfl ld_L_16 ?_
      exact gl_iret (cb := 0 + 3) cx hr rfl (by rw [e1 h0]) (by rw [e1 h0]; exact hG2) (by decide) dL_buy_10
    · have ez : (fxi (F.1, M2)).1.1 = 2 := k2
      rw [ez] at a5
      refine mh_catch cx hzx hcx (k := 2) (lv := [(0, .ref (ad 11 0 0)), (1, .int p1), (2, .int p2)]) (by decide) ht [(0, 6, 7, 14)] (0, 6, 11, 17) [] rfl (by intro z hz; simp only [List.mem_cons, List.not_mem_nil, or_false] at hz; rcases hz with rfl <;> first | exact ⟨by decide, 1, by decide, by decide, xl_14⟩) rfl (by decide) xl_17 xc_2 hl2 a1 a2 a3 a4 a5 ?_
      refine mw_astore_n cx (q := 12) (lv' := [(3, .ref q9), (0, .ref (ad 11 0 0)), (1, .int p1), (2, .int p2)]) rfl rfl (by decide) dL_buy_11 rfl ?_
      refine mw_ldc cx (q := 14) (v := (-99999)) dL_buy_12 rfl ld_L_16 ?_
      exact gl_iret (cb := 0 + 3) cx hr rfl (by rw [e1 h0]) (by rw [e1 h0]; exact hG2) (by decide) dL_buy_14
  · exact gl_iret (cb := 0 + 3) cx hr rfl (by rw [e0 h0]) (by rw [e0 h0]; exact hG2) (by decide) dL_buy_6
def W_setTariff (sa : ST) (p1 : Int32) : Int32 × ST := if (F_setTariff sa p1).1.1 = 0 then ((F_setTariff sa p1).1.2, (F_setTariff sa p1).2) else (-99999, (F_setTariff sa p1).2)
theorem kk_setTariff (hG : GM w sa sb M) (p1 : Int32) : (F_setTariff sa p1).1.1 = 0 ∨ (F_setTariff sa p1).1.1 = 1 := by
  obtain ⟨a, b⟩ := hG.2.1
  have O := O_setTariff (p1 := p1) b
  rw [a] at O
  have e : (f11_setTariff M p1).1.1 = (F_setTariff sa p1).1.1 := O.1
  rw [← e]
  exact k_setTariff
set_option maxHeartbeats 1000000 in
theorem ml_L_setTariff (hl : l.stackTraces = false) (D : va_G) (ta : wTa) (ad : wAd) (p1 : Int32) : ML l D ta ad yL_setTariff (.codeWith yL_setTariff cL_setTariff 3 (some .int) [(0, 5, 6, 14)]) 9 1 [.ref (ad 11 0 0), .int p1] (GM w sa sb) ((0, (W_setTariff sa p1).1), GM w (W_setTariff sa p1).2 sb) := by
  refine ML.ofH (fun z : Int32 × ST => ((0, z.1), GM w z.2 sb)) (W_setTariff sa p1) rfl (by decide) (Nat.le_of_ble_eq_true rfl) (fun p e s m args below meth c cx hzx hcx ht hr M hG => ?_)
  have hk := kk_setTariff hG p1
  obtain ⟨M2, hG2, hM⟩ := C_setTariff (D := D) (ta := ta) (ad := ad) hl hG p1
  have e0 : (F_setTariff sa p1).1.1 = 0 → W_setTariff sa p1 = ((F_setTariff sa p1).1.2, (F_setTariff sa p1).2) := fun h => by unfold W_setTariff; rw [if_pos h]
  have e1 : ¬ (F_setTariff sa p1).1.1 = 0 → W_setTariff sa p1 = (-99999, (F_setTariff sa p1).2) := fun h => by unfold W_setTariff; rw [if_neg h]
  generalize hF : F_setTariff sa p1 = F at hk hG2 hM e0 e1 ⊢
  generalize W_setTariff sa p1 = S at e0 e1 ⊢
  refine mw_sub (lv' := [(0, .ref (ad 11 0 0)), (1, .int p1)]) [0, 1] rfl ?_
  refine mw_aload_n cx (q := 1) 0 rfl rfl dL_setTariff_0 rfl ?_
  refine mw_iload_n cx (q := 2) 1 rfl rfl dL_setTariff_1 rfl ?_
  refine mx_callV cx hzx (q := 5) (d := 8) (u0 := 1) (As := [.int p1]) (z := fxi (F.1, M2)) (st := []) (st1 := [.int F.1.2]) (M' := M2) hM cv_L_32 rfl rfl rfl vi_11_0 ⟨by decide, by decide⟩ ⟨by decide, by decide⟩ (by simp) rfl rfl rfl dL_setTariff_2 rfl (fun h0 ls hl2 H1 locs1 q9 ce a1 a2 a3 a4 a5 => ?_) (fun h0 => ?_)
  · rcases hk with k0 | k1
    · exact absurd k0 h0
    · have ez : (fxi (F.1, M2)).1.1 = 1 := k1
      rw [ez] at a5
      refine mh_catch cx hzx hcx (k := 1) (lv := [(0, .ref (ad 11 0 0)), (1, .int p1)]) (by decide) ht [] (0, 5, 6, 14) [] rfl (by intro z hz; cases hz) rfl (by decide) xl_14 xc_1 hl2 a1 a2 a3 a4 a5 ?_
      refine mw_astore_n cx (q := 7) (lv' := [(2, .ref q9), (0, .ref (ad 11 0 0)), (1, .int p1)]) rfl rfl (by decide) dL_setTariff_6 rfl ?_
      refine mw_ldc cx (q := 9) (v := (-99999)) dL_setTariff_7 rfl ld_L_16 ?_
      exact gl_iret (cb := 0 + 1) cx hr rfl (by rw [e1 h0]) (by rw [e1 h0]; exact hG2) (by decide) dL_setTariff_9
  · exact gl_iret (cb := 0 + 1) cx hr rfl (by rw [e0 h0]) (by rw [e0 h0]; exact hG2) (by decide) dL_setTariff_5
def W_setBuying (sa : ST) (p1 : Int32) (p2 : Bool) : Int32 × ST := if (F_setBuying sa p1 p2).1.1 = 0 then ((if (F_setBuying sa p1 p2).1.2 = 0 then 0 else 1), (F_setBuying sa p1 p2).2) else (-99999, (F_setBuying sa p1 p2).2)
theorem kk_setBuying (hG : GM w sa sb M) (p1 : Int32) (p2 : Bool) : (F_setBuying sa p1 p2).1.1 = 0 ∨ (F_setBuying sa p1 p2).1.1 = 1 := by
  obtain ⟨a, b⟩ := hG.2.1
  have O := O_setBuying (p1 := p1) (b := p2) b
  rw [a] at O
  have e : (f11_setBuying M p1 p2).1.1 = (F_setBuying sa p1 p2).1.1 := O.1
  rw [← e]
  exact k_setBuying
set_option maxHeartbeats 1000000 in
theorem ml_L_setBuying (hl : l.stackTraces = false) (D : va_G) (ta : wTa) (ad : wAd) (p1 : Int32) (p2 : Bool) : ML l D ta ad yL_setBuying (.codeWith yL_setBuying cL_setBuying 4 (some .int) [(0, 14, 15, 14)]) 9 1 [.ref (ad 11 0 0), .int p1, .int (b2i p2)] (GM w sa sb) ((0, (W_setBuying sa p1 p2).1), GM w (W_setBuying sa p1 p2).2 sb) := by
  refine ML.ofH (fun z : Int32 × ST => ((0, z.1), GM w z.2 sb)) (W_setBuying sa p1 p2) rfl (by decide) (Nat.le_of_ble_eq_true rfl) (fun p e s m args below meth c cx hzx hcx ht hr M hG => ?_)
  have hk := kk_setBuying hG p1 p2
  obtain ⟨M2, hG2, hM⟩ := C_setBuying (D := D) (ta := ta) (ad := ad) hl hG p1 p2
  have e0 : (F_setBuying sa p1 p2).1.1 = 0 → W_setBuying sa p1 p2 = ((if (F_setBuying sa p1 p2).1.2 = 0 then 0 else 1), (F_setBuying sa p1 p2).2) := fun h => by unfold W_setBuying; rw [if_pos h]
  have e1 : ¬ (F_setBuying sa p1 p2).1.1 = 0 → W_setBuying sa p1 p2 = (-99999, (F_setBuying sa p1 p2).2) := fun h => by unfold W_setBuying; rw [if_neg h]
  generalize hF : F_setBuying sa p1 p2 = F at hk hG2 hM e0 e1 ⊢
  generalize W_setBuying sa p1 p2 = S at e0 e1 ⊢
  refine mw_sub (lv' := [(0, .ref (ad 11 0 0)), (1, .int p1), (2, .int (b2i p2))]) [0, 1, 2] rfl ?_
  refine mw_aload_n cx (q := 1) 0 rfl rfl dL_setBuying_0 rfl ?_
  refine mw_iload_n cx (q := 2) 1 rfl rfl dL_setBuying_1 rfl ?_
  refine mw_iload_n cx (q := 3) 2 rfl rfl dL_setBuying_2 rfl ?_
  refine mx_callV cx hzx (q := 6) (d := 8) (u0 := 1) (As := [.int p1, .int (b2i p2)]) (z := fxi (F.1, M2)) (st := []) (st1 := [.int F.1.2]) (M' := M2) hM cv_L_38 rfl rfl rfl vi_11_0 ⟨by decide, by decide⟩ ⟨by decide, by decide⟩ (by simp) rfl rfl rfl dL_setBuying_3 rfl (fun h0 ls hl2 H1 locs1 q9 ce a1 a2 a3 a4 a5 => ?_) (fun h0 => ?_)
  · rcases hk with k0 | k1
    · exact absurd k0 h0
    · have ez : (fxi (F.1, M2)).1.1 = 1 := k1
      rw [ez] at a5
      refine mh_catch cx hzx hcx (k := 1) (lv := [(0, .ref (ad 11 0 0)), (1, .int p1), (2, .int (b2i p2))]) (by decide) ht [] (0, 14, 15, 14) [] rfl (by intro z hz; cases hz) rfl (by decide) xl_14 xc_1 hl2 a1 a2 a3 a4 a5 ?_
      refine mw_astore_n cx (q := 16) (lv' := [(3, .ref q9), (0, .ref (ad 11 0 0)), (1, .int p1), (2, .int (b2i p2))]) rfl rfl (by decide) dL_setBuying_15 rfl ?_
      refine mw_ldc cx (q := 18) (v := (-99999)) dL_setBuying_16 rfl ld_L_16 ?_
      exact gl_iret (cb := 0 + 1) cx hr rfl (by rw [e1 h0]) (by rw [e1 h0]; exact hG2) (by decide) dL_setBuying_18
  · refine mw_eqS (A := S) (B := if F.1.2 = 0 then S else S) (by split <;> rfl) ?_
    refine mw_if_eq cx (tgt := 13) (q := 9) dL_setBuying_6 (by decide) rfl (fun hz => ?_) (fun hz => ?_)
    · refine mw_iconst cx (q := 14) (v := 0) dL_setBuying_13 rfl rfl ?_
      exact gl_iret (cb := 0 + 1) cx hr rfl (by rw [e0 h0, if_pos hz]) (by rw [e0 h0]; exact hG2) (by decide) dL_setBuying_14
    · refine mw_iconst cx (q := 10) (v := 1) dL_setBuying_9 rfl rfl ?_
      refine mw_goto cx (tgt := 14) dL_setBuying_10 (by decide) ?_
      exact gl_iret (cb := 0 + 1) cx hr rfl (by rw [e0 h0, if_neg hz]) (by rw [e0 h0]; exact hG2) (by decide) dL_setBuying_14
def W_setCredit (sa : ST) (p1 : Int32) (p2 : Int32) (p3 : Int32) : Int32 × ST := if (F_setCredit sa p1 p2 p3).1.1 = 0 then ((F_setCredit sa p1 p2 p3).1.2, (F_setCredit sa p1 p2 p3).2) else (-99999, (F_setCredit sa p1 p2 p3).2)
theorem kk_setCredit (hG : GM w sa sb M) (p1 : Int32) (p2 : Int32) (p3 : Int32) : (F_setCredit sa p1 p2 p3).1.1 = 0 ∨ (F_setCredit sa p1 p2 p3).1.1 = 1 := by
  obtain ⟨a, b⟩ := hG.2.1
  have O := O_setCredit (p1 := p1) (p2 := p2) (p3 := p3) b
  rw [a] at O
  have e : (f11_setCredit M p1 p2 p3).1.1 = (F_setCredit sa p1 p2 p3).1.1 := O.1
  rw [← e]
  exact k_setCredit
set_option maxHeartbeats 1000000 in
theorem ml_L_setCredit (hl : l.stackTraces = false) (D : va_G) (ta : wTa) (ad : wAd) (p1 : Int32) (p2 : Int32) (p3 : Int32) : ML l D ta ad yL_setCredit (.codeWith yL_setCredit cL_setCredit 5 (some .int) [(0, 7, 8, 14)]) 9 3 [.ref (ad 11 0 0), .int p1, .int p2, .int p3] (GM w sa sb) ((0, (W_setCredit sa p1 p2 p3).1), GM w (W_setCredit sa p1 p2 p3).2 sb) := by
  refine ML.ofH (fun z : Int32 × ST => ((0, z.1), GM w z.2 sb)) (W_setCredit sa p1 p2 p3) rfl (by decide) (Nat.le_of_ble_eq_true rfl) (fun p e s m args below meth c cx hzx hcx ht hr M hG => ?_)
  have hk := kk_setCredit hG p1 p2 p3
  obtain ⟨M2, hG2, hM⟩ := C_setCredit (D := D) (ta := ta) (ad := ad) hl hG p1 p2 p3
  have e0 : (F_setCredit sa p1 p2 p3).1.1 = 0 → W_setCredit sa p1 p2 p3 = ((F_setCredit sa p1 p2 p3).1.2, (F_setCredit sa p1 p2 p3).2) := fun h => by unfold W_setCredit; rw [if_pos h]
  have e1 : ¬ (F_setCredit sa p1 p2 p3).1.1 = 0 → W_setCredit sa p1 p2 p3 = (-99999, (F_setCredit sa p1 p2 p3).2) := fun h => by unfold W_setCredit; rw [if_neg h]
  generalize hF : F_setCredit sa p1 p2 p3 = F at hk hG2 hM e0 e1 ⊢
  generalize W_setCredit sa p1 p2 p3 = S at e0 e1 ⊢
  refine mw_sub (lv' := [(0, .ref (ad 11 0 0)), (1, .int p1), (2, .int p2), (3, .int p3)]) [0, 1, 2, 3] rfl ?_
  refine mw_aload_n cx (q := 1) 0 rfl rfl dL_setCredit_0 rfl ?_
  refine mw_iload_n cx (q := 2) 1 rfl rfl dL_setCredit_1 rfl ?_
  refine mw_iload_n cx (q := 3) 2 rfl rfl dL_setCredit_2 rfl ?_
  refine mw_iload_n cx (q := 4) 3 rfl rfl dL_setCredit_3 rfl ?_
  refine mx_callV cx hzx (q := 7) (d := 8) (u0 := 3) (As := [.int p1, .int p2, .int p3]) (z := fxi (F.1, M2)) (st := []) (st1 := [.int F.1.2]) (M' := M2) hM cv_L_42 rfl rfl rfl vi_11_0 ⟨by decide, by decide⟩ ⟨by decide, by decide⟩ (by simp) rfl rfl rfl dL_setCredit_4 rfl (fun h0 ls hl2 H1 locs1 q9 ce a1 a2 a3 a4 a5 => ?_) (fun h0 => ?_)
  · rcases hk with k0 | k1
    · exact absurd k0 h0
    · have ez : (fxi (F.1, M2)).1.1 = 1 := k1
      rw [ez] at a5
      refine mh_catch cx hzx hcx (k := 1) (lv := [(0, .ref (ad 11 0 0)), (1, .int p1), (2, .int p2), (3, .int p3)]) (by decide) ht [] (0, 7, 8, 14) [] rfl (by intro z hz; cases hz) rfl (by decide) xl_14 xc_1 hl2 a1 a2 a3 a4 a5 ?_
      refine mw_astore cx (q := 10) (lv' := [(4, .ref q9), (0, .ref (ad 11 0 0)), (1, .int p1), (2, .int p2), (3, .int p3)]) rfl (by decide) dL_setCredit_8 rfl ?_
      refine mw_ldc cx (q := 12) (v := (-99999)) dL_setCredit_10 rfl ld_L_16 ?_
      exact gl_iret (cb := 0 + 3) cx hr rfl (by rw [e1 h0]) (by rw [e1 h0]; exact hG2) (by decide) dL_setCredit_12
  · exact gl_iret (cb := 0 + 3) cx hr rfl (by rw [e0 h0]) (by rw [e0 h0]; exact hG2) (by decide) dL_setCredit_7
def W_payBack (sa : ST) (p1 : Int32) (p2 : Int32) (p3 : Int32) : Int32 × ST := if (F_payBack sa p1 p2 p3).1.1 = 0 then ((F_payBack sa p1 p2 p3).1.2, (F_payBack sa p1 p2 p3).2) else (-99999, (F_payBack sa p1 p2 p3).2)
theorem kk_payBack (hG : GM w sa sb M) (p1 : Int32) (p2 : Int32) (p3 : Int32) : (F_payBack sa p1 p2 p3).1.1 = 0 ∨ (F_payBack sa p1 p2 p3).1.1 = 1 ∨ (F_payBack sa p1 p2 p3).1.1 = 2 := by
  obtain ⟨a, b⟩ := hG.2.1
  have O := O_payBack (p1 := p1) (p2 := p2) (p3 := p3) b
  rw [a] at O
  have e : (f11_payBack M p1 p2 p3).1.1 = (F_payBack sa p1 p2 p3).1.1 := O.1
  rw [← e]
  exact k_payBack
set_option maxHeartbeats 1000000 in
theorem ml_L_payBack (hl : l.stackTraces = false) (D : va_G) (ta : wTa) (ad : wAd) (p1 : Int32) (p2 : Int32) (p3 : Int32) : ML l D ta ad yL_payBack (.codeWith yL_payBack cL_payBack 5 (some .int) [(0, 7, 8, 14), (0, 7, 13, 17)]) 9 4 [.ref (ad 11 0 0), .int p1, .int p2, .int p3] (GM w sa sb) ((0, (W_payBack sa p1 p2 p3).1), GM w (W_payBack sa p1 p2 p3).2 sb) := by
  refine ML.ofH (fun z : Int32 × ST => ((0, z.1), GM w z.2 sb)) (W_payBack sa p1 p2 p3) rfl (by decide) (Nat.le_of_ble_eq_true rfl) (fun p e s m args below meth c cx hzx hcx ht hr M hG => ?_)
  have hk := kk_payBack hG p1 p2 p3
  obtain ⟨M2, hG2, hM⟩ := C_payBack (D := D) (ta := ta) (ad := ad) hl hG p1 p2 p3
  have e0 : (F_payBack sa p1 p2 p3).1.1 = 0 → W_payBack sa p1 p2 p3 = ((F_payBack sa p1 p2 p3).1.2, (F_payBack sa p1 p2 p3).2) := fun h => by unfold W_payBack; rw [if_pos h]
  have e1 : ¬ (F_payBack sa p1 p2 p3).1.1 = 0 → W_payBack sa p1 p2 p3 = (-99999, (F_payBack sa p1 p2 p3).2) := fun h => by unfold W_payBack; rw [if_neg h]
  generalize hF : F_payBack sa p1 p2 p3 = F at hk hG2 hM e0 e1 ⊢
  generalize W_payBack sa p1 p2 p3 = S at e0 e1 ⊢
  refine mw_sub (lv' := [(0, .ref (ad 11 0 0)), (1, .int p1), (2, .int p2), (3, .int p3)]) [0, 1, 2, 3] rfl ?_
  refine mw_aload_n cx (q := 1) 0 rfl rfl dL_payBack_0 rfl ?_
  refine mw_iload_n cx (q := 2) 1 rfl rfl dL_payBack_1 rfl ?_
  refine mw_iload_n cx (q := 3) 2 rfl rfl dL_payBack_2 rfl ?_
  refine mw_iload_n cx (q := 4) 3 rfl rfl dL_payBack_3 rfl ?_
  refine mx_callV cx hzx (q := 7) (d := 8) (u0 := 4) (As := [.int p1, .int p2, .int p3]) (z := fxi (F.1, M2)) (st := []) (st1 := [.int F.1.2]) (M' := M2) hM cv_L_46 rfl rfl rfl vi_11_0 ⟨by decide, by decide⟩ ⟨by decide, by decide⟩ (by simp) rfl rfl rfl dL_payBack_4 rfl (fun h0 ls hl2 H1 locs1 q9 ce a1 a2 a3 a4 a5 => ?_) (fun h0 => ?_)
  · rcases hk with k0 | k1 | k2
    · exact absurd k0 h0
    · have ez : (fxi (F.1, M2)).1.1 = 1 := k1
      rw [ez] at a5
      refine mh_catch cx hzx hcx (k := 1) (lv := [(0, .ref (ad 11 0 0)), (1, .int p1), (2, .int p2), (3, .int p3)]) (by decide) ht [] (0, 7, 8, 14) [(0, 7, 13, 17)] rfl (by intro z hz; cases hz) rfl (by decide) xl_14 xc_1 hl2 a1 a2 a3 a4 a5 ?_
      refine mw_astore cx (q := 10) (lv' := [(4, .ref q9), (0, .ref (ad 11 0 0)), (1, .int p1), (2, .int p2), (3, .int p3)]) rfl (by decide) dL_payBack_8 rfl ?_
      refine mw_ldc cx (q := 12) (v := (-99999)) dL_payBack_10 rfl ld_L_16 ?_
      exact gl_iret (cb := 0 + 4) cx hr rfl (by rw [e1 h0]) (by rw [e1 h0]; exact hG2) (by decide) dL_payBack_12
    · have ez : (fxi (F.1, M2)).1.1 = 2 := k2
      rw [ez] at a5
      refine mh_catch cx hzx hcx (k := 2) (lv := [(0, .ref (ad 11 0 0)), (1, .int p1), (2, .int p2), (3, .int p3)]) (by decide) ht [(0, 7, 8, 14)] (0, 7, 13, 17) [] rfl (by intro z hz; simp only [List.mem_cons, List.not_mem_nil, or_false] at hz; rcases hz with rfl <;> first | exact ⟨by decide, 1, by decide, by decide, xl_14⟩) rfl (by decide) xl_17 xc_2 hl2 a1 a2 a3 a4 a5 ?_
      refine mw_astore cx (q := 15) (lv' := [(4, .ref q9), (0, .ref (ad 11 0 0)), (1, .int p1), (2, .int p2), (3, .int p3)]) rfl (by decide) dL_payBack_13 rfl ?_
      refine mw_ldc cx (q := 17) (v := (-99999)) dL_payBack_15 rfl ld_L_16 ?_
      exact gl_iret (cb := 0 + 4) cx hr rfl (by rw [e1 h0]) (by rw [e1 h0]; exact hG2) (by decide) dL_payBack_17
  · exact gl_iret (cb := 0 + 4) cx hr rfl (by rw [e0 h0]) (by rw [e0 h0]; exact hG2) (by decide) dL_payBack_7
def W_order (sa : ST) (p1 : Int32) (p2 : Int32) (p3 : Int32) (p4 : Int32) : Int32 × ST := if (F_order sa p1 p2 p3 p4).1.1 = 0 then ((F_order sa p1 p2 p3 p4).1.2, (F_order sa p1 p2 p3 p4).2) else (-99999, (F_order sa p1 p2 p3 p4).2)
theorem kk_order (hG : GM w sa sb M) (p1 : Int32) (p2 : Int32) (p3 : Int32) (p4 : Int32) : (F_order sa p1 p2 p3 p4).1.1 = 0 ∨ (F_order sa p1 p2 p3 p4).1.1 = 1 ∨ (F_order sa p1 p2 p3 p4).1.1 = 2 := by
  obtain ⟨a, b⟩ := hG.2.1
  have O := O_order (p1 := p1) (p2 := p2) (p3 := p3) (p4 := p4) b
  rw [a] at O
  have e : (f11_order M p1 p2 p3 p4).1.1 = (F_order sa p1 p2 p3 p4).1.1 := O.1
  rw [← e]
  exact k_order
set_option maxHeartbeats 1000000 in
theorem ml_L_order (hl : l.stackTraces = false) (D : va_G) (ta : wTa) (ad : wAd) (p1 : Int32) (p2 : Int32) (p3 : Int32) (p4 : Int32) : ML l D ta ad yL_order (.codeWith yL_order cL_order 6 (some .int) [(0, 9, 10, 14), (0, 9, 15, 17)]) 9 4 [.ref (ad 11 0 0), .int p1, .int p2, .int p3, .int p4] (GM w sa sb) ((0, (W_order sa p1 p2 p3 p4).1), GM w (W_order sa p1 p2 p3 p4).2 sb) := by
  refine ML.ofH (fun z : Int32 × ST => ((0, z.1), GM w z.2 sb)) (W_order sa p1 p2 p3 p4) rfl (by decide) (Nat.le_of_ble_eq_true rfl) (fun p e s m args below meth c cx hzx hcx ht hr M hG => ?_)
  have hk := kk_order hG p1 p2 p3 p4
  obtain ⟨M2, hG2, hM⟩ := C_order (D := D) (ta := ta) (ad := ad) hl hG p1 p2 p3 p4
  have e0 : (F_order sa p1 p2 p3 p4).1.1 = 0 → W_order sa p1 p2 p3 p4 = ((F_order sa p1 p2 p3 p4).1.2, (F_order sa p1 p2 p3 p4).2) := fun h => by unfold W_order; rw [if_pos h]
  have e1 : ¬ (F_order sa p1 p2 p3 p4).1.1 = 0 → W_order sa p1 p2 p3 p4 = (-99999, (F_order sa p1 p2 p3 p4).2) := fun h => by unfold W_order; rw [if_neg h]
  generalize hF : F_order sa p1 p2 p3 p4 = F at hk hG2 hM e0 e1 ⊢
  generalize W_order sa p1 p2 p3 p4 = S at e0 e1 ⊢
  refine mw_sub (lv' := [(0, .ref (ad 11 0 0)), (1, .int p1), (2, .int p2), (3, .int p3), (4, .int p4)]) [0, 1, 2, 3, 4] rfl ?_
  refine mw_aload_n cx (q := 1) 0 rfl rfl dL_order_0 rfl ?_
  refine mw_iload_n cx (q := 2) 1 rfl rfl dL_order_1 rfl ?_
  refine mw_iload_n cx (q := 3) 2 rfl rfl dL_order_2 rfl ?_
  refine mw_iload_n cx (q := 4) 3 rfl rfl dL_order_3 rfl ?_
  refine mw_iload cx (q := 6) 4 rfl dL_order_4 rfl ?_
  refine mx_callV cx hzx (q := 9) (d := 8) (u0 := 4) (As := [.int p1, .int p2, .int p3, .int p4]) (z := fxi (F.1, M2)) (st := []) (st1 := [.int F.1.2]) (M' := M2) hM cv_L_49 rfl rfl rfl vi_11_0 ⟨by decide, by decide⟩ ⟨by decide, by decide⟩ (by simp) rfl rfl rfl dL_order_6 rfl (fun h0 ls hl2 H1 locs1 q9 ce a1 a2 a3 a4 a5 => ?_) (fun h0 => ?_)
  · rcases hk with k0 | k1 | k2
    · exact absurd k0 h0
    · have ez : (fxi (F.1, M2)).1.1 = 1 := k1
      rw [ez] at a5
      refine mh_catch cx hzx hcx (k := 1) (lv := [(0, .ref (ad 11 0 0)), (1, .int p1), (2, .int p2), (3, .int p3), (4, .int p4)]) (by decide) ht [] (0, 9, 10, 14) [(0, 9, 15, 17)] rfl (by intro z hz; cases hz) rfl (by decide) xl_14 xc_1 hl2 a1 a2 a3 a4 a5 ?_
      refine mw_astore cx (q := 12) (lv' := [(5, .ref q9), (0, .ref (ad 11 0 0)), (1, .int p1), (2, .int p2), (3, .int p3), (4, .int p4)]) rfl (by decide) dL_order_10 rfl ?_
      refine mw_ldc cx (q := 14) (v := (-99999)) dL_order_12 rfl ld_L_16 ?_
      exact gl_iret (cb := 0 + 4) cx hr rfl (by rw [e1 h0]) (by rw [e1 h0]; exact hG2) (by decide) dL_order_14
    · have ez : (fxi (F.1, M2)).1.1 = 2 := k2
      rw [ez] at a5
      refine mh_catch cx hzx hcx (k := 2) (lv := [(0, .ref (ad 11 0 0)), (1, .int p1), (2, .int p2), (3, .int p3), (4, .int p4)]) (by decide) ht [(0, 9, 10, 14)] (0, 9, 15, 17) [] rfl (by intro z hz; simp only [List.mem_cons, List.not_mem_nil, or_false] at hz; rcases hz with rfl <;> first | exact ⟨by decide, 1, by decide, by decide, xl_14⟩) rfl (by decide) xl_17 xc_2 hl2 a1 a2 a3 a4 a5 ?_
      refine mw_astore cx (q := 17) (lv' := [(5, .ref q9), (0, .ref (ad 11 0 0)), (1, .int p1), (2, .int p2), (3, .int p3), (4, .int p4)]) rfl (by decide) dL_order_15 rfl ?_
      refine mw_ldc cx (q := 19) (v := (-99999)) dL_order_17 rfl ld_L_16 ?_
      exact gl_iret (cb := 0 + 4) cx hr rfl (by rw [e1 h0]) (by rw [e1 h0]; exact hG2) (by decide) dL_order_19
  · exact gl_iret (cb := 0 + 4) cx hr rfl (by rw [e0 h0]) (by rw [e0 h0]; exact hG2) (by decide) dL_order_9
noncomputable def W_pass (sa : ST) (p1 : Int32) : Int32 × ST := if (F_pass sa p1).1.1 = 0 then ((F_pass sa p1).1.2, (F_pass sa p1).2) else (-99999, (F_pass sa p1).2)
theorem kk_pass (hG : GM w sa sb M) (p1 : Int32) : (F_pass sa p1).1.1 = 0 ∨ (F_pass sa p1).1.1 = 1 ∨ (F_pass sa p1).1.1 = 2 := by
  obtain ⟨a, b⟩ := hG.2.1
  have O := O_pass (p1 := p1) b
  rw [a] at O
  have e : (f11_pass M p1).1.1 = (F_pass sa p1).1.1 := O.1
  rw [← e]
  exact (k_pass lp37_k)
set_option maxHeartbeats 1000000 in
theorem ml_L_pass (hl : l.stackTraces = false) (D : va_G) (ta : wTa) (ad : wAd) (p1 : Int32) : ML l D ta ad yL_pass (.codeWith yL_pass cL_pass 3 (some .int) [(0, 5, 6, 14), (0, 5, 10, 17)]) 221 2 [.ref (ad 11 0 0), .int p1] (GM w sa sb) ((0, (W_pass sa p1).1), GM w (W_pass sa p1).2 sb) := by
  refine ML.ofH (fun z : Int32 × ST => ((0, z.1), GM w z.2 sb)) (W_pass sa p1) rfl (by decide) (Nat.le_of_ble_eq_true rfl) (fun p e s m args below meth c cx hzx hcx ht hr M hG => ?_)
  have hk := kk_pass hG p1
  obtain ⟨M2, hG2, hM⟩ := C_pass (D := D) (ta := ta) (ad := ad) hl hG p1
  have e0 : (F_pass sa p1).1.1 = 0 → W_pass sa p1 = ((F_pass sa p1).1.2, (F_pass sa p1).2) := fun h => by unfold W_pass; rw [if_pos h]
  have e1 : ¬ (F_pass sa p1).1.1 = 0 → W_pass sa p1 = (-99999, (F_pass sa p1).2) := fun h => by unfold W_pass; rw [if_neg h]
  generalize hF : F_pass sa p1 = F at hk hG2 hM e0 e1 ⊢
  generalize W_pass sa p1 = S at e0 e1 ⊢
  refine mw_sub (lv' := [(0, .ref (ad 11 0 0)), (1, .int p1)]) [0, 1] rfl ?_
  refine mw_aload_n cx (q := 1) 0 rfl rfl dL_pass_0 rfl ?_
  refine mw_iload_n cx (q := 2) 1 rfl rfl dL_pass_1 rfl ?_
  refine mx_callV cx hzx (q := 5) (d := 220) (u0 := 2) (As := [.int p1]) (z := fxi (F.1, M2)) (st := []) (st1 := [.int F.1.2]) (M' := M2) hM cv_L_53 rfl rfl rfl vi_11_0 ⟨by decide, by decide⟩ ⟨by decide, by decide⟩ (by simp) rfl rfl rfl dL_pass_2 rfl (fun h0 ls hl2 H1 locs1 q9 ce a1 a2 a3 a4 a5 => ?_) (fun h0 => ?_)
  · rcases hk with k0 | k1 | k2
    · exact absurd k0 h0
    · have ez : (fxi (F.1, M2)).1.1 = 1 := k1
      rw [ez] at a5
      refine mh_catch cx hzx hcx (k := 1) (lv := [(0, .ref (ad 11 0 0)), (1, .int p1)]) (by decide) ht [] (0, 5, 6, 14) [(0, 5, 10, 17)] rfl (by intro z hz; cases hz) rfl (by decide) xl_14 xc_1 hl2 a1 a2 a3 a4 a5 ?_
      refine mw_astore_n cx (q := 7) (lv' := [(2, .ref q9), (0, .ref (ad 11 0 0)), (1, .int p1)]) rfl rfl (by decide) dL_pass_6 rfl ?_
      refine mw_ldc cx (q := 9) (v := (-99999)) dL_pass_7 rfl ld_L_16 ?_
      exact gl_iret (cb := 0 + 2) cx hr rfl (by rw [e1 h0]) (by rw [e1 h0]; exact hG2) (by decide) dL_pass_9
    · have ez : (fxi (F.1, M2)).1.1 = 2 := k2
      rw [ez] at a5
      refine mh_catch cx hzx hcx (k := 2) (lv := [(0, .ref (ad 11 0 0)), (1, .int p1)]) (by decide) ht [(0, 5, 6, 14)] (0, 5, 10, 17) [] rfl (by intro z hz; simp only [List.mem_cons, List.not_mem_nil, or_false] at hz; rcases hz with rfl <;> first | exact ⟨by decide, 1, by decide, by decide, xl_14⟩) rfl (by decide) xl_17 xc_2 hl2 a1 a2 a3 a4 a5 ?_
      refine mw_astore_n cx (q := 11) (lv' := [(2, .ref q9), (0, .ref (ad 11 0 0)), (1, .int p1)]) rfl rfl (by decide) dL_pass_10 rfl ?_
      refine mw_ldc cx (q := 13) (v := (-99999)) dL_pass_11 rfl ld_L_16 ?_
      exact gl_iret (cb := 0 + 2) cx hr rfl (by rw [e1 h0]) (by rw [e1 h0]; exact hG2) (by decide) dL_pass_13
  · exact gl_iret (cb := 0 + 2) cx hr rfl (by rw [e0 h0]) (by rw [e0 h0]; exact hG2) (by decide) dL_pass_5
noncomputable def W_takeUp (sa : ST) (p1 : Int32) (p2 : Int32) : Int32 × ST := if (F_takeUp sa p1 p2).1.1 = 0 then ((F_takeUp sa p1 p2).1.2, (F_takeUp sa p1 p2).2) else (-99999, (F_takeUp sa p1 p2).2)
theorem kk_takeUp (hG : GM w sa sb M) (p1 : Int32) (p2 : Int32) (hk0 : sa.2.1 < 10000) : (F_takeUp sa p1 p2).1.1 = 0 ∨ (F_takeUp sa p1 p2).1.1 = 3 ∨ (F_takeUp sa p1 p2).1.1 = 1 ∨ (F_takeUp sa p1 p2).1.1 = 2 := by
  obtain ⟨a, b⟩ := hG.2.1
  have O := O_takeUp (p1 := p1) (p2 := p2) b hk0
  rw [a] at O
  have e : (f11_takeUp M p1 p2).1.1 = (F_takeUp sa p1 p2).1.1 := O.1
  rw [← e]
  exact (k_takeUp b.1.o.2.2.1.1)
set_option maxHeartbeats 1000000 in
theorem ml_L_takeUp (hl : l.stackTraces = false) (D : va_G) (ta : wTa) (ad : wAd) (p1 : Int32) (p2 : Int32) (hk0 : sa.2.1 < 10000) : ML l D ta ad yL_takeUp (.codeWith yL_takeUp cL_takeUp 4 (some .int) [(0, 6, 7, 59), (0, 6, 11, 14), (0, 6, 15, 17)]) 221 3 [.ref (ad 11 0 0), .int p1, .int p2] (GM w sa sb) ((0, (W_takeUp sa p1 p2).1), GM w (W_takeUp sa p1 p2).2 sb) := by
  refine ML.ofH (fun z : Int32 × ST => ((0, z.1), GM w z.2 sb)) (W_takeUp sa p1 p2) rfl (by decide) (Nat.le_of_ble_eq_true rfl) (fun p e s m args below meth c cx hzx hcx ht hr M hG => ?_)
  have hk := kk_takeUp hG p1 p2 hk0
  obtain ⟨M2, hG2, hM⟩ := C_takeUp (D := D) (ta := ta) (ad := ad) hl hG p1 p2 hk0
  have e0 : (F_takeUp sa p1 p2).1.1 = 0 → W_takeUp sa p1 p2 = ((F_takeUp sa p1 p2).1.2, (F_takeUp sa p1 p2).2) := fun h => by unfold W_takeUp; rw [if_pos h]
  have e1 : ¬ (F_takeUp sa p1 p2).1.1 = 0 → W_takeUp sa p1 p2 = (-99999, (F_takeUp sa p1 p2).2) := fun h => by unfold W_takeUp; rw [if_neg h]
  generalize hF : F_takeUp sa p1 p2 = F at hk hG2 hM e0 e1 ⊢
  generalize W_takeUp sa p1 p2 = S at e0 e1 ⊢
  refine mw_sub (lv' := [(0, .ref (ad 11 0 0)), (1, .int p1), (2, .int p2)]) [0, 1, 2] rfl ?_
  refine mw_aload_n cx (q := 1) 0 rfl rfl dL_takeUp_0 rfl ?_
  refine mw_iload_n cx (q := 2) 1 rfl rfl dL_takeUp_1 rfl ?_
  refine mw_iload_n cx (q := 3) 2 rfl rfl dL_takeUp_2 rfl ?_
  refine mx_callV cx hzx (q := 6) (d := 220) (u0 := 3) (As := [.int p1, .int p2]) (z := fxi (F.1, M2)) (st := []) (st1 := [.int F.1.2]) (M' := M2) hM cv_L_56 rfl rfl rfl vi_11_0 ⟨by decide, by decide⟩ ⟨by decide, by decide⟩ (by simp) rfl rfl rfl dL_takeUp_3 rfl (fun h0 ls hl2 H1 locs1 q9 ce a1 a2 a3 a4 a5 => ?_) (fun h0 => ?_)
  · rcases hk with k0 | k1 | k2 | k3
    · exact absurd k0 h0
    · have ez : (fxi (F.1, M2)).1.1 = 3 := k1
      rw [ez] at a5
      refine mh_catch cx hzx hcx (k := 3) (lv := [(0, .ref (ad 11 0 0)), (1, .int p1), (2, .int p2)]) (by decide) ht [] (0, 6, 7, 59) [(0, 6, 11, 14), (0, 6, 15, 17)] rfl (by intro z hz; cases hz) rfl (by decide) xl_59 xc_3 hl2 a1 a2 a3 a4 a5 ?_
      refine mw_astore_n cx (q := 8) (lv' := [(3, .ref q9), (0, .ref (ad 11 0 0)), (1, .int p1), (2, .int p2)]) rfl rfl (by decide) dL_takeUp_7 rfl ?_
      refine mw_ldc cx (q := 10) (v := (-99999)) dL_takeUp_8 rfl ld_L_16 ?_
      exact gl_iret (cb := 0 + 3) cx hr rfl (by rw [e1 h0]) (by rw [e1 h0]; exact hG2) (by decide) dL_takeUp_10
    · have ez : (fxi (F.1, M2)).1.1 = 1 := k2
      rw [ez] at a5
      refine mh_catch cx hzx hcx (k := 1) (lv := [(0, .ref (ad 11 0 0)), (1, .int p1), (2, .int p2)]) (by decide) ht [(0, 6, 7, 59)] (0, 6, 11, 14) [(0, 6, 15, 17)] rfl (by intro z hz; simp only [List.mem_cons, List.not_mem_nil, or_false] at hz; rcases hz with rfl <;> first | exact ⟨by decide, 3, by decide, by decide, xl_59⟩) rfl (by decide) xl_14 xc_1 hl2 a1 a2 a3 a4 a5 ?_
      refine mw_astore_n cx (q := 12) (lv' := [(3, .ref q9), (0, .ref (ad 11 0 0)), (1, .int p1), (2, .int p2)]) rfl rfl (by decide) dL_takeUp_11 rfl ?_
      refine mw_ldc cx (q := 14) (v := (-99999)) dL_takeUp_12 rfl ld_L_16 ?_
      exact gl_iret (cb := 0 + 3) cx hr rfl (by rw [e1 h0]) (by rw [e1 h0]; exact hG2) (by decide) dL_takeUp_14
    · have ez : (fxi (F.1, M2)).1.1 = 2 := k3
      rw [ez] at a5
      refine mh_catch cx hzx hcx (k := 2) (lv := [(0, .ref (ad 11 0 0)), (1, .int p1), (2, .int p2)]) (by decide) ht [(0, 6, 7, 59), (0, 6, 11, 14)] (0, 6, 15, 17) [] rfl (by intro z hz; simp only [List.mem_cons, List.not_mem_nil, or_false] at hz; rcases hz with rfl | rfl <;> first | exact ⟨by decide, 3, by decide, by decide, xl_59⟩ | exact ⟨by decide, 1, by decide, by decide, xl_14⟩) rfl (by decide) xl_17 xc_2 hl2 a1 a2 a3 a4 a5 ?_
      refine mw_astore_n cx (q := 16) (lv' := [(3, .ref q9), (0, .ref (ad 11 0 0)), (1, .int p1), (2, .int p2)]) rfl rfl (by decide) dL_takeUp_15 rfl ?_
      refine mw_ldc cx (q := 18) (v := (-99999)) dL_takeUp_16 rfl ld_L_16 ?_
      exact gl_iret (cb := 0 + 3) cx hr rfl (by rw [e1 h0]) (by rw [e1 h0]; exact hG2) (by decide) dL_takeUp_18
  · exact gl_iret (cb := 0 + 3) cx hr rfl (by rw [e0 h0]) (by rw [e0 h0]; exact hG2) (by decide) dL_takeUp_6
end WRP
