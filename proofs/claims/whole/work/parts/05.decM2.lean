theorem dX12_choose_92 : decode cX12_choose 92 = .ok (.ifCond .eq 16, 3) := by decide +kernel
theorem dX12_choose_95 : decode cX12_choose 95 = .ok (.iload_n 2, 1) := by decide +kernel
theorem dX12_choose_96 : decode cX12_choose 96 = .ok (.bipush 11, 2) := by decide +kernel
theorem dX12_choose_98 : decode cX12_choose 98 = .ok (.if_icmp .ne 21, 3) := by decide +kernel
theorem dX12_choose_101 : decode cX12_choose 101 = .ok (.aload_n 0, 1) := by decide +kernel
theorem dX12_choose_102 : decode cX12_choose 102 = .ok (.getfield 232, 3) := by decide +kernel
theorem dX12_choose_105 : decode cX12_choose 105 = .ok (.ifCond .eq 14, 3) := by decide +kernel
theorem dX12_choose_108 : decode cX12_choose 108 = .ok (.aload_n 0, 1) := by decide +kernel
theorem dX12_choose_109 : decode cX12_choose 109 = .ok (.aload_n 0, 1) := by decide +kernel
theorem dX12_choose_110 : decode cX12_choose 110 = .ok (.getfield 232, 3) := by decide +kernel
theorem dX12_choose_113 : decode cX12_choose 113 = .ok (.invokevirtual 330, 3) := by decide +kernel
theorem dX12_choose_116 : decode cX12_choose 116 = .ok (.goto 36, 3) := by decide +kernel
theorem dX12_choose_119 : decode cX12_choose 119 = .ok (.aload_n 0, 1) := by decide +kernel
theorem dX12_choose_120 : decode cX12_choose 120 = .ok (.iload_n 1, 1) := by decide +kernel
theorem dX12_choose_121 : decode cX12_choose 121 = .ok (.iload_n 2, 1) := by decide +kernel
theorem dX12_choose_122 : decode cX12_choose 122 = .ok (.bipush 12, 2) := by decide +kernel
theorem dX12_choose_124 : decode cX12_choose 124 = .ok (.if_icmp .ne 24, 3) := by decide +kernel
theorem dX12_choose_127 : decode cX12_choose 127 = .ok (.aload_n 0, 1) := by decide +kernel
theorem dX12_choose_128 : decode cX12_choose 128 = .ok (.getfield 232, 3) := by decide +kernel
theorem dX12_choose_131 : decode cX12_choose 131 = .ok (.ifCond .ne 17, 3) := by decide +kernel
theorem dX12_choose_134 : decode cX12_choose 134 = .ok (.aload_n 0, 1) := by decide +kernel
theorem dX12_choose_135 : decode cX12_choose 135 = .ok (.aload_n 0, 1) := by decide +kernel
theorem dX12_choose_136 : decode cX12_choose 136 = .ok (.getfield 98, 3) := by decide +kernel
theorem dX12_choose_139 : decode cX12_choose 139 = .ok (.iload_n 1, 1) := by decide +kernel
theorem dX12_choose_140 : decode cX12_choose 140 = .ok (.iaload, 1) := by decide +kernel
theorem dX12_choose_141 : decode cX12_choose 141 = .ok (.iload_n 3, 1) := by decide +kernel
theorem dX12_choose_142 : decode cX12_choose 142 = .ok (.invokevirtual 201, 3) := by decide +kernel
theorem dX12_choose_145 : decode cX12_choose 145 = .ok (.goto 4, 3) := by decide +kernel
theorem dX12_choose_148 : decode cX12_choose 148 = .ok (.iload_n 3, 1) := by decide +kernel
theorem dX12_choose_149 : decode cX12_choose 149 = .ok (.invokevirtual 323, 3) := by decide +kernel
theorem dX12_choose_152 : decode cX12_choose 152 = .ok (.return_, 1) := by decide +kernel
theorem dX12_repeat_0 : decode cX12_repeat 0 = .ok (.aload_n 0, 1) := by decide +kernel
theorem dX12_repeat_1 : decode cX12_repeat 1 = .ok (.getfield 107, 3) := by decide +kernel
theorem dX12_repeat_4 : decode cX12_repeat 4 = .ok (.iload_n 1, 1) := by decide +kernel
theorem dX12_repeat_5 : decode cX12_repeat 5 = .ok (.iaload, 1) := by decide +kernel
theorem dX12_repeat_6 : decode cX12_repeat 6 = .ok (.iconst (-1), 1) := by decide +kernel
theorem dX12_repeat_7 : decode cX12_repeat 7 = .ok (.if_icmp .ne 12, 3) := by decide +kernel
theorem dX12_repeat_10 : decode cX12_repeat 10 = .ok (.aload_n 0, 1) := by decide +kernel
theorem dX12_repeat_11 : decode cX12_repeat 11 = .ok (.getfield 110, 3) := by decide +kernel
theorem dX12_repeat_14 : decode cX12_repeat 14 = .ok (.iload_n 1, 1) := by decide +kernel
theorem dX12_repeat_15 : decode cX12_repeat 15 = .ok (.iaload, 1) := by decide +kernel
theorem dX12_repeat_16 : decode cX12_repeat 16 = .ok (.goto 19, 3) := by decide +kernel
theorem dX12_repeat_19 : decode cX12_repeat 19 = .ok (.aload_n 0, 1) := by decide +kernel
theorem dX12_repeat_20 : decode cX12_repeat 20 = .ok (.aload_n 0, 1) := by decide +kernel
theorem dX12_repeat_21 : decode cX12_repeat 21 = .ok (.getfield 98, 3) := by decide +kernel
theorem dX12_repeat_24 : decode cX12_repeat 24 = .ok (.iload_n 1, 1) := by decide +kernel
theorem dX12_repeat_25 : decode cX12_repeat 25 = .ok (.iaload, 1) := by decide +kernel
theorem dX12_repeat_26 : decode cX12_repeat 26 = .ok (.aload_n 0, 1) := by decide +kernel
theorem dX12_repeat_27 : decode cX12_repeat 27 = .ok (.getfield 107, 3) := by decide +kernel
theorem dX12_repeat_30 : decode cX12_repeat 30 = .ok (.iload_n 1, 1) := by decide +kernel
theorem dX12_repeat_31 : decode cX12_repeat 31 = .ok (.iaload, 1) := by decide +kernel
theorem dX12_repeat_32 : decode cX12_repeat 32 = .ok (.invokevirtual 201, 3) := by decide +kernel
theorem dX12_repeat_35 : decode cX12_repeat 35 = .ok (.istore_n 2, 1) := by decide +kernel
theorem dX12_repeat_36 : decode cX12_repeat 36 = .ok (.aload_n 0, 1) := by decide +kernel
theorem dX12_repeat_37 : decode cX12_repeat 37 = .ok (.getfield 104, 3) := by decide +kernel
theorem dX12_repeat_40 : decode cX12_repeat 40 = .ok (.iload_n 1, 1) := by decide +kernel
theorem dX12_repeat_41 : decode cX12_repeat 41 = .ok (.iaload, 1) := by decide +kernel
theorem dX12_repeat_42 : decode cX12_repeat 42 = .ok (.ifCond .le 38, 3) := by decide +kernel
theorem dX12_repeat_45 : decode cX12_repeat 45 = .ok (.aload_n 0, 1) := by decide +kernel
theorem dX12_repeat_46 : decode cX12_repeat 46 = .ok (.getfield 107, 3) := by decide +kernel
theorem dX12_repeat_49 : decode cX12_repeat 49 = .ok (.iload_n 1, 1) := by decide +kernel
theorem dX12_repeat_50 : decode cX12_repeat 50 = .ok (.iaload, 1) := by decide +kernel
theorem dX12_repeat_51 : decode cX12_repeat 51 = .ok (.aload_n 0, 1) := by decide +kernel
theorem dX12_repeat_52 : decode cX12_repeat 52 = .ok (.getfield 110, 3) := by decide +kernel
theorem dX12_repeat_55 : decode cX12_repeat 55 = .ok (.iload_n 1, 1) := by decide +kernel
theorem dX12_repeat_56 : decode cX12_repeat 56 = .ok (.iaload, 1) := by decide +kernel
theorem dX12_repeat_57 : decode cX12_repeat 57 = .ok (.if_icmp .ne 23, 3) := by decide +kernel
theorem dX12_repeat_60 : decode cX12_repeat 60 = .ok (.aload_n 0, 1) := by decide +kernel
theorem dX12_repeat_61 : decode cX12_repeat 61 = .ok (.getfield 232, 3) := by decide +kernel
theorem dX12_repeat_64 : decode cX12_repeat 64 = .ok (.ifCond .ne 16, 3) := by decide +kernel
theorem dX12_repeat_67 : decode cX12_repeat 67 = .ok (.aload_n 0, 1) := by decide +kernel
theorem dX12_repeat_68 : decode cX12_repeat 68 = .ok (.aload_n 0, 1) := by decide +kernel
theorem dX12_repeat_69 : decode cX12_repeat 69 = .ok (.getfield 116, 3) := by decide +kernel
theorem dX12_repeat_72 : decode cX12_repeat 72 = .ok (.iload_n 1, 1) := by decide +kernel
theorem dX12_repeat_73 : decode cX12_repeat 73 = .ok (.iaload, 1) := by decide +kernel
theorem dX12_repeat_74 : decode cX12_repeat 74 = .ok (.invokevirtual 330, 3) := by decide +kernel
theorem dX12_repeat_77 : decode cX12_repeat 77 = .ok (.goto 38, 3) := by decide +kernel
theorem dX12_repeat_80 : decode cX12_repeat 80 = .ok (.iload_n 2, 1) := by decide +kernel
theorem dX12_repeat_81 : decode cX12_repeat 81 = .ok (.iconst (-1), 1) := by decide +kernel
theorem dX12_repeat_82 : decode cX12_repeat 82 = .ok (.if_icmp .ne 27, 3) := by decide +kernel
theorem dX12_repeat_85 : decode cX12_repeat 85 = .ok (.aload_n 0, 1) := by decide +kernel
theorem dX12_repeat_86 : decode cX12_repeat 86 = .ok (.getfield 116, 3) := by decide +kernel
theorem dX12_repeat_89 : decode cX12_repeat 89 = .ok (.iload_n 1, 1) := by decide +kernel
theorem dX12_repeat_90 : decode cX12_repeat 90 = .ok (.dup2, 1) := by decide +kernel
theorem dX12_repeat_91 : decode cX12_repeat 91 = .ok (.iaload, 1) := by decide +kernel
theorem dX12_repeat_92 : decode cX12_repeat 92 = .ok (.iconst 1, 1) := by decide +kernel
theorem dX12_repeat_93 : decode cX12_repeat 93 = .ok (.iadd, 1) := by decide +kernel
theorem dX12_repeat_94 : decode cX12_repeat 94 = .ok (.iastore, 1) := by decide +kernel
theorem dX12_repeat_95 : decode cX12_repeat 95 = .ok (.aload_n 0, 1) := by decide +kernel
theorem dX12_repeat_96 : decode cX12_repeat 96 = .ok (.iload_n 1, 1) := by decide +kernel
theorem dX12_repeat_97 : decode cX12_repeat 97 = .ok (.aload_n 0, 1) := by decide +kernel
theorem dX12_repeat_98 : decode cX12_repeat 98 = .ok (.getfield 110, 3) := by decide +kernel
theorem dX12_repeat_101 : decode cX12_repeat 101 = .ok (.iload_n 1, 1) := by decide +kernel
theorem dX12_repeat_102 : decode cX12_repeat 102 = .ok (.iaload, 1) := by decide +kernel
theorem dX12_repeat_103 : decode cX12_repeat 103 = .ok (.invokevirtual 323, 3) := by decide +kernel
theorem dX12_repeat_106 : decode cX12_repeat 106 = .ok (.goto 9, 3) := by decide +kernel
theorem dX12_repeat_109 : decode cX12_repeat 109 = .ok (.aload_n 0, 1) := by decide +kernel
theorem dX12_repeat_110 : decode cX12_repeat 110 = .ok (.iload_n 1, 1) := by decide +kernel
theorem dX12_repeat_111 : decode cX12_repeat 111 = .ok (.iload_n 2, 1) := by decide +kernel
theorem dX12_repeat_112 : decode cX12_repeat 112 = .ok (.invokevirtual 323, 3) := by decide +kernel
theorem dX12_repeat_115 : decode cX12_repeat 115 = .ok (.return_, 1) := by decide +kernel
theorem dX12_goThrough_0 : decode cX12_goThrough 0 = .ok (.aload_n 0, 1) := by decide +kernel
theorem dX12_goThrough_1 : decode cX12_goThrough 1 = .ok (.getfield 101, 3) := by decide +kernel
theorem dX12_goThrough_4 : decode cX12_goThrough 4 = .ok (.iload_n 1, 1) := by decide +kernel
theorem dX12_goThrough_5 : decode cX12_goThrough 5 = .ok (.iaload, 1) := by decide +kernel
theorem dX12_goThrough_6 : decode cX12_goThrough 6 = .ok (.bipush 15, 2) := by decide +kernel
theorem dX12_goThrough_8 : decode cX12_goThrough 8 = .ok (.if_icmp .ne 7, 3) := by decide +kernel
theorem dX12_goThrough_11 : decode cX12_goThrough 11 = .ok (.iconst 1, 1) := by decide +kernel
theorem dX12_goThrough_12 : decode cX12_goThrough 12 = .ok (.goto 4, 3) := by decide +kernel
theorem dX12_goThrough_15 : decode cX12_goThrough 15 = .ok (.iconst 0, 1) := by decide +kernel
theorem dX12_goThrough_16 : decode cX12_goThrough 16 = .ok (.istore_n 2, 1) := by decide +kernel
theorem dX12_goThrough_17 : decode cX12_goThrough 17 = .ok (.aload_n 0, 1) := by decide +kernel
theorem dX12_goThrough_18 : decode cX12_goThrough 18 = .ok (.getfield 104, 3) := by decide +kernel
theorem dX12_goThrough_21 : decode cX12_goThrough 21 = .ok (.iload_n 1, 1) := by decide +kernel
theorem dX12_goThrough_22 : decode cX12_goThrough 22 = .ok (.iaload, 1) := by decide +kernel
theorem dX12_goThrough_23 : decode cX12_goThrough 23 = .ok (.ifCond .ne 48, 3) := by decide +kernel
theorem dX12_goThrough_26 : decode cX12_goThrough 26 = .ok (.aload_n 0, 1) := by decide +kernel
theorem dX12_goThrough_27 : decode cX12_goThrough 27 = .ok (.getfield 125, 3) := by decide +kernel
theorem dX12_goThrough_30 : decode cX12_goThrough 30 = .ok (.iload_n 1, 1) := by decide +kernel
theorem dX12_goThrough_31 : decode cX12_goThrough 31 = .ok (.aload_n 0, 1) := by decide +kernel
theorem dX12_goThrough_32 : decode cX12_goThrough 32 = .ok (.getfield 251, 3) := by decide +kernel
theorem dX12_goThrough_35 : decode cX12_goThrough 35 = .ok (.iastore, 1) := by decide +kernel
theorem dX12_goThrough_36 : decode cX12_goThrough 36 = .ok (.aload_n 0, 1) := by decide +kernel
theorem dX12_goThrough_37 : decode cX12_goThrough 37 = .ok (.iload_n 1, 1) := by decide +kernel
theorem dX12_goThrough_38 : decode cX12_goThrough 38 = .ok (.iload_n 2, 1) := by decide +kernel
theorem dX12_goThrough_39 : decode cX12_goThrough 39 = .ok (.ifCond .eq 22, 3) := by decide +kernel
theorem dX12_goThrough_42 : decode cX12_goThrough 42 = .ok (.aload_n 0, 1) := by decide +kernel
theorem dX12_goThrough_43 : decode cX12_goThrough 43 = .ok (.aload_n 0, 1) := by decide +kernel
theorem dX12_goThrough_44 : decode cX12_goThrough 44 = .ok (.getfield 98, 3) := by decide +kernel
theorem dX12_goThrough_47 : decode cX12_goThrough 47 = .ok (.iload_n 1, 1) := by decide +kernel
theorem dX12_goThrough_48 : decode cX12_goThrough 48 = .ok (.iaload, 1) := by decide +kernel
theorem dX12_goThrough_49 : decode cX12_goThrough 49 = .ok (.aload_n 0, 1) := by decide +kernel
theorem dX12_goThrough_50 : decode cX12_goThrough 50 = .ok (.getfield 110, 3) := by decide +kernel
theorem dX12_goThrough_53 : decode cX12_goThrough 53 = .ok (.iload_n 1, 1) := by decide +kernel
theorem dX12_goThrough_54 : decode cX12_goThrough 54 = .ok (.iaload, 1) := by decide +kernel
theorem dX12_goThrough_55 : decode cX12_goThrough 55 = .ok (.invokevirtual 201, 3) := by decide +kernel
theorem dX12_goThrough_58 : decode cX12_goThrough 58 = .ok (.goto 9, 3) := by decide +kernel
theorem dX12_goThrough_61 : decode cX12_goThrough 61 = .ok (.aload_n 0, 1) := by decide +kernel
theorem dX12_goThrough_62 : decode cX12_goThrough 62 = .ok (.getfield 110, 3) := by decide +kernel
theorem dX12_goThrough_65 : decode cX12_goThrough 65 = .ok (.iload_n 1, 1) := by decide +kernel
theorem dX12_goThrough_66 : decode cX12_goThrough 66 = .ok (.iaload, 1) := by decide +kernel
theorem dX12_goThrough_67 : decode cX12_goThrough 67 = .ok (.invokevirtual 323, 3) := by decide +kernel
theorem dX12_goThrough_70 : decode cX12_goThrough 70 = .ok (.return_, 1) := by decide +kernel
theorem dX12_goThrough_71 : decode cX12_goThrough 71 = .ok (.iload_n 2, 1) := by decide +kernel
theorem dX12_goThrough_72 : decode cX12_goThrough 72 = .ok (.ifCond .eq 37, 3) := by decide +kernel
theorem dX12_goThrough_75 : decode cX12_goThrough 75 = .ok (.aload_n 0, 1) := by decide +kernel
theorem dX12_goThrough_76 : decode cX12_goThrough 76 = .ok (.getfield 104, 3) := by decide +kernel
theorem dX12_goThrough_79 : decode cX12_goThrough 79 = .ok (.iload_n 1, 1) := by decide +kernel
theorem dX12_goThrough_80 : decode cX12_goThrough 80 = .ok (.iaload, 1) := by decide +kernel
theorem dX12_goThrough_81 : decode cX12_goThrough 81 = .ok (.iconst 1, 1) := by decide +kernel
theorem dX12_goThrough_82 : decode cX12_goThrough 82 = .ok (.if_icmp .ne 27, 3) := by decide +kernel
theorem dX12_goThrough_85 : decode cX12_goThrough 85 = .ok (.aload_n 0, 1) := by decide +kernel
theorem dX12_goThrough_86 : decode cX12_goThrough 86 = .ok (.aload_n 0, 1) := by decide +kernel
theorem dX12_goThrough_87 : decode cX12_goThrough 87 = .ok (.aload_n 0, 1) := by decide +kernel
theorem dX12_goThrough_88 : decode cX12_goThrough 88 = .ok (.getfield 98, 3) := by decide +kernel
theorem dX12_goThrough_91 : decode cX12_goThrough 91 = .ok (.iload_n 1, 1) := by decide +kernel
theorem dX12_goThrough_92 : decode cX12_goThrough 92 = .ok (.iaload, 1) := by decide +kernel
theorem dX12_goThrough_93 : decode cX12_goThrough 93 = .ok (.aload_n 0, 1) := by decide +kernel
theorem dX12_goThrough_94 : decode cX12_goThrough 94 = .ok (.getfield 110, 3) := by decide +kernel
theorem dX12_goThrough_97 : decode cX12_goThrough 97 = .ok (.iload_n 1, 1) := by decide +kernel
theorem dX12_goThrough_98 : decode cX12_goThrough 98 = .ok (.iaload, 1) := by decide +kernel
theorem dX12_goThrough_99 : decode cX12_goThrough 99 = .ok (.invokevirtual 211, 3) := by decide +kernel
theorem dX12_goThrough_102 : decode cX12_goThrough 102 = .ok (.aload_n 0, 1) := by decide +kernel
theorem dX12_goThrough_103 : decode cX12_goThrough 103 = .ok (.getfield 232, 3) := by decide +kernel
theorem dX12_goThrough_106 : decode cX12_goThrough 106 = .ok (.invokevirtual 333, 3) := by decide +kernel
theorem dX12_goThrough_109 : decode cX12_goThrough 109 = .ok (.aload_n 0, 1) := by decide +kernel
theorem dX12_goThrough_110 : decode cX12_goThrough 110 = .ok (.aload_n 0, 1) := by decide +kernel
theorem dX12_goThrough_111 : decode cX12_goThrough 111 = .ok (.getfield 98, 3) := by decide +kernel
theorem dX12_goThrough_114 : decode cX12_goThrough 114 = .ok (.iload_n 1, 1) := by decide +kernel
theorem dX12_goThrough_115 : decode cX12_goThrough 115 = .ok (.iaload, 1) := by decide +kernel
theorem dX12_goThrough_116 : decode cX12_goThrough 116 = .ok (.aload_n 0, 1) := by decide +kernel
theorem dX12_goThrough_117 : decode cX12_goThrough 117 = .ok (.getfield 107, 3) := by decide +kernel
theorem dX12_goThrough_120 : decode cX12_goThrough 120 = .ok (.iload_n 1, 1) := by decide +kernel
theorem dX12_goThrough_121 : decode cX12_goThrough 121 = .ok (.iaload, 1) := by decide +kernel
theorem dX12_goThrough_122 : decode cX12_goThrough 122 = .ok (.invokevirtual 201, 3) := by decide +kernel
theorem dX12_goThrough_125 : decode cX12_goThrough 125 = .ok (.istore_n 3, 1) := by decide +kernel
theorem dX12_goThrough_126 : decode cX12_goThrough 126 = .ok (.iload_n 3, 1) := by decide +kernel
theorem dX12_goThrough_127 : decode cX12_goThrough 127 = .ok (.iconst (-1), 1) := by decide +kernel
theorem dX12_goThrough_128 : decode cX12_goThrough 128 = .ok (.if_icmp .ne 24, 3) := by decide +kernel
theorem dX12_goThrough_131 : decode cX12_goThrough 131 = .ok (.aload_n 0, 1) := by decide +kernel
theorem dX12_goThrough_132 : decode cX12_goThrough 132 = .ok (.aload_n 0, 1) := by decide +kernel
theorem dX12_goThrough_133 : decode cX12_goThrough 133 = .ok (.getfield 125, 3) := by decide +kernel
theorem dX12_goThrough_136 : decode cX12_goThrough 136 = .ok (.iload_n 1, 1) := by decide +kernel
theorem dX12_goThrough_137 : decode cX12_goThrough 137 = .ok (.iaload, 1) := by decide +kernel
theorem dX12_goThrough_138 : decode cX12_goThrough 138 = .ok (.putfield 251, 3) := by decide +kernel
theorem dX12_goThrough_141 : decode cX12_goThrough 141 = .ok (.aload_n 0, 1) := by decide +kernel
theorem dX12_goThrough_142 : decode cX12_goThrough 142 = .ok (.aload_n 0, 1) := by decide +kernel
theorem dX12_goThrough_143 : decode cX12_goThrough 143 = .ok (.getfield 232, 3) := by decide +kernel
theorem dX12_goThrough_146 : decode cX12_goThrough 146 = .ok (.invokevirtual 330, 3) := by decide +kernel
theorem dX12_goThrough_149 : decode cX12_goThrough 149 = .ok (.goto 9, 3) := by decide +kernel
theorem dX12_goThrough_152 : decode cX12_goThrough 152 = .ok (.aload_n 0, 1) := by decide +kernel
theorem dX12_goThrough_153 : decode cX12_goThrough 153 = .ok (.iload_n 1, 1) := by decide +kernel
theorem dX12_goThrough_154 : decode cX12_goThrough 154 = .ok (.iload_n 3, 1) := by decide +kernel
theorem dX12_goThrough_155 : decode cX12_goThrough 155 = .ok (.invokevirtual 323, 3) := by decide +kernel
theorem dX12_goThrough_158 : decode cX12_goThrough 158 = .ok (.return_, 1) := by decide +kernel
theorem dX12_tell_0 : decode cX12_tell 0 = .ok (.aload_n 0, 1) := by decide +kernel
theorem dX12_tell_1 : decode cX12_tell 1 = .ok (.getfield 101, 3) := by decide +kernel
theorem dX12_tell_4 : decode cX12_tell 4 = .ok (.iload_n 1, 1) := by decide +kernel
theorem dX12_tell_5 : decode cX12_tell 5 = .ok (.iaload, 1) := by decide +kernel
theorem dX12_tell_6 : decode cX12_tell 6 = .ok (.bipush 17, 2) := by decide +kernel
theorem dX12_tell_8 : decode cX12_tell 8 = .ok (.if_icmp .ne 11, 3) := by decide +kernel
theorem dX12_tell_11 : decode cX12_tell 11 = .ok (.aload_n 0, 1) := by decide +kernel
theorem dX12_tell_12 : decode cX12_tell 12 = .ok (.iload_n 1, 1) := by decide +kernel
theorem dX12_tell_13 : decode cX12_tell 13 = .ok (.invokevirtual 336, 3) := by decide +kernel
theorem dX12_tell_16 : decode cX12_tell 16 = .ok (.goto 88, 3) := by decide +kernel
theorem dX12_tell_19 : decode cX12_tell 19 = .ok (.aload_n 0, 1) := by decide +kernel
theorem dX12_tell_20 : decode cX12_tell 20 = .ok (.getfield 104, 3) := by decide +kernel
theorem dX12_tell_23 : decode cX12_tell 23 = .ok (.iload_n 1, 1) := by decide +kernel
theorem dX12_tell_24 : decode cX12_tell 24 = .ok (.iaload, 1) := by decide +kernel
theorem dX12_tell_25 : decode cX12_tell 25 = .ok (.ifCond .ne 27, 3) := by decide +kernel
theorem dX12_tell_28 : decode cX12_tell 28 = .ok (.aload_n 0, 1) := by decide +kernel
theorem dX12_tell_29 : decode cX12_tell 29 = .ok (.iload_n 1, 1) := by decide +kernel
theorem dX12_tell_30 : decode cX12_tell 30 = .ok (.aload_n 0, 1) := by decide +kernel
theorem dX12_tell_31 : decode cX12_tell 31 = .ok (.aload_n 0, 1) := by decide +kernel
theorem dX12_tell_32 : decode cX12_tell 32 = .ok (.getfield 98, 3) := by decide +kernel
theorem dX12_tell_35 : decode cX12_tell 35 = .ok (.iload_n 1, 1) := by decide +kernel
theorem dX12_tell_36 : decode cX12_tell 36 = .ok (.iaload, 1) := by decide +kernel
theorem dX12_tell_37 : decode cX12_tell 37 = .ok (.aload_n 0, 1) := by decide +kernel
theorem dX12_tell_38 : decode cX12_tell 38 = .ok (.getfield 110, 3) := by decide +kernel
theorem dX12_tell_41 : decode cX12_tell 41 = .ok (.iload_n 1, 1) := by decide +kernel
theorem dX12_tell_42 : decode cX12_tell 42 = .ok (.iaload, 1) := by decide +kernel
theorem dX12_tell_43 : decode cX12_tell 43 = .ok (.invokevirtual 201, 3) := by decide +kernel
theorem dX12_tell_46 : decode cX12_tell 46 = .ok (.invokevirtual 323, 3) := by decide +kernel
theorem dX12_tell_49 : decode cX12_tell 49 = .ok (.goto 55, 3) := by decide +kernel
theorem dX12_tell_52 : decode cX12_tell 52 = .ok (.aload_n 0, 1) := by decide +kernel
theorem dX12_tell_53 : decode cX12_tell 53 = .ok (.aload_n 0, 1) := by decide +kernel
theorem dX12_tell_54 : decode cX12_tell 54 = .ok (.aload_n 0, 1) := by decide +kernel
theorem dX12_tell_55 : decode cX12_tell 55 = .ok (.getfield 98, 3) := by decide +kernel
theorem dX12_tell_58 : decode cX12_tell 58 = .ok (.iload_n 1, 1) := by decide +kernel
theorem dX12_tell_59 : decode cX12_tell 59 = .ok (.iaload, 1) := by decide +kernel
theorem dX12_tell_60 : decode cX12_tell 60 = .ok (.aload_n 0, 1) := by decide +kernel
theorem dX12_tell_61 : decode cX12_tell 61 = .ok (.getfield 110, 3) := by decide +kernel
theorem dX12_tell_64 : decode cX12_tell 64 = .ok (.iload_n 1, 1) := by decide +kernel
theorem dX12_tell_65 : decode cX12_tell 65 = .ok (.iaload, 1) := by decide +kernel
theorem dX12_tell_66 : decode cX12_tell 66 = .ok (.invokevirtual 211, 3) := by decide +kernel
theorem dX12_tell_69 : decode cX12_tell 69 = .ok (.invokevirtual 254, 3) := by decide +kernel
theorem dX12_tell_72 : decode cX12_tell 72 = .ok (.istore_n 2, 1) := by decide +kernel
theorem dX12_tell_73 : decode cX12_tell 73 = .ok (.iload_n 2, 1) := by decide +kernel
theorem dX12_tell_74 : decode cX12_tell 74 = .ok (.iconst (-1), 1) := by decide +kernel
theorem dX12_tell_75 : decode cX12_tell 75 = .ok (.if_icmp .ne 11, 3) := by decide +kernel
theorem dX12_tell_78 : decode cX12_tell 78 = .ok (.aload_n 0, 1) := by decide +kernel
theorem dX12_tell_79 : decode cX12_tell 79 = .ok (.iconst 3, 1) := by decide +kernel
theorem dX12_tell_80 : decode cX12_tell 80 = .ok (.putfield 257, 3) := by decide +kernel
theorem dX12_tell_83 : decode cX12_tell 83 = .ok (.goto 21, 3) := by decide +kernel
theorem dX12_tell_86 : decode cX12_tell 86 = .ok (.aload_n 0, 1) := by decide +kernel
theorem dX12_tell_87 : decode cX12_tell 87 = .ok (.getfield 146, 3) := by decide +kernel
theorem dX12_tell_90 : decode cX12_tell 90 = .ok (.iload_n 2, 1) := by decide +kernel
theorem dX12_tell_91 : decode cX12_tell 91 = .ok (.aload_n 0, 1) := by decide +kernel
theorem dX12_tell_92 : decode cX12_tell 92 = .ok (.getfield 232, 3) := by decide +kernel
theorem dX12_tell_95 : decode cX12_tell 95 = .ok (.iastore, 1) := by decide +kernel
theorem dX12_tell_96 : decode cX12_tell 96 = .ok (.aload_n 0, 1) := by decide +kernel
theorem dX12_tell_97 : decode cX12_tell 97 = .ok (.aload_n 0, 1) := by decide +kernel
theorem dX12_tell_98 : decode cX12_tell 98 = .ok (.getfield 232, 3) := by decide +kernel
theorem dX12_tell_101 : decode cX12_tell 101 = .ok (.invokevirtual 330, 3) := by decide +kernel
theorem dX12_tell_104 : decode cX12_tell 104 = .ok (.return_, 1) := by decide +kernel
theorem dX12_define_0 : decode cX12_define 0 = .ok (.aload_n 0, 1) := by decide +kernel
theorem dX12_define_1 : decode cX12_define 1 = .ok (.getfield 98, 3) := by decide +kernel
theorem dX12_define_4 : decode cX12_define 4 = .ok (.iload_n 1, 1) := by decide +kernel
theorem dX12_define_5 : decode cX12_define 5 = .ok (.iaload, 1) := by decide +kernel
theorem dX12_define_6 : decode cX12_define 6 = .ok (.istore_n 2, 1) := by decide +kernel
theorem dX12_define_7 : decode cX12_define 7 = .ok (.aload_n 0, 1) := by decide +kernel
theorem dX12_define_8 : decode cX12_define 8 = .ok (.iload_n 2, 1) := by decide +kernel
theorem dX12_define_9 : decode cX12_define 9 = .ok (.aload_n 0, 1) := by decide +kernel
theorem dX12_define_10 : decode cX12_define 10 = .ok (.getfield 110, 3) := by decide +kernel
theorem dX12_define_13 : decode cX12_define 13 = .ok (.iload_n 1, 1) := by decide +kernel
theorem dX12_define_14 : decode cX12_define 14 = .ok (.iaload, 1) := by decide +kernel
theorem dX12_define_15 : decode cX12_define 15 = .ok (.invokevirtual 211, 3) := by decide +kernel
theorem dX12_define_18 : decode cX12_define 18 = .ok (.istore_n 3, 1) := by decide +kernel
theorem dX12_define_19 : decode cX12_define 19 = .ok (.aload_n 0, 1) := by decide +kernel
theorem dX12_define_20 : decode cX12_define 20 = .ok (.iload_n 3, 1) := by decide +kernel
theorem dX12_define_21 : decode cX12_define 21 = .ok (.invokevirtual 283, 3) := by decide +kernel
theorem dX12_define_24 : decode cX12_define 24 = .ok (.iconst (-1), 1) := by decide +kernel
theorem dX12_define_25 : decode cX12_define 25 = .ok (.if_icmp .ne 10, 3) := by decide +kernel
theorem dX12_define_28 : decode cX12_define 28 = .ok (.aload_n 0, 1) := by decide +kernel
theorem dX12_define_29 : decode cX12_define 29 = .ok (.getfield 214, 3) := by decide +kernel
theorem dX12_define_32 : decode cX12_define 32 = .ok (.goto 8, 3) := by decide +kernel
theorem dX12_define_35 : decode cX12_define 35 = .ok (.aload_n 0, 1) := by decide +kernel
theorem dX12_define_36 : decode cX12_define 36 = .ok (.iload_n 3, 1) := by decide +kernel
theorem dX12_define_37 : decode cX12_define 37 = .ok (.invokevirtual 283, 3) := by decide +kernel
theorem dX12_define_40 : decode cX12_define 40 = .ok (.istore 4, 2) := by decide +kernel
theorem dX12_define_42 : decode cX12_define 42 = .ok (.iload 4, 2) := by decide +kernel
theorem dX12_define_44 : decode cX12_define 44 = .ok (.bipush 8, 2) := by decide +kernel
theorem dX12_define_46 : decode cX12_define 46 = .ok (.if_icmp .ne 9, 3) := by decide +kernel
theorem dX12_define_49 : decode cX12_define 49 = .ok (.aload_n 0, 1) := by decide +kernel
theorem dX12_define_50 : decode cX12_define 50 = .ok (.iconst 2, 1) := by decide +kernel
theorem dX12_define_51 : decode cX12_define 51 = .ok (.putfield 257, 3) := by decide +kernel
theorem dX12_define_54 : decode cX12_define 54 = .ok (.return_, 1) := by decide +kernel
theorem dX12_define_55 : decode cX12_define 55 = .ok (.aload_n 0, 1) := by decide +kernel
theorem dX12_define_56 : decode cX12_define 56 = .ok (.iload_n 2, 1) := by decide +kernel
theorem dX12_define_57 : decode cX12_define 57 = .ok (.aload_n 0, 1) := by decide +kernel
theorem dX12_define_58 : decode cX12_define 58 = .ok (.getfield 110, 3) := by decide +kernel
theorem dX12_define_61 : decode cX12_define 61 = .ok (.iload_n 1, 1) := by decide +kernel
theorem dX12_define_62 : decode cX12_define 62 = .ok (.iaload, 1) := by decide +kernel
theorem dX12_define_63 : decode cX12_define 63 = .ok (.invokevirtual 201, 3) := by decide +kernel
theorem dX12_define_66 : decode cX12_define 66 = .ok (.istore 5, 2) := by decide +kernel
theorem dX12_define_68 : decode cX12_define 68 = .ok (.iconst 0, 1) := by decide +kernel
theorem dX12_define_69 : decode cX12_define 69 = .ok (.istore 6, 2) := by decide +kernel
theorem dX12_define_71 : decode cX12_define 71 = .ok (.aload_n 0, 1) := by decide +kernel
theorem dX12_define_72 : decode cX12_define 72 = .ok (.iload_n 2, 1) := by decide +kernel
theorem dX12_define_73 : decode cX12_define 73 = .ok (.iload 5, 2) := by decide +kernel
theorem dX12_define_75 : decode cX12_define 75 = .ok (.iconst 1, 1) := by decide +kernel
theorem dX12_define_76 : decode cX12_define 76 = .ok (.iadd, 1) := by decide +kernel
theorem dX12_define_77 : decode cX12_define 77 = .ok (.invokevirtual 198, 3) := by decide +kernel
theorem dX12_define_80 : decode cX12_define 80 = .ok (.istore 7, 2) := by decide +kernel
theorem dX12_define_82 : decode cX12_define 82 = .ok (.iload 7, 2) := by decide +kernel
theorem dX12_define_84 : decode cX12_define 84 = .ok (.iconst (-1), 1) := by decide +kernel
theorem dX12_define_85 : decode cX12_define 85 = .ok (.if_icmp .eq 37, 3) := by decide +kernel
theorem dX12_define_88 : decode cX12_define 88 = .ok (.aload_n 0, 1) := by decide +kernel
theorem dX12_define_89 : decode cX12_define 89 = .ok (.getfield 155, 3) := by decide +kernel
theorem dX12_define_92 : decode cX12_define 92 = .ok (.iconst 3, 1) := by decide +kernel
theorem dX12_define_93 : decode cX12_define 93 = .ok (.iload 4, 2) := by decide +kernel
theorem dX12_define_95 : decode cX12_define 95 = .ok (.imul, 1) := by decide +kernel
theorem dX12_define_96 : decode cX12_define 96 = .ok (.iload 6, 2) := by decide +kernel
theorem dX12_define_98 : decode cX12_define 98 = .ok (.iadd, 1) := by decide +kernel
theorem dX12_define_99 : decode cX12_define 99 = .ok (.aload_n 0, 1) := by decide +kernel
theorem dX12_define_100 : decode cX12_define 100 = .ok (.iload_n 2, 1) := by decide +kernel
theorem dX12_define_101 : decode cX12_define 101 = .ok (.iload 7, 2) := by decide +kernel
theorem dX12_define_103 : decode cX12_define 103 = .ok (.invokevirtual 211, 3) := by decide +kernel
theorem dX12_define_106 : decode cX12_define 106 = .ok (.iastore, 1) := by decide +kernel
theorem dX12_define_107 : decode cX12_define 107 = .ok (.iinc 6 1, 3) := by decide +kernel
theorem dX12_define_110 : decode cX12_define 110 = .ok (.aload_n 0, 1) := by decide +kernel
theorem dX12_define_111 : decode cX12_define 111 = .ok (.iload_n 2, 1) := by decide +kernel
theorem dX12_define_112 : decode cX12_define 112 = .ok (.iload 7, 2) := by decide +kernel
theorem dX12_define_114 : decode cX12_define 114 = .ok (.invokevirtual 201, 3) := by decide +kernel
theorem dX12_define_117 : decode cX12_define 117 = .ok (.istore 7, 2) := by decide +kernel
theorem dX12_define_119 : decode cX12_define 119 = .ok (.goto (-37), 3) := by decide +kernel
theorem dX12_define_122 : decode cX12_define 122 = .ok (.aload_n 0, 1) := by decide +kernel
theorem dX12_define_123 : decode cX12_define 123 = .ok (.getfield 149, 3) := by decide +kernel
theorem dX12_define_126 : decode cX12_define 126 = .ok (.iload 4, 2) := by decide +kernel
theorem dX12_define_128 : decode cX12_define 128 = .ok (.iload_n 3, 1) := by decide +kernel
theorem dX12_define_129 : decode cX12_define 129 = .ok (.iastore, 1) := by decide +kernel
theorem dX12_define_130 : decode cX12_define 130 = .ok (.aload_n 0, 1) := by decide +kernel
theorem dX12_define_131 : decode cX12_define 131 = .ok (.getfield 152, 3) := by decide +kernel
theorem dX12_define_134 : decode cX12_define 134 = .ok (.iload 4, 2) := by decide +kernel
theorem dX12_define_136 : decode cX12_define 136 = .ok (.iload 6, 2) := by decide +kernel
theorem dX12_define_138 : decode cX12_define 138 = .ok (.iastore, 1) := by decide +kernel
theorem dX12_define_139 : decode cX12_define 139 = .ok (.aload_n 0, 1) := by decide +kernel
theorem dX12_define_140 : decode cX12_define 140 = .ok (.getfield 158, 3) := by decide +kernel
theorem dX12_define_143 : decode cX12_define 143 = .ok (.iload 4, 2) := by decide +kernel
theorem dX12_define_145 : decode cX12_define 145 = .ok (.iload_n 2, 1) := by decide +kernel
theorem dX12_define_146 : decode cX12_define 146 = .ok (.iastore, 1) := by decide +kernel
theorem dX12_define_147 : decode cX12_define 147 = .ok (.aload_n 0, 1) := by decide +kernel
theorem dX12_define_148 : decode cX12_define 148 = .ok (.getfield 161, 3) := by decide +kernel
theorem dX12_define_151 : decode cX12_define 151 = .ok (.iload 4, 2) := by decide +kernel
theorem dX12_define_153 : decode cX12_define 153 = .ok (.aload_n 0, 1) := by decide +kernel
theorem dX12_define_154 : decode cX12_define 154 = .ok (.iload_n 2, 1) := by decide +kernel
theorem dX12_define_155 : decode cX12_define 155 = .ok (.iload 5, 2) := by decide +kernel
theorem dX12_define_157 : decode cX12_define 157 = .ok (.invokevirtual 201, 3) := by decide +kernel
theorem dX12_define_160 : decode cX12_define 160 = .ok (.iastore, 1) := by decide +kernel
theorem dX12_define_161 : decode cX12_define 161 = .ok (.aload_n 0, 1) := by decide +kernel
theorem dX12_define_162 : decode cX12_define 162 = .ok (.dup, 1) := by decide +kernel
theorem dX12_define_163 : decode cX12_define 163 = .ok (.getfield 214, 3) := by decide +kernel
theorem dX12_define_166 : decode cX12_define 166 = .ok (.iload 4, 2) := by decide +kernel
theorem dX12_define_168 : decode cX12_define 168 = .ok (.aload_n 0, 1) := by decide +kernel
theorem dX12_define_169 : decode cX12_define 169 = .ok (.getfield 214, 3) := by decide +kernel
theorem dX12_define_172 : decode cX12_define 172 = .ok (.if_icmp .ne 7, 3) := by decide +kernel
theorem dX12_define_175 : decode cX12_define 175 = .ok (.iconst 1, 1) := by decide +kernel
theorem dX12_define_176 : decode cX12_define 176 = .ok (.goto 4, 3) := by decide +kernel
theorem dX12_define_179 : decode cX12_define 179 = .ok (.iconst 0, 1) := by decide +kernel
theorem dX12_define_180 : decode cX12_define 180 = .ok (.iadd, 1) := by decide +kernel
theorem dX12_define_181 : decode cX12_define 181 = .ok (.putfield 214, 3) := by decide +kernel
theorem dX12_define_184 : decode cX12_define 184 = .ok (.aload_n 0, 1) := by decide +kernel
theorem dX12_define_185 : decode cX12_define 185 = .ok (.iconst 0, 1) := by decide +kernel
theorem dX12_define_186 : decode cX12_define 186 = .ok (.invokevirtual 330, 3) := by decide +kernel
theorem dX12_define_189 : decode cX12_define 189 = .ok (.return_, 1) := by decide +kernel
theorem dX12_trade_0 : decode cX12_trade 0 = .ok (.aload_n 0, 1) := by decide +kernel
theorem dX12_trade_1 : decode cX12_trade 1 = .ok (.getfield 101, 3) := by decide +kernel
theorem dX12_trade_4 : decode cX12_trade 4 = .ok (.iload_n 1, 1) := by decide +kernel
theorem dX12_trade_5 : decode cX12_trade 5 = .ok (.iaload, 1) := by decide +kernel
theorem dX12_trade_6 : decode cX12_trade 6 = .ok (.istore_n 2, 1) := by decide +kernel
theorem dX12_trade_7 : decode cX12_trade 7 = .ok (.aload_n 0, 1) := by decide +kernel
theorem dX12_trade_8 : decode cX12_trade 8 = .ok (.getfield 98, 3) := by decide +kernel
theorem dX12_trade_11 : decode cX12_trade 11 = .ok (.iload_n 1, 1) := by decide +kernel
theorem dX12_trade_12 : decode cX12_trade 12 = .ok (.iaload, 1) := by decide +kernel
theorem dX12_trade_13 : decode cX12_trade 13 = .ok (.istore_n 3, 1) := by decide +kernel
theorem dX12_trade_14 : decode cX12_trade 14 = .ok (.aload_n 0, 1) := by decide +kernel
theorem dX12_trade_15 : decode cX12_trade 15 = .ok (.iload_n 3, 1) := by decide +kernel
theorem dX12_trade_16 : decode cX12_trade 16 = .ok (.aload_n 0, 1) := by decide +kernel
theorem dX12_trade_17 : decode cX12_trade 17 = .ok (.getfield 110, 3) := by decide +kernel
theorem dX12_trade_20 : decode cX12_trade 20 = .ok (.iload_n 1, 1) := by decide +kernel
theorem dX12_trade_21 : decode cX12_trade 21 = .ok (.iaload, 1) := by decide +kernel
theorem dX12_trade_22 : decode cX12_trade 22 = .ok (.invokevirtual 201, 3) := by decide +kernel
theorem dX12_trade_25 : decode cX12_trade 25 = .ok (.istore 4, 2) := by decide +kernel
theorem dX12_trade_27 : decode cX12_trade 27 = .ok (.aload_n 0, 1) := by decide +kernel
theorem dX12_trade_28 : decode cX12_trade 28 = .ok (.getfield 104, 3) := by decide +kernel
theorem dX12_trade_31 : decode cX12_trade 31 = .ok (.iload_n 1, 1) := by decide +kernel
theorem dX12_trade_32 : decode cX12_trade 32 = .ok (.iaload, 1) := by decide +kernel
theorem dX12_trade_33 : decode cX12_trade 33 = .ok (.ifCond .ne 28, 3) := by decide +kernel
theorem dX12_trade_36 : decode cX12_trade 36 = .ok (.aload_n 0, 1) := by decide +kernel
theorem dX12_trade_37 : decode cX12_trade 37 = .ok (.iload_n 1, 1) := by decide +kernel
theorem dX12_trade_38 : decode cX12_trade 38 = .ok (.iload_n 2, 1) := by decide +kernel
theorem dX12_trade_39 : decode cX12_trade 39 = .ok (.bipush 20, 2) := by decide +kernel
theorem dX12_trade_41 : decode cX12_trade 41 = .ok (.if_icmp .ne 12, 3) := by decide +kernel
theorem dX12_trade_44 : decode cX12_trade 44 = .ok (.aload_n 0, 1) := by decide +kernel
theorem dX12_trade_45 : decode cX12_trade 45 = .ok (.getfield 110, 3) := by decide +kernel
theorem dX12_trade_48 : decode cX12_trade 48 = .ok (.iload_n 1, 1) := by decide +kernel
theorem dX12_trade_49 : decode cX12_trade 49 = .ok (.iaload, 1) := by decide +kernel
theorem dX12_trade_50 : decode cX12_trade 50 = .ok (.goto 5, 3) := by decide +kernel
theorem dX12_trade_53 : decode cX12_trade 53 = .ok (.iload 4, 2) := by decide +kernel
theorem dX12_trade_55 : decode cX12_trade 55 = .ok (.invokevirtual 323, 3) := by decide +kernel
theorem dX12_trade_58 : decode cX12_trade 58 = .ok (.goto 159, 3) := by decide +kernel
theorem dX12_trade_61 : decode cX12_trade 61 = .ok (.iload_n 2, 1) := by decide +kernel
theorem dX12_trade_62 : decode cX12_trade 62 = .ok (.bipush 20, 2) := by decide +kernel
theorem dX12_trade_64 : decode cX12_trade 64 = .ok (.if_icmp .ne 38, 3) := by decide +kernel
theorem dX12_trade_67 : decode cX12_trade 67 = .ok (.aload_n 0, 1) := by decide +kernel
theorem dX12_trade_68 : decode cX12_trade 68 = .ok (.getfield 104, 3) := by decide +kernel
theorem dX12_trade_71 : decode cX12_trade 71 = .ok (.iload_n 1, 1) := by decide +kernel
theorem dX12_trade_72 : decode cX12_trade 72 = .ok (.iaload, 1) := by decide +kernel
theorem dX12_trade_73 : decode cX12_trade 73 = .ok (.iconst 1, 1) := by decide +kernel
theorem dX12_trade_74 : decode cX12_trade 74 = .ok (.if_icmp .ne 28, 3) := by decide +kernel
theorem dX12_trade_77 : decode cX12_trade 77 = .ok (.aload_n 0, 1) := by decide +kernel
theorem dX12_trade_78 : decode cX12_trade 78 = .ok (.getfield 113, 3) := by decide +kernel
theorem dX12_trade_81 : decode cX12_trade 81 = .ok (.iload_n 1, 1) := by decide +kernel
theorem dX12_trade_82 : decode cX12_trade 82 = .ok (.aload_n 0, 1) := by decide +kernel
theorem dX12_trade_83 : decode cX12_trade 83 = .ok (.getfield 232, 3) := by decide +kernel
theorem dX12_trade_86 : decode cX12_trade 86 = .ok (.iastore, 1) := by decide +kernel
theorem dX12_trade_87 : decode cX12_trade 87 = .ok (.aload_n 0, 1) := by decide +kernel
theorem dX12_trade_88 : decode cX12_trade 88 = .ok (.iload_n 1, 1) := by decide +kernel
theorem dX12_trade_89 : decode cX12_trade 89 = .ok (.aload_n 0, 1) := by decide +kernel
theorem dX12_trade_90 : decode cX12_trade 90 = .ok (.iload_n 3, 1) := by decide +kernel
theorem dX12_trade_91 : decode cX12_trade 91 = .ok (.iload 4, 2) := by decide +kernel
theorem dX12_trade_93 : decode cX12_trade 93 = .ok (.invokevirtual 201, 3) := by decide +kernel
theorem dX12_trade_96 : decode cX12_trade 96 = .ok (.invokevirtual 323, 3) := by decide +kernel
theorem dX12_trade_99 : decode cX12_trade 99 = .ok (.goto 118, 3) := by decide +kernel
theorem dX12_trade_102 : decode cX12_trade 102 = .ok (.aload_n 0, 1) := by decide +kernel
theorem dX12_trade_103 : decode cX12_trade 103 = .ok (.iload_n 3, 1) := by decide +kernel
theorem dX12_trade_104 : decode cX12_trade 104 = .ok (.iload_n 2, 1) := by decide +kernel
theorem dX12_trade_105 : decode cX12_trade 105 = .ok (.bipush 20, 2) := by decide +kernel
theorem dX12_trade_107 : decode cX12_trade 107 = .ok (.if_icmp .ne 8, 3) := by decide +kernel
theorem dX12_trade_110 : decode cX12_trade 110 = .ok (.iload 4, 2) := by decide +kernel
theorem dX12_trade_112 : decode cX12_trade 112 = .ok (.goto 9, 3) := by decide +kernel
theorem dX12_trade_115 : decode cX12_trade 115 = .ok (.aload_n 0, 1) := by decide +kernel
theorem dX12_trade_116 : decode cX12_trade 116 = .ok (.getfield 110, 3) := by decide +kernel
theorem dX12_trade_119 : decode cX12_trade 119 = .ok (.iload_n 1, 1) := by decide +kernel
theorem dX12_trade_120 : decode cX12_trade 120 = .ok (.iaload, 1) := by decide +kernel
theorem dX12_trade_121 : decode cX12_trade 121 = .ok (.invokevirtual 274, 3) := by decide +kernel
theorem dX12_trade_124 : decode cX12_trade 124 = .ok (.istore 5, 2) := by decide +kernel
theorem dX12_trade_126 : decode cX12_trade 126 = .ok (.iload_n 2, 1) := by decide +kernel
theorem dX12_trade_127 : decode cX12_trade 127 = .ok (.bipush 18, 2) := by decide +kernel
theorem dX12_trade_129 : decode cX12_trade 129 = .ok (.if_icmp .ne 7, 3) := by decide +kernel
theorem dX12_trade_132 : decode cX12_trade 132 = .ok (.iconst 4, 1) := by decide +kernel
theorem dX12_trade_133 : decode cX12_trade 133 = .ok (.goto 7, 3) := by decide +kernel
theorem dX12_trade_136 : decode cX12_trade 136 = .ok (.aload_n 0, 1) := by decide +kernel
theorem dX12_trade_137 : decode cX12_trade 137 = .ok (.getfield 223, 3) := by decide +kernel
theorem dX12_trade_140 : decode cX12_trade 140 = .ok (.istore 6, 2) := by decide +kernel
theorem dX12_trade_142 : decode cX12_trade 142 = .ok (.iload_n 2, 1) := by decide +kernel
theorem dX12_trade_143 : decode cX12_trade 143 = .ok (.bipush 18, 2) := by decide +kernel
theorem dX12_trade_145 : decode cX12_trade 145 = .ok (.if_icmp .ne 10, 3) := by decide +kernel
theorem dX12_trade_148 : decode cX12_trade 148 = .ok (.aload_n 0, 1) := by decide +kernel
theorem dX12_trade_149 : decode cX12_trade 149 = .ok (.getfield 223, 3) := by decide +kernel
theorem dX12_trade_152 : decode cX12_trade 152 = .ok (.goto 19, 3) := by decide +kernel
theorem dX12_trade_155 : decode cX12_trade 155 = .ok (.iload_n 2, 1) := by decide +kernel
theorem dX12_trade_156 : decode cX12_trade 156 = .ok (.bipush 19, 2) := by decide +kernel
theorem dX12_trade_158 : decode cX12_trade 158 = .ok (.if_icmp .ne 7, 3) := by decide +kernel
theorem dX12_trade_161 : decode cX12_trade 161 = .ok (.iconst 4, 1) := by decide +kernel
theorem dX12_trade_162 : decode cX12_trade 162 = .ok (.goto 9, 3) := by decide +kernel
theorem dX12_trade_165 : decode cX12_trade 165 = .ok (.aload_n 0, 1) := by decide +kernel
theorem dX12_trade_166 : decode cX12_trade 166 = .ok (.getfield 113, 3) := by decide +kernel
theorem dX12_trade_169 : decode cX12_trade 169 = .ok (.iload_n 1, 1) := by decide +kernel
theorem dX12_trade_170 : decode cX12_trade 170 = .ok (.iaload, 1) := by decide +kernel
theorem dX12_trade_171 : decode cX12_trade 171 = .ok (.istore 7, 2) := by decide +kernel
theorem dX12_trade_173 : decode cX12_trade 173 = .ok (.aload_n 0, 1) := by decide +kernel
theorem dX12_trade_174 : decode cX12_trade 174 = .ok (.getfield 232, 3) := by decide +kernel
theorem dX12_trade_177 : decode cX12_trade 177 = .ok (.ifCond .lt 17, 3) := by decide +kernel
theorem dX12_trade_180 : decode cX12_trade 180 = .ok (.iload_n 2, 1) := by decide +kernel
theorem dX12_trade_181 : decode cX12_trade 181 = .ok (.bipush 20, 2) := by decide +kernel
theorem dX12_trade_183 : decode cX12_trade 183 = .ok (.if_icmp .ne 20, 3) := by decide +kernel
theorem dX12_trade_186 : decode cX12_trade 186 = .ok (.iload 7, 2) := by decide +kernel
theorem dX12_trade_188 : decode cX12_trade 188 = .ok (.invokestatic 339, 3) := by decide +kernel
theorem dX12_trade_191 : decode cX12_trade 191 = .ok (.ifCond .ne 12, 3) := by decide +kernel
theorem dX12_trade_194 : decode cX12_trade 194 = .ok (.aload_n 0, 1) := by decide +kernel
theorem dX12_trade_195 : decode cX12_trade 195 = .ok (.bipush 6, 2) := by decide +kernel
theorem dX12_trade_197 : decode cX12_trade 197 = .ok (.putfield 257, 3) := by decide +kernel
theorem dX12_trade_200 : decode cX12_trade 200 = .ok (.goto 17, 3) := by decide +kernel
theorem dX12_trade_203 : decode cX12_trade 203 = .ok (.aload_n 0, 1) := by decide +kernel
theorem dX12_trade_204 : decode cX12_trade 204 = .ok (.iload 6, 2) := by decide +kernel
theorem dX12_trade_206 : decode cX12_trade 206 = .ok (.iload 7, 2) := by decide +kernel
theorem dX12_trade_208 : decode cX12_trade 208 = .ok (.iload 5, 2) := by decide +kernel
theorem dX12_trade_210 : decode cX12_trade 210 = .ok (.aload_n 0, 1) := by decide +kernel
theorem dX12_trade_211 : decode cX12_trade 211 = .ok (.getfield 232, 3) := by decide +kernel
theorem dX12_trade_214 : decode cX12_trade 214 = .ok (.invokevirtual 342, 3) := by decide +kernel
theorem dX12_trade_217 : decode cX12_trade 217 = .ok (.return_, 1) := by decide +kernel
theorem dX12_move_0 : decode cX12_move 0 = .ok (.aload_n 0, 1) := by decide +kernel
theorem dX12_move_1 : decode cX12_move 1 = .ok (.getfield 16, 3) := by decide +kernel
theorem dX12_move_4 : decode cX12_move 4 = .ok (.bipush 8, 2) := by decide +kernel
theorem dX12_move_6 : decode cX12_move 6 = .ok (.iload_n 1, 1) := by decide +kernel
theorem dX12_move_7 : decode cX12_move 7 = .ok (.imul, 1) := by decide +kernel
theorem dX12_move_8 : decode cX12_move 8 = .ok (.iload_n 3, 1) := by decide +kernel
theorem dX12_move_9 : decode cX12_move 9 = .ok (.iadd, 1) := by decide +kernel
theorem dX12_move_10 : decode cX12_move 10 = .ok (.iaload, 1) := by decide +kernel
theorem dX12_move_11 : decode cX12_move 11 = .ok (.istore 5, 2) := by decide +kernel
theorem dX12_move_13 : decode cX12_move 13 = .ok (.iload_n 1, 1) := by decide +kernel
theorem dX12_move_14 : decode cX12_move 14 = .ok (.iload_n 2, 1) := by decide +kernel
theorem dX12_move_15 : decode cX12_move 15 = .ok (.if_icmp .ne 7, 3) := by decide +kernel
theorem dX12_move_18 : decode cX12_move 18 = .ok (.iconst 0, 1) := by decide +kernel
theorem dX12_move_19 : decode cX12_move 19 = .ok (.goto 17, 3) := by decide +kernel
theorem dX12_move_22 : decode cX12_move 22 = .ok (.iload 4, 2) := by decide +kernel
theorem dX12_move_24 : decode cX12_move 24 = .ok (.iload 5, 2) := by decide +kernel
theorem dX12_move_26 : decode cX12_move 26 = .ok (.if_icmp .ge 8, 3) := by decide +kernel
theorem dX12_move_29 : decode cX12_move 29 = .ok (.iload 4, 2) := by decide +kernel
theorem dX12_move_31 : decode cX12_move 31 = .ok (.goto 5, 3) := by decide +kernel
theorem dX12_move_34 : decode cX12_move 34 = .ok (.iload 5, 2) := by decide +kernel
theorem dX12_move_36 : decode cX12_move 36 = .ok (.istore 6, 2) := by decide +kernel
theorem dX12_move_38 : decode cX12_move 38 = .ok (.iload 6, 2) := by decide +kernel
theorem dX12_move_40 : decode cX12_move 40 = .ok (.ifCond .le 19, 3) := by decide +kernel
theorem dX12_move_43 : decode cX12_move 43 = .ok (.aload_n 0, 1) := by decide +kernel
theorem dX12_move_44 : decode cX12_move 44 = .ok (.getfield 346, 3) := by decide +kernel
theorem dX12_move_47 : decode cX12_move 47 = .ok (.sipush 3000, 3) := by decide +kernel
theorem dX12_move_50 : decode cX12_move 50 = .ok (.if_icmp .ne 9, 3) := by decide +kernel
theorem dX12_move_53 : decode cX12_move 53 = .ok (.aload_n 0, 1) := by decide +kernel
theorem dX12_move_54 : decode cX12_move 54 = .ok (.iconst 2, 1) := by decide +kernel
theorem dX12_move_55 : decode cX12_move 55 = .ok (.putfield 257, 3) := by decide +kernel
theorem dX12_move_58 : decode cX12_move 58 = .ok (.return_, 1) := by decide +kernel
theorem dX12_move_59 : decode cX12_move 59 = .ok (.iload 6, 2) := by decide +kernel
theorem dX12_move_61 : decode cX12_move 61 = .ok (.ifCond .le 99, 3) := by decide +kernel
theorem dX12_move_64 : decode cX12_move 64 = .ok (.aload_n 0, 1) := by decide +kernel
theorem dX12_move_65 : decode cX12_move 65 = .ok (.getfield 16, 3) := by decide +kernel
theorem dX12_move_68 : decode cX12_move 68 = .ok (.bipush 8, 2) := by decide +kernel
theorem dX12_move_70 : decode cX12_move 70 = .ok (.iload_n 1, 1) := by decide +kernel
theorem dX12_move_71 : decode cX12_move 71 = .ok (.imul, 1) := by decide +kernel
theorem dX12_move_72 : decode cX12_move 72 = .ok (.iload_n 3, 1) := by decide +kernel
theorem dX12_move_73 : decode cX12_move 73 = .ok (.iadd, 1) := by decide +kernel
theorem dX12_move_74 : decode cX12_move 74 = .ok (.dup2, 1) := by decide +kernel
theorem dX12_move_75 : decode cX12_move 75 = .ok (.iaload, 1) := by decide +kernel
theorem dX12_move_76 : decode cX12_move 76 = .ok (.iload 6, 2) := by decide +kernel
theorem dX12_move_78 : decode cX12_move 78 = .ok (.isub, 1) := by decide +kernel
theorem dX12_move_79 : decode cX12_move 79 = .ok (.iastore, 1) := by decide +kernel
theorem dX12_move_80 : decode cX12_move 80 = .ok (.aload_n 0, 1) := by decide +kernel
theorem dX12_move_81 : decode cX12_move 81 = .ok (.getfield 16, 3) := by decide +kernel
theorem dX12_move_84 : decode cX12_move 84 = .ok (.bipush 8, 2) := by decide +kernel
theorem dX12_move_86 : decode cX12_move 86 = .ok (.iload_n 2, 1) := by decide +kernel
theorem dX12_move_87 : decode cX12_move 87 = .ok (.imul, 1) := by decide +kernel
theorem dX12_move_88 : decode cX12_move 88 = .ok (.iload_n 3, 1) := by decide +kernel
theorem dX12_move_89 : decode cX12_move 89 = .ok (.iadd, 1) := by decide +kernel
theorem dX12_move_90 : decode cX12_move 90 = .ok (.dup2, 1) := by decide +kernel
theorem dX12_move_91 : decode cX12_move 91 = .ok (.iaload, 1) := by decide +kernel
theorem dX12_move_92 : decode cX12_move 92 = .ok (.iload 6, 2) := by decide +kernel
theorem dX12_move_94 : decode cX12_move 94 = .ok (.iadd, 1) := by decide +kernel
theorem dX12_move_95 : decode cX12_move 95 = .ok (.iastore, 1) := by decide +kernel
theorem dX12_move_96 : decode cX12_move 96 = .ok (.aload_n 0, 1) := by decide +kernel
theorem dX12_move_97 : decode cX12_move 97 = .ok (.getfield 66, 3) := by decide +kernel
theorem dX12_move_100 : decode cX12_move 100 = .ok (.aload_n 0, 1) := by decide +kernel
theorem dX12_move_101 : decode cX12_move 101 = .ok (.getfield 346, 3) := by decide +kernel
theorem dX12_move_104 : decode cX12_move 104 = .ok (.iload_n 1, 1) := by decide +kernel
theorem dX12_move_105 : decode cX12_move 105 = .ok (.iastore, 1) := by decide +kernel
theorem dX12_move_106 : decode cX12_move 106 = .ok (.aload_n 0, 1) := by decide +kernel
theorem dX12_move_107 : decode cX12_move 107 = .ok (.getfield 69, 3) := by decide +kernel
theorem dX12_move_110 : decode cX12_move 110 = .ok (.aload_n 0, 1) := by decide +kernel
theorem dX12_move_111 : decode cX12_move 111 = .ok (.getfield 346, 3) := by decide +kernel
theorem dX12_move_114 : decode cX12_move 114 = .ok (.iload_n 2, 1) := by decide +kernel
theorem dX12_move_115 : decode cX12_move 115 = .ok (.iastore, 1) := by decide +kernel
theorem dX12_move_116 : decode cX12_move 116 = .ok (.aload_n 0, 1) := by decide +kernel
theorem dX12_move_117 : decode cX12_move 117 = .ok (.getfield 72, 3) := by decide +kernel
theorem dX12_move_120 : decode cX12_move 120 = .ok (.aload_n 0, 1) := by decide +kernel
theorem dX12_move_121 : decode cX12_move 121 = .ok (.getfield 346, 3) := by decide +kernel
theorem dX12_move_124 : decode cX12_move 124 = .ok (.iload_n 3, 1) := by decide +kernel
theorem dX12_move_125 : decode cX12_move 125 = .ok (.iastore, 1) := by decide +kernel
theorem dX12_move_126 : decode cX12_move 126 = .ok (.aload_n 0, 1) := by decide +kernel
theorem dX12_move_127 : decode cX12_move 127 = .ok (.getfield 75, 3) := by decide +kernel
theorem dX12_move_130 : decode cX12_move 130 = .ok (.aload_n 0, 1) := by decide +kernel
theorem dX12_move_131 : decode cX12_move 131 = .ok (.getfield 346, 3) := by decide +kernel
theorem dX12_move_134 : decode cX12_move 134 = .ok (.iload 6, 2) := by decide +kernel
theorem dX12_move_136 : decode cX12_move 136 = .ok (.iastore, 1) := by decide +kernel
theorem dX12_move_137 : decode cX12_move 137 = .ok (.aload_n 0, 1) := by decide +kernel
theorem dX12_move_138 : decode cX12_move 138 = .ok (.getfield 78, 3) := by decide +kernel
theorem dX12_move_141 : decode cX12_move 141 = .ok (.aload_n 0, 1) := by decide +kernel
theorem dX12_move_142 : decode cX12_move 142 = .ok (.getfield 346, 3) := by decide +kernel
theorem dX12_move_145 : decode cX12_move 145 = .ok (.aload_n 0, 1) := by decide +kernel
theorem dX12_move_146 : decode cX12_move 146 = .ok (.getfield 220, 3) := by decide +kernel
theorem dX12_move_149 : decode cX12_move 149 = .ok (.iastore, 1) := by decide +kernel
theorem dX12_move_150 : decode cX12_move 150 = .ok (.aload_n 0, 1) := by decide +kernel
theorem dX12_move_151 : decode cX12_move 151 = .ok (.dup, 1) := by decide +kernel
theorem dX12_move_152 : decode cX12_move 152 = .ok (.getfield 346, 3) := by decide +kernel
theorem dX12_move_155 : decode cX12_move 155 = .ok (.iconst 1, 1) := by decide +kernel
theorem dX12_move_156 : decode cX12_move 156 = .ok (.iadd, 1) := by decide +kernel
theorem dX12_move_157 : decode cX12_move 157 = .ok (.putfield 346, 3) := by decide +kernel
theorem dX12_move_160 : decode cX12_move 160 = .ok (.aload_n 0, 1) := by decide +kernel
theorem dX12_move_161 : decode cX12_move 161 = .ok (.iload 6, 2) := by decide +kernel
theorem dX12_move_163 : decode cX12_move 163 = .ok (.invokevirtual 330, 3) := by decide +kernel
theorem dX12_move_166 : decode cX12_move 166 = .ok (.return_, 1) := by decide +kernel
theorem dX12_apply_0 : decode cX12_apply 0 = .ok (.aload_n 0, 1) := by decide +kernel
theorem dX12_apply_1 : decode cX12_apply 1 = .ok (.getfield 104, 3) := by decide +kernel
theorem dX12_apply_4 : decode cX12_apply 4 = .ok (.iload_n 1, 1) := by decide +kernel
theorem dX12_apply_5 : decode cX12_apply 5 = .ok (.iaload, 1) := by decide +kernel
theorem dX12_apply_6 : decode cX12_apply 6 = .ok (.istore_n 2, 1) := by decide +kernel
theorem dX12_apply_7 : decode cX12_apply 7 = .ok (.aload_n 0, 1) := by decide +kernel
theorem dX12_apply_8 : decode cX12_apply 8 = .ok (.getfield 113, 3) := by decide +kernel
theorem dX12_apply_11 : decode cX12_apply 11 = .ok (.iload_n 1, 1) := by decide +kernel
theorem dX12_apply_12 : decode cX12_apply 12 = .ok (.iload_n 2, 1) := by decide +kernel
theorem dX12_apply_13 : decode cX12_apply 13 = .ok (.iconst 1, 1) := by decide +kernel
theorem dX12_apply_14 : decode cX12_apply 14 = .ok (.if_icmp .ne 10, 3) := by decide +kernel
theorem dX12_apply_17 : decode cX12_apply 17 = .ok (.aload_n 0, 1) := by decide +kernel
theorem dX12_apply_18 : decode cX12_apply 18 = .ok (.getfield 232, 3) := by decide +kernel
theorem dX12_apply_21 : decode cX12_apply 21 = .ok (.goto 9, 3) := by decide +kernel
theorem dX12_apply_24 : decode cX12_apply 24 = .ok (.aload_n 0, 1) := by decide +kernel
theorem dX12_apply_25 : decode cX12_apply 25 = .ok (.getfield 113, 3) := by decide +kernel
theorem dX12_apply_28 : decode cX12_apply 28 = .ok (.iload_n 1, 1) := by decide +kernel
theorem dX12_apply_29 : decode cX12_apply 29 = .ok (.iaload, 1) := by decide +kernel
theorem dX12_apply_30 : decode cX12_apply 30 = .ok (.iastore, 1) := by decide +kernel
theorem dX12_apply_31 : decode cX12_apply 31 = .ok (.aload_n 0, 1) := by decide +kernel
theorem dX12_apply_32 : decode cX12_apply 32 = .ok (.getfield 116, 3) := by decide +kernel
theorem dX12_apply_35 : decode cX12_apply 35 = .ok (.iload_n 1, 1) := by decide +kernel
theorem dX12_apply_36 : decode cX12_apply 36 = .ok (.iload_n 2, 1) := by decide +kernel
theorem dX12_apply_37 : decode cX12_apply 37 = .ok (.iconst 2, 1) := by decide +kernel
theorem dX12_apply_38 : decode cX12_apply 38 = .ok (.if_icmp .ne 10, 3) := by decide +kernel
theorem dX12_apply_41 : decode cX12_apply 41 = .ok (.aload_n 0, 1) := by decide +kernel
theorem dX12_apply_42 : decode cX12_apply 42 = .ok (.getfield 232, 3) := by decide +kernel
theorem dX12_apply_45 : decode cX12_apply 45 = .ok (.goto 9, 3) := by decide +kernel
theorem dX12_apply_48 : decode cX12_apply 48 = .ok (.aload_n 0, 1) := by decide +kernel
theorem dX12_apply_49 : decode cX12_apply 49 = .ok (.getfield 116, 3) := by decide +kernel
theorem dX12_apply_52 : decode cX12_apply 52 = .ok (.iload_n 1, 1) := by decide +kernel
theorem dX12_apply_53 : decode cX12_apply 53 = .ok (.iaload, 1) := by decide +kernel
theorem dX12_apply_54 : decode cX12_apply 54 = .ok (.iastore, 1) := by decide +kernel
theorem dX12_apply_55 : decode cX12_apply 55 = .ok (.aload_n 0, 1) := by decide +kernel
theorem dX12_apply_56 : decode cX12_apply 56 = .ok (.getfield 119, 3) := by decide +kernel
theorem dX12_apply_59 : decode cX12_apply 59 = .ok (.iload_n 1, 1) := by decide +kernel
theorem dX12_apply_60 : decode cX12_apply 60 = .ok (.iload_n 2, 1) := by decide +kernel
theorem dX12_apply_61 : decode cX12_apply 61 = .ok (.iconst 3, 1) := by decide +kernel
theorem dX12_apply_62 : decode cX12_apply 62 = .ok (.if_icmp .ne 10, 3) := by decide +kernel
theorem dX12_apply_65 : decode cX12_apply 65 = .ok (.aload_n 0, 1) := by decide +kernel
theorem dX12_apply_66 : decode cX12_apply 66 = .ok (.getfield 232, 3) := by decide +kernel
theorem dX12_apply_69 : decode cX12_apply 69 = .ok (.goto 9, 3) := by decide +kernel
theorem dX12_apply_72 : decode cX12_apply 72 = .ok (.aload_n 0, 1) := by decide +kernel
theorem dX12_apply_73 : decode cX12_apply 73 = .ok (.getfield 119, 3) := by decide +kernel
theorem dX12_apply_76 : decode cX12_apply 76 = .ok (.iload_n 1, 1) := by decide +kernel
theorem dX12_apply_77 : decode cX12_apply 77 = .ok (.iaload, 1) := by decide +kernel
theorem dX12_apply_78 : decode cX12_apply 78 = .ok (.iastore, 1) := by decide +kernel
theorem dX12_apply_79 : decode cX12_apply 79 = .ok (.iload_n 2, 1) := by decide +kernel
theorem dX12_apply_80 : decode cX12_apply 80 = .ok (.aload_n 0, 1) := by decide +kernel
theorem dX12_apply_81 : decode cX12_apply 81 = .ok (.getfield 131, 3) := by decide +kernel
theorem dX12_apply_84 : decode cX12_apply 84 = .ok (.iload_n 1, 1) := by decide +kernel
theorem dX12_apply_85 : decode cX12_apply 85 = .ok (.iaload, 1) := by decide +kernel
theorem dX12_apply_86 : decode cX12_apply 86 = .ok (.if_icmp .ge 40, 3) := by decide +kernel
theorem dX12_apply_89 : decode cX12_apply 89 = .ok (.aload_n 0, 1) := by decide +kernel
theorem dX12_apply_90 : decode cX12_apply 90 = .ok (.iload_n 1, 1) := by decide +kernel
theorem dX12_apply_91 : decode cX12_apply 91 = .ok (.iload_n 2, 1) := by decide +kernel
theorem dX12_apply_92 : decode cX12_apply 92 = .ok (.ifCond .ne 12, 3) := by decide +kernel
theorem dX12_apply_95 : decode cX12_apply 95 = .ok (.aload_n 0, 1) := by decide +kernel
theorem dX12_apply_96 : decode cX12_apply 96 = .ok (.getfield 110, 3) := by decide +kernel
theorem dX12_apply_99 : decode cX12_apply 99 = .ok (.iload_n 1, 1) := by decide +kernel
theorem dX12_apply_100 : decode cX12_apply 100 = .ok (.iaload, 1) := by decide +kernel
theorem dX12_apply_101 : decode cX12_apply 101 = .ok (.goto 19, 3) := by decide +kernel
theorem dX12_apply_104 : decode cX12_apply 104 = .ok (.aload_n 0, 1) := by decide +kernel
theorem dX12_apply_105 : decode cX12_apply 105 = .ok (.aload_n 0, 1) := by decide +kernel
theorem dX12_apply_106 : decode cX12_apply 106 = .ok (.getfield 98, 3) := by decide +kernel
theorem dX12_apply_109 : decode cX12_apply 109 = .ok (.iload_n 1, 1) := by decide +kernel
theorem dX12_apply_110 : decode cX12_apply 110 = .ok (.iaload, 1) := by decide +kernel
theorem dX12_apply_111 : decode cX12_apply 111 = .ok (.aload_n 0, 1) := by decide +kernel
theorem dX12_apply_112 : decode cX12_apply 112 = .ok (.getfield 107, 3) := by decide +kernel
theorem dX12_apply_115 : decode cX12_apply 115 = .ok (.iload_n 1, 1) := by decide +kernel
theorem dX12_apply_116 : decode cX12_apply 116 = .ok (.iaload, 1) := by decide +kernel
theorem dX12_apply_117 : decode cX12_apply 117 = .ok (.invokevirtual 201, 3) := by decide +kernel
theorem dX12_apply_120 : decode cX12_apply 120 = .ok (.invokevirtual 323, 3) := by decide +kernel
theorem dX12_apply_123 : decode cX12_apply 123 = .ok (.goto 162, 3) := by decide +kernel
theorem dX12_apply_126 : decode cX12_apply 126 = .ok (.iload_n 2, 1) := by decide +kernel
theorem dX12_apply_127 : decode cX12_apply 127 = .ok (.aload_n 0, 1) := by decide +kernel
theorem dX12_apply_128 : decode cX12_apply 128 = .ok (.getfield 131, 3) := by decide +kernel
theorem dX12_apply_131 : decode cX12_apply 131 = .ok (.iload_n 1, 1) := by decide +kernel
theorem dX12_apply_132 : decode cX12_apply 132 = .ok (.iaload, 1) := by decide +kernel
theorem dX12_apply_133 : decode cX12_apply 133 = .ok (.if_icmp .ne 124, 3) := by decide +kernel
theorem dX12_apply_136 : decode cX12_apply 136 = .ok (.aload_n 0, 1) := by decide +kernel
theorem dX12_apply_137 : decode cX12_apply 137 = .ok (.getfield 122, 3) := by decide +kernel
theorem dX12_apply_140 : decode cX12_apply 140 = .ok (.iload_n 1, 1) := by decide +kernel
theorem dX12_apply_141 : decode cX12_apply 141 = .ok (.aload_n 0, 1) := by decide +kernel
theorem dX12_apply_142 : decode cX12_apply 142 = .ok (.getfield 248, 3) := by decide +kernel
theorem dX12_apply_145 : decode cX12_apply 145 = .ok (.iastore, 1) := by decide +kernel
theorem dX12_apply_146 : decode cX12_apply 146 = .ok (.aload_n 0, 1) := by decide +kernel
theorem dX12_apply_147 : decode cX12_apply 147 = .ok (.getfield 125, 3) := by decide +kernel
theorem dX12_apply_150 : decode cX12_apply 150 = .ok (.iload_n 1, 1) := by decide +kernel
theorem dX12_apply_151 : decode cX12_apply 151 = .ok (.aload_n 0, 1) := by decide +kernel
theorem dX12_apply_152 : decode cX12_apply 152 = .ok (.getfield 251, 3) := by decide +kernel
theorem dX12_apply_155 : decode cX12_apply 155 = .ok (.iastore, 1) := by decide +kernel
theorem dX12_apply_156 : decode cX12_apply 156 = .ok (.aload_n 0, 1) := by decide +kernel
theorem dX12_apply_157 : decode cX12_apply 157 = .ok (.aload_n 0, 1) := by decide +kernel
theorem dX12_apply_158 : decode cX12_apply 158 = .ok (.getfield 251, 3) := by decide +kernel
theorem dX12_apply_161 : decode cX12_apply 161 = .ok (.putfield 248, 3) := by decide +kernel
theorem dX12_apply_164 : decode cX12_apply 164 = .ok (.iconst 0, 1) := by decide +kernel
theorem dX12_apply_165 : decode cX12_apply 165 = .ok (.istore_n 3, 1) := by decide +kernel
theorem dX12_apply_166 : decode cX12_apply 166 = .ok (.iload_n 3, 1) := by decide +kernel
theorem dX12_apply_167 : decode cX12_apply 167 = .ok (.aload_n 0, 1) := by decide +kernel
theorem dX12_apply_168 : decode cX12_apply 168 = .ok (.getfield 131, 3) := by decide +kernel
theorem dX12_apply_171 : decode cX12_apply 171 = .ok (.iload_n 1, 1) := by decide +kernel
theorem dX12_apply_172 : decode cX12_apply 172 = .ok (.iaload, 1) := by decide +kernel
theorem dX12_apply_173 : decode cX12_apply 173 = .ok (.if_icmp .ge 56, 3) := by decide +kernel
theorem dX12_apply_176 : decode cX12_apply 176 = .ok (.aload_n 0, 1) := by decide +kernel
theorem dX12_apply_177 : decode cX12_apply 177 = .ok (.aload_n 0, 1) := by decide +kernel
theorem dX12_apply_178 : decode cX12_apply 178 = .ok (.getfield 134, 3) := by decide +kernel
theorem dX12_apply_181 : decode cX12_apply 181 = .ok (.iconst 3, 1) := by decide +kernel
theorem dX12_apply_182 : decode cX12_apply 182 = .ok (.iload_n 1, 1) := by decide +kernel
theorem dX12_apply_183 : decode cX12_apply 183 = .ok (.imul, 1) := by decide +kernel
theorem dX12_apply_184 : decode cX12_apply 184 = .ok (.iload_n 3, 1) := by decide +kernel
theorem dX12_apply_185 : decode cX12_apply 185 = .ok (.iadd, 1) := by decide +kernel
theorem dX12_apply_186 : decode cX12_apply 186 = .ok (.iaload, 1) := by decide +kernel
theorem dX12_apply_187 : decode cX12_apply 187 = .ok (.iload_n 3, 1) := by decide +kernel
theorem dX12_apply_188 : decode cX12_apply 188 = .ok (.ifCond .ne 12, 3) := by decide +kernel
theorem dX12_apply_191 : decode cX12_apply 191 = .ok (.aload_n 0, 1) := by decide +kernel
theorem dX12_apply_192 : decode cX12_apply 192 = .ok (.getfield 113, 3) := by decide +kernel
theorem dX12_apply_195 : decode cX12_apply 195 = .ok (.iload_n 1, 1) := by decide +kernel
theorem dX12_apply_196 : decode cX12_apply 196 = .ok (.iaload, 1) := by decide +kernel
theorem dX12_apply_197 : decode cX12_apply 197 = .ok (.goto 23, 3) := by decide +kernel
theorem dX12_apply_200 : decode cX12_apply 200 = .ok (.iload_n 3, 1) := by decide +kernel
theorem dX12_apply_201 : decode cX12_apply 201 = .ok (.iconst 1, 1) := by decide +kernel
theorem dX12_apply_202 : decode cX12_apply 202 = .ok (.if_icmp .ne 12, 3) := by decide +kernel
theorem dX12_apply_205 : decode cX12_apply 205 = .ok (.aload_n 0, 1) := by decide +kernel
theorem dX12_apply_206 : decode cX12_apply 206 = .ok (.getfield 116, 3) := by decide +kernel
theorem dX12_apply_209 : decode cX12_apply 209 = .ok (.iload_n 1, 1) := by decide +kernel
theorem dX12_apply_210 : decode cX12_apply 210 = .ok (.iaload, 1) := by decide +kernel
theorem dX12_apply_211 : decode cX12_apply 211 = .ok (.goto 9, 3) := by decide +kernel
theorem dX12_apply_214 : decode cX12_apply 214 = .ok (.aload_n 0, 1) := by decide +kernel
theorem dX12_apply_215 : decode cX12_apply 215 = .ok (.getfield 119, 3) := by decide +kernel
theorem dX12_apply_218 : decode cX12_apply 218 = .ok (.iload_n 1, 1) := by decide +kernel
theorem dX12_apply_219 : decode cX12_apply 219 = .ok (.iaload, 1) := by decide +kernel
theorem dX12_apply_220 : decode cX12_apply 220 = .ok (.invokevirtual 333, 3) := by decide +kernel
theorem dX12_apply_223 : decode cX12_apply 223 = .ok (.iinc 3 1, 3) := by decide +kernel
theorem dX12_apply_226 : decode cX12_apply 226 = .ok (.goto (-60), 3) := by decide +kernel
theorem dX12_apply_229 : decode cX12_apply 229 = .ok (.aload_n 0, 1) := by decide +kernel
theorem dX12_apply_230 : decode cX12_apply 230 = .ok (.iconst 1, 1) := by decide +kernel
theorem dX12_apply_231 : decode cX12_apply 231 = .ok (.putfield 238, 3) := by decide +kernel
theorem dX12_apply_234 : decode cX12_apply 234 = .ok (.aload_n 0, 1) := by decide +kernel
theorem dX12_apply_235 : decode cX12_apply 235 = .ok (.aload_n 0, 1) := by decide +kernel
theorem dX12_apply_236 : decode cX12_apply 236 = .ok (.getfield 137, 3) := by decide +kernel
theorem dX12_apply_239 : decode cX12_apply 239 = .ok (.iload_n 1, 1) := by decide +kernel
theorem dX12_apply_240 : decode cX12_apply 240 = .ok (.iaload, 1) := by decide +kernel
theorem dX12_apply_241 : decode cX12_apply 241 = .ok (.putfield 242, 3) := by decide +kernel
theorem dX12_apply_244 : decode cX12_apply 244 = .ok (.aload_n 0, 1) := by decide +kernel
theorem dX12_apply_245 : decode cX12_apply 245 = .ok (.aload_n 0, 1) := by decide +kernel
theorem dX12_apply_246 : decode cX12_apply 246 = .ok (.getfield 140, 3) := by decide +kernel
theorem dX12_apply_249 : decode cX12_apply 249 = .ok (.iload_n 1, 1) := by decide +kernel
theorem dX12_apply_250 : decode cX12_apply 250 = .ok (.iaload, 1) := by decide +kernel
theorem dX12_apply_251 : decode cX12_apply 251 = .ok (.putfield 245, 3) := by decide +kernel
theorem dX12_apply_254 : decode cX12_apply 254 = .ok (.goto 31, 3) := by decide +kernel
theorem dX12_apply_257 : decode cX12_apply 257 = .ok (.aload_n 0, 1) := by decide +kernel
theorem dX12_apply_258 : decode cX12_apply 258 = .ok (.aload_n 0, 1) := by decide +kernel
theorem dX12_apply_259 : decode cX12_apply 259 = .ok (.getfield 122, 3) := by decide +kernel
theorem dX12_apply_262 : decode cX12_apply 262 = .ok (.iload_n 1, 1) := by decide +kernel
theorem dX12_apply_263 : decode cX12_apply 263 = .ok (.iaload, 1) := by decide +kernel
theorem dX12_apply_264 : decode cX12_apply 264 = .ok (.putfield 248, 3) := by decide +kernel
theorem dX12_apply_267 : decode cX12_apply 267 = .ok (.aload_n 0, 1) := by decide +kernel
theorem dX12_apply_268 : decode cX12_apply 268 = .ok (.aload_n 0, 1) := by decide +kernel
theorem dX12_apply_269 : decode cX12_apply 269 = .ok (.getfield 125, 3) := by decide +kernel
theorem dX12_apply_272 : decode cX12_apply 272 = .ok (.iload_n 1, 1) := by decide +kernel
theorem dX12_apply_273 : decode cX12_apply 273 = .ok (.iaload, 1) := by decide +kernel
theorem dX12_apply_274 : decode cX12_apply 274 = .ok (.putfield 251, 3) := by decide +kernel
theorem dX12_apply_277 : decode cX12_apply 277 = .ok (.aload_n 0, 1) := by decide +kernel
theorem dX12_apply_278 : decode cX12_apply 278 = .ok (.aload_n 0, 1) := by decide +kernel
theorem dX12_apply_279 : decode cX12_apply 279 = .ok (.getfield 232, 3) := by decide +kernel
theorem dX12_apply_282 : decode cX12_apply 282 = .ok (.invokevirtual 330, 3) := by decide +kernel
theorem dX12_apply_285 : decode cX12_apply 285 = .ok (.return_, 1) := by decide +kernel
theorem dX12_runScript_0 : decode cX12_runScript 0 = .ok (.aload_n 0, 1) := by decide +kernel
theorem dX12_runScript_1 : decode cX12_runScript 1 = .ok (.getfield 104, 3) := by decide +kernel
theorem dX12_runScript_4 : decode cX12_runScript 4 = .ok (.iload_n 1, 1) := by decide +kernel
theorem dX12_runScript_5 : decode cX12_runScript 5 = .ok (.iaload, 1) := by decide +kernel
theorem dX12_runScript_6 : decode cX12_runScript 6 = .ok (.ifCond .ne 15, 3) := by decide +kernel
theorem dX12_runScript_9 : decode cX12_runScript 9 = .ok (.aload_n 0, 1) := by decide +kernel
theorem dX12_runScript_10 : decode cX12_runScript 10 = .ok (.iload_n 1, 1) := by decide +kernel
theorem dX12_runScript_11 : decode cX12_runScript 11 = .ok (.aload_n 0, 1) := by decide +kernel
theorem dX12_runScript_12 : decode cX12_runScript 12 = .ok (.getfield 110, 3) := by decide +kernel
theorem dX12_runScript_15 : decode cX12_runScript 15 = .ok (.iload_n 1, 1) := by decide +kernel
theorem dX12_runScript_16 : decode cX12_runScript 16 = .ok (.iaload, 1) := by decide +kernel
theorem dX12_runScript_17 : decode cX12_runScript 17 = .ok (.invokevirtual 323, 3) := by decide +kernel
theorem dX12_runScript_20 : decode cX12_runScript 20 = .ok (.return_, 1) := by decide +kernel
theorem dX12_runScript_21 : decode cX12_runScript 21 = .ok (.aload_n 0, 1) := by decide +kernel
theorem dX12_runScript_22 : decode cX12_runScript 22 = .ok (.getfield 104, 3) := by decide +kernel
theorem dX12_runScript_25 : decode cX12_runScript 25 = .ok (.iload_n 1, 1) := by decide +kernel
theorem dX12_runScript_26 : decode cX12_runScript 26 = .ok (.iaload, 1) := by decide +kernel
theorem dX12_runScript_27 : decode cX12_runScript 27 = .ok (.iconst 1, 1) := by decide +kernel
theorem dX12_runScript_28 : decode cX12_runScript 28 = .ok (.if_icmp .ne 83, 3) := by decide +kernel
theorem dX12_runScript_31 : decode cX12_runScript 31 = .ok (.aload_n 0, 1) := by decide +kernel
theorem dX12_runScript_32 : decode cX12_runScript 32 = .ok (.getfield 232, 3) := by decide +kernel
theorem dX12_runScript_35 : decode cX12_runScript 35 = .ok (.invokestatic 178, 3) := by decide +kernel
theorem dX12_runScript_38 : decode cX12_runScript 38 = .ok (.ifCond .eq 15, 3) := by decide +kernel
theorem dX12_runScript_41 : decode cX12_runScript 41 = .ok (.aload_n 0, 1) := by decide +kernel
theorem dX12_runScript_42 : decode cX12_runScript 42 = .ok (.aload_n 0, 1) := by decide +kernel
theorem dX12_runScript_43 : decode cX12_runScript 43 = .ok (.getfield 232, 3) := by decide +kernel
theorem dX12_runScript_46 : decode cX12_runScript 46 = .ok (.invokevirtual 191, 3) := by decide +kernel
theorem dX12_runScript_49 : decode cX12_runScript 49 = .ok (.iconst (-1), 1) := by decide +kernel
theorem dX12_runScript_50 : decode cX12_runScript 50 = .ok (.if_icmp .eq 10, 3) := by decide +kernel
theorem dX12_runScript_53 : decode cX12_runScript 53 = .ok (.aload_n 0, 1) := by decide +kernel
theorem dX12_runScript_54 : decode cX12_runScript 54 = .ok (.bipush 6, 2) := by decide +kernel
theorem dX12_runScript_56 : decode cX12_runScript 56 = .ok (.putfield 257, 3) := by decide +kernel
theorem dX12_runScript_59 : decode cX12_runScript 59 = .ok (.return_, 1) := by decide +kernel
theorem dX12_runScript_60 : decode cX12_runScript 60 = .ok (.aload_n 0, 1) := by decide +kernel
theorem dX12_runScript_61 : decode cX12_runScript 61 = .ok (.getfield 128, 3) := by decide +kernel
theorem dX12_runScript_64 : decode cX12_runScript 64 = .ok (.iload_n 1, 1) := by decide +kernel
theorem dX12_runScript_65 : decode cX12_runScript 65 = .ok (.aload_n 0, 1) := by decide +kernel
theorem dX12_runScript_66 : decode cX12_runScript 66 = .ok (.getfield 232, 3) := by decide +kernel
theorem dX12_runScript_69 : decode cX12_runScript 69 = .ok (.iastore, 1) := by decide +kernel
theorem dX12_runScript_70 : decode cX12_runScript 70 = .ok (.aload_n 0, 1) := by decide +kernel
theorem dX12_runScript_71 : decode cX12_runScript 71 = .ok (.getfield 122, 3) := by decide +kernel
theorem dX12_runScript_74 : decode cX12_runScript 74 = .ok (.iload_n 1, 1) := by decide +kernel
theorem dX12_runScript_75 : decode cX12_runScript 75 = .ok (.aload_n 0, 1) := by decide +kernel
theorem dX12_runScript_76 : decode cX12_runScript 76 = .ok (.getfield 248, 3) := by decide +kernel
theorem dX12_runScript_79 : decode cX12_runScript 79 = .ok (.iastore, 1) := by decide +kernel
theorem dX12_runScript_80 : decode cX12_runScript 80 = .ok (.aload_n 0, 1) := by decide +kernel
theorem dX12_runScript_81 : decode cX12_runScript 81 = .ok (.aload_n 0, 1) := by decide +kernel
theorem dX12_runScript_82 : decode cX12_runScript 82 = .ok (.getfield 251, 3) := by decide +kernel
theorem dX12_runScript_85 : decode cX12_runScript 85 = .ok (.putfield 248, 3) := by decide +kernel
theorem dX12_runScript_88 : decode cX12_runScript 88 = .ok (.aload_n 0, 1) := by decide +kernel
theorem dX12_runScript_89 : decode cX12_runScript 89 = .ok (.getfield 107, 3) := by decide +kernel
theorem dX12_runScript_92 : decode cX12_runScript 92 = .ok (.iload_n 1, 1) := by decide +kernel
theorem dX12_runScript_93 : decode cX12_runScript 93 = .ok (.aload_n 0, 1) := by decide +kernel
theorem dX12_runScript_94 : decode cX12_runScript 94 = .ok (.aload_n 0, 1) := by decide +kernel
theorem dX12_runScript_95 : decode cX12_runScript 95 = .ok (.getfield 232, 3) := by decide +kernel
theorem dX12_runScript_98 : decode cX12_runScript 98 = .ok (.iconst 0, 1) := by decide +kernel
theorem dX12_runScript_99 : decode cX12_runScript 99 = .ok (.invokevirtual 198, 3) := by decide +kernel
theorem dX12_runScript_102 : decode cX12_runScript 102 = .ok (.iastore, 1) := by decide +kernel
theorem dX12_runScript_103 : decode cX12_runScript 103 = .ok (.aload_n 0, 1) := by decide +kernel
theorem dX12_runScript_104 : decode cX12_runScript 104 = .ok (.iconst 0, 1) := by decide +kernel
theorem dX12_runScript_105 : decode cX12_runScript 105 = .ok (.putfield 232, 3) := by decide +kernel
theorem dX12_runScript_108 : decode cX12_runScript 108 = .ok (.goto 25, 3) := by decide +kernel
theorem dX12_runScript_111 : decode cX12_runScript 111 = .ok (.aload_n 0, 1) := by decide +kernel
theorem dX12_runScript_112 : decode cX12_runScript 112 = .ok (.getfield 107, 3) := by decide +kernel
theorem dX12_runScript_115 : decode cX12_runScript 115 = .ok (.iload_n 1, 1) := by decide +kernel
theorem dX12_runScript_116 : decode cX12_runScript 116 = .ok (.aload_n 0, 1) := by decide +kernel
theorem dX12_runScript_117 : decode cX12_runScript 117 = .ok (.aload_n 0, 1) := by decide +kernel
theorem dX12_runScript_118 : decode cX12_runScript 118 = .ok (.getfield 128, 3) := by decide +kernel
theorem dX12_runScript_121 : decode cX12_runScript 121 = .ok (.iload_n 1, 1) := by decide +kernel
theorem dX12_runScript_122 : decode cX12_runScript 122 = .ok (.iaload, 1) := by decide +kernel
theorem dX12_runScript_123 : decode cX12_runScript 123 = .ok (.aload_n 0, 1) := by decide +kernel
theorem dX12_runScript_124 : decode cX12_runScript 124 = .ok (.getfield 107, 3) := by decide +kernel
theorem dX12_runScript_127 : decode cX12_runScript 127 = .ok (.iload_n 1, 1) := by decide +kernel
theorem dX12_runScript_128 : decode cX12_runScript 128 = .ok (.iaload, 1) := by decide +kernel
theorem dX12_runScript_129 : decode cX12_runScript 129 = .ok (.invokevirtual 201, 3) := by decide +kernel
theorem dX12_runScript_132 : decode cX12_runScript 132 = .ok (.iastore, 1) := by decide +kernel
theorem dX12_runScript_133 : decode cX12_runScript 133 = .ok (.aload_n 0, 1) := by decide +kernel
theorem dX12_runScript_134 : decode cX12_runScript 134 = .ok (.getfield 107, 3) := by decide +kernel
theorem dX12_runScript_137 : decode cX12_runScript 137 = .ok (.iload_n 1, 1) := by decide +kernel
theorem dX12_runScript_138 : decode cX12_runScript 138 = .ok (.iaload, 1) := by decide +kernel
theorem dX12_runScript_139 : decode cX12_runScript 139 = .ok (.iconst (-1), 1) := by decide +kernel
theorem dX12_runScript_140 : decode cX12_runScript 140 = .ok (.if_icmp .ne 24, 3) := by decide +kernel
theorem dX12_runScript_143 : decode cX12_runScript 143 = .ok (.aload_n 0, 1) := by decide +kernel
theorem dX12_runScript_144 : decode cX12_runScript 144 = .ok (.aload_n 0, 1) := by decide +kernel
theorem dX12_runScript_145 : decode cX12_runScript 145 = .ok (.getfield 122, 3) := by decide +kernel
theorem dX12_runScript_148 : decode cX12_runScript 148 = .ok (.iload_n 1, 1) := by decide +kernel
theorem dX12_runScript_149 : decode cX12_runScript 149 = .ok (.iaload, 1) := by decide +kernel
theorem dX12_runScript_150 : decode cX12_runScript 150 = .ok (.putfield 248, 3) := by decide +kernel
theorem dX12_runScript_153 : decode cX12_runScript 153 = .ok (.aload_n 0, 1) := by decide +kernel
theorem dX12_runScript_154 : decode cX12_runScript 154 = .ok (.aload_n 0, 1) := by decide +kernel
theorem dX12_runScript_155 : decode cX12_runScript 155 = .ok (.getfield 232, 3) := by decide +kernel
theorem dX12_runScript_158 : decode cX12_runScript 158 = .ok (.invokevirtual 330, 3) := by decide +kernel
theorem dX12_runScript_161 : decode cX12_runScript 161 = .ok (.goto 28, 3) := by decide +kernel
theorem dX12_runScript_164 : decode cX12_runScript 164 = .ok (.aload_n 0, 1) := by decide +kernel
theorem dX12_runScript_165 : decode cX12_runScript 165 = .ok (.iconst 1, 1) := by decide +kernel
theorem dX12_runScript_166 : decode cX12_runScript 166 = .ok (.putfield 238, 3) := by decide +kernel
theorem dX12_runScript_169 : decode cX12_runScript 169 = .ok (.aload_n 0, 1) := by decide +kernel
theorem dX12_runScript_170 : decode cX12_runScript 170 = .ok (.aload_n 0, 1) := by decide +kernel
theorem dX12_runScript_171 : decode cX12_runScript 171 = .ok (.getfield 128, 3) := by decide +kernel
theorem dX12_runScript_174 : decode cX12_runScript 174 = .ok (.iload_n 1, 1) := by decide +kernel
theorem dX12_runScript_175 : decode cX12_runScript 175 = .ok (.iaload, 1) := by decide +kernel
theorem dX12_runScript_176 : decode cX12_runScript 176 = .ok (.putfield 242, 3) := by decide +kernel
theorem dX12_runScript_179 : decode cX12_runScript 179 = .ok (.aload_n 0, 1) := by decide +kernel
theorem dX12_runScript_180 : decode cX12_runScript 180 = .ok (.aload_n 0, 1) := by decide +kernel
theorem dX12_runScript_181 : decode cX12_runScript 181 = .ok (.getfield 107, 3) := by decide +kernel
theorem dX12_runScript_184 : decode cX12_runScript 184 = .ok (.iload_n 1, 1) := by decide +kernel
theorem dX12_runScript_185 : decode cX12_runScript 185 = .ok (.iaload, 1) := by decide +kernel
theorem dX12_runScript_186 : decode cX12_runScript 186 = .ok (.putfield 245, 3) := by decide +kernel
theorem dX12_runScript_189 : decode cX12_runScript 189 = .ok (.return_, 1) := by decide +kernel
theorem dX12_manage_0 : decode cX12_manage 0 = .ok (.aload_n 0, 1) := by decide +kernel
theorem dX12_manage_1 : decode cX12_manage 1 = .ok (.getfield 101, 3) := by decide +kernel
theorem dX12_manage_4 : decode cX12_manage 4 = .ok (.iload_n 1, 1) := by decide +kernel
theorem dX12_manage_5 : decode cX12_manage 5 = .ok (.iaload, 1) := by decide +kernel
theorem dX12_manage_6 : decode cX12_manage 6 = .ok (.istore_n 2, 1) := by decide +kernel
theorem dX12_manage_7 : decode cX12_manage 7 = .ok (.aload_n 0, 1) := by decide +kernel
theorem dX12_manage_8 : decode cX12_manage 8 = .ok (.getfield 104, 3) := by decide +kernel
theorem dX12_manage_11 : decode cX12_manage 11 = .ok (.iload_n 1, 1) := by decide +kernel
theorem dX12_manage_12 : decode cX12_manage 12 = .ok (.iaload, 1) := by decide +kernel
theorem dX12_manage_13 : decode cX12_manage 13 = .ok (.istore_n 3, 1) := by decide +kernel
theorem dX12_manage_14 : decode cX12_manage 14 = .ok (.iload_n 2, 1) := by decide +kernel
theorem dX12_manage_15 : decode cX12_manage 15 = .ok (.bipush 24, 2) := by decide +kernel
theorem dX12_manage_17 : decode cX12_manage 17 = .ok (.if_icmp .eq 9, 3) := by decide +kernel
theorem dX12_manage_20 : decode cX12_manage 20 = .ok (.iload_n 2, 1) := by decide +kernel
theorem dX12_manage_21 : decode cX12_manage 21 = .ok (.bipush 25, 2) := by decide +kernel
theorem dX12_manage_23 : decode cX12_manage 23 = .ok (.if_icmp .ne 32, 3) := by decide +kernel
theorem dX12_manage_26 : decode cX12_manage 26 = .ok (.aload_n 0, 1) := by decide +kernel
theorem dX12_manage_27 : decode cX12_manage 27 = .ok (.iload_n 2, 1) := by decide +kernel
theorem dX12_manage_28 : decode cX12_manage 28 = .ok (.bipush 24, 2) := by decide +kernel
theorem dX12_manage_30 : decode cX12_manage 30 = .ok (.if_icmp .ne 15, 3) := by decide +kernel
theorem dX12_manage_33 : decode cX12_manage 33 = .ok (.aload_n 0, 1) := by decide +kernel
theorem dX12_manage_34 : decode cX12_manage 34 = .ok (.getfield 22, 3) := by decide +kernel
theorem dX12_manage_37 : decode cX12_manage 37 = .ok (.aload_n 0, 1) := by decide +kernel
theorem dX12_manage_38 : decode cX12_manage 38 = .ok (.getfield 223, 3) := by decide +kernel
theorem dX12_manage_41 : decode cX12_manage 41 = .ok (.iaload, 1) := by decide +kernel
theorem dX12_manage_42 : decode cX12_manage 42 = .ok (.goto 7, 3) := by decide +kernel
theorem dX12_manage_45 : decode cX12_manage 45 = .ok (.aload_n 0, 1) := by decide +kernel
theorem dX12_manage_46 : decode cX12_manage 46 = .ok (.getfield 349, 3) := by decide +kernel
theorem dX12_manage_49 : decode cX12_manage 49 = .ok (.invokevirtual 330, 3) := by decide +kernel
theorem dX12_manage_52 : decode cX12_manage 52 = .ok (.goto 263, 3) := by decide +kernel
theorem dX12_manage_55 : decode cX12_manage 55 = .ok (.iload_n 3, 1) := by decide +kernel
theorem dX12_manage_56 : decode cX12_manage 56 = .ok (.ifCond .ne 17, 3) := by decide +kernel
theorem dX12_manage_59 : decode cX12_manage 59 = .ok (.aload_n 0, 1) := by decide +kernel
theorem dX12_manage_60 : decode cX12_manage 60 = .ok (.iload_n 1, 1) := by decide +kernel
theorem dX12_manage_61 : decode cX12_manage 61 = .ok (.aload_n 0, 1) := by decide +kernel
theorem dX12_manage_62 : decode cX12_manage 62 = .ok (.getfield 110, 3) := by decide +kernel
theorem dX12_manage_65 : decode cX12_manage 65 = .ok (.iload_n 1, 1) := by decide +kernel
theorem dX12_manage_66 : decode cX12_manage 66 = .ok (.iaload, 1) := by decide +kernel
theorem dX12_manage_67 : decode cX12_manage 67 = .ok (.invokevirtual 323, 3) := by decide +kernel
theorem dX12_manage_70 : decode cX12_manage 70 = .ok (.goto 245, 3) := by decide +kernel
theorem dX12_manage_73 : decode cX12_manage 73 = .ok (.iload_n 2, 1) := by decide +kernel
theorem dX12_manage_74 : decode cX12_manage 74 = .ok (.bipush 23, 2) := by decide +kernel
theorem dX12_manage_76 : decode cX12_manage 76 = .ok (.if_icmp .ne 66, 3) := by decide +kernel
theorem dX12_manage_79 : decode cX12_manage 79 = .ok (.aload_n 0, 1) := by decide +kernel
theorem dX12_manage_80 : decode cX12_manage 80 = .ok (.getfield 232, 3) := by decide +kernel
theorem dX12_manage_83 : decode cX12_manage 83 = .ok (.ifCond .ge 12, 3) := by decide +kernel
theorem dX12_manage_86 : decode cX12_manage 86 = .ok (.aload_n 0, 1) := by decide +kernel
theorem dX12_manage_87 : decode cX12_manage 87 = .ok (.bipush 6, 2) := by decide +kernel
theorem dX12_manage_89 : decode cX12_manage 89 = .ok (.putfield 257, 3) := by decide +kernel
theorem dX12_manage_92 : decode cX12_manage 92 = .ok (.goto 223, 3) := by decide +kernel
theorem dX12_manage_95 : decode cX12_manage 95 = .ok (.aload_n 0, 1) := by decide +kernel
theorem dX12_manage_96 : decode cX12_manage 96 = .ok (.aload_n 0, 1) := by decide +kernel
theorem dX12_manage_97 : decode cX12_manage 97 = .ok (.aload_n 0, 1) := by decide +kernel
theorem dX12_manage_98 : decode cX12_manage 98 = .ok (.getfield 223, 3) := by decide +kernel
theorem dX12_manage_101 : decode cX12_manage 101 = .ok (.aload_n 0, 1) := by decide +kernel
theorem dX12_manage_102 : decode cX12_manage 102 = .ok (.getfield 232, 3) := by decide +kernel
theorem dX12_manage_105 : decode cX12_manage 105 = .ok (.aload_n 0, 1) := by decide +kernel
theorem dX12_manage_106 : decode cX12_manage 106 = .ok (.getfield 19, 3) := by decide +kernel
theorem dX12_manage_109 : decode cX12_manage 109 = .ok (.aload_n 0, 1) := by decide +kernel
theorem dX12_manage_110 : decode cX12_manage 110 = .ok (.getfield 223, 3) := by decide +kernel
theorem dX12_manage_113 : decode cX12_manage 113 = .ok (.iaload, 1) := by decide +kernel
theorem dX12_manage_114 : decode cX12_manage 114 = .ok (.if_icmp .ge 10, 3) := by decide +kernel
theorem dX12_manage_117 : decode cX12_manage 117 = .ok (.aload_n 0, 1) := by decide +kernel
theorem dX12_manage_118 : decode cX12_manage 118 = .ok (.getfield 232, 3) := by decide +kernel
theorem dX12_manage_121 : decode cX12_manage 121 = .ok (.goto 12, 3) := by decide +kernel
theorem dX12_manage_124 : decode cX12_manage 124 = .ok (.aload_n 0, 1) := by decide +kernel
theorem dX12_manage_125 : decode cX12_manage 125 = .ok (.getfield 19, 3) := by decide +kernel
theorem dX12_manage_128 : decode cX12_manage 128 = .ok (.aload_n 0, 1) := by decide +kernel
theorem dX12_manage_129 : decode cX12_manage 129 = .ok (.getfield 223, 3) := by decide +kernel
theorem dX12_manage_132 : decode cX12_manage 132 = .ok (.iaload, 1) := by decide +kernel
theorem dX12_manage_133 : decode cX12_manage 133 = .ok (.invokevirtual 226, 3) := by decide +kernel
theorem dX12_manage_136 : decode cX12_manage 136 = .ok (.invokevirtual 330, 3) := by decide +kernel
theorem dX12_manage_139 : decode cX12_manage 139 = .ok (.goto 176, 3) := by decide +kernel
theorem dX12_manage_142 : decode cX12_manage 142 = .ok (.iload_n 3, 1) := by decide +kernel
theorem dX12_manage_143 : decode cX12_manage 143 = .ok (.iconst 3, 1) := by decide +kernel
theorem dX12_manage_144 : decode cX12_manage 144 = .ok (.if_icmp .ge 75, 3) := by decide +kernel
theorem dX12_manage_147 : decode cX12_manage 147 = .ok (.aload_n 0, 1) := by decide +kernel
theorem dX12_manage_148 : decode cX12_manage 148 = .ok (.getfield 113, 3) := by decide +kernel
theorem dX12_manage_151 : decode cX12_manage 151 = .ok (.iload_n 1, 1) := by decide +kernel
theorem dX12_manage_152 : decode cX12_manage 152 = .ok (.iload_n 3, 1) := by decide +kernel
theorem dX12_manage_153 : decode cX12_manage 153 = .ok (.iconst 1, 1) := by decide +kernel
theorem dX12_manage_154 : decode cX12_manage 154 = .ok (.if_icmp .ne 10, 3) := by decide +kernel
theorem dX12_manage_157 : decode cX12_manage 157 = .ok (.aload_n 0, 1) := by decide +kernel
theorem dX12_manage_158 : decode cX12_manage 158 = .ok (.getfield 232, 3) := by decide +kernel
theorem dX12_manage_161 : decode cX12_manage 161 = .ok (.goto 9, 3) := by decide +kernel
theorem dX12_manage_164 : decode cX12_manage 164 = .ok (.aload_n 0, 1) := by decide +kernel
theorem dX12_manage_165 : decode cX12_manage 165 = .ok (.getfield 113, 3) := by decide +kernel
theorem dX12_manage_168 : decode cX12_manage 168 = .ok (.iload_n 1, 1) := by decide +kernel
theorem dX12_manage_169 : decode cX12_manage 169 = .ok (.iaload, 1) := by decide +kernel
theorem dX12_manage_170 : decode cX12_manage 170 = .ok (.iastore, 1) := by decide +kernel
theorem dX12_manage_171 : decode cX12_manage 171 = .ok (.aload_n 0, 1) := by decide +kernel
theorem dX12_manage_172 : decode cX12_manage 172 = .ok (.getfield 116, 3) := by decide +kernel
theorem dX12_manage_175 : decode cX12_manage 175 = .ok (.iload_n 1, 1) := by decide +kernel
theorem dX12_manage_176 : decode cX12_manage 176 = .ok (.iload_n 3, 1) := by decide +kernel
theorem dX12_manage_177 : decode cX12_manage 177 = .ok (.iconst 2, 1) := by decide +kernel
theorem dX12_manage_178 : decode cX12_manage 178 = .ok (.if_icmp .ne 10, 3) := by decide +kernel
theorem dX12_manage_181 : decode cX12_manage 181 = .ok (.aload_n 0, 1) := by decide +kernel
theorem dX12_manage_182 : decode cX12_manage 182 = .ok (.getfield 232, 3) := by decide +kernel
theorem dX12_manage_185 : decode cX12_manage 185 = .ok (.goto 9, 3) := by decide +kernel
theorem dX12_manage_188 : decode cX12_manage 188 = .ok (.aload_n 0, 1) := by decide +kernel
theorem dX12_manage_189 : decode cX12_manage 189 = .ok (.getfield 116, 3) := by decide +kernel
theorem dX12_manage_192 : decode cX12_manage 192 = .ok (.iload_n 1, 1) := by decide +kernel
theorem dX12_manage_193 : decode cX12_manage 193 = .ok (.iaload, 1) := by decide +kernel
theorem dX12_manage_194 : decode cX12_manage 194 = .ok (.iastore, 1) := by decide +kernel
theorem dX12_manage_195 : decode cX12_manage 195 = .ok (.aload_n 0, 1) := by decide +kernel
theorem dX12_manage_196 : decode cX12_manage 196 = .ok (.iload_n 1, 1) := by decide +kernel
theorem dX12_manage_197 : decode cX12_manage 197 = .ok (.aload_n 0, 1) := by decide +kernel
theorem dX12_manage_198 : decode cX12_manage 198 = .ok (.aload_n 0, 1) := by decide +kernel
theorem dX12_manage_199 : decode cX12_manage 199 = .ok (.getfield 98, 3) := by decide +kernel
theorem dX12_manage_202 : decode cX12_manage 202 = .ok (.iload_n 1, 1) := by decide +kernel
theorem dX12_manage_203 : decode cX12_manage 203 = .ok (.iaload, 1) := by decide +kernel
theorem dX12_manage_204 : decode cX12_manage 204 = .ok (.aload_n 0, 1) := by decide +kernel
theorem dX12_manage_205 : decode cX12_manage 205 = .ok (.getfield 107, 3) := by decide +kernel
theorem dX12_manage_208 : decode cX12_manage 208 = .ok (.iload_n 1, 1) := by decide +kernel
theorem dX12_manage_209 : decode cX12_manage 209 = .ok (.iaload, 1) := by decide +kernel
theorem dX12_manage_210 : decode cX12_manage 210 = .ok (.invokevirtual 201, 3) := by decide +kernel
theorem dX12_manage_213 : decode cX12_manage 213 = .ok (.invokevirtual 323, 3) := by decide +kernel
theorem dX12_manage_216 : decode cX12_manage 216 = .ok (.goto 99, 3) := by decide +kernel
theorem dX12_manage_219 : decode cX12_manage 219 = .ok (.aload_n 0, 1) := by decide +kernel
theorem dX12_manage_220 : decode cX12_manage 220 = .ok (.getfield 113, 3) := by decide +kernel
theorem dX12_manage_223 : decode cX12_manage 223 = .ok (.iload_n 1, 1) := by decide +kernel
theorem dX12_manage_224 : decode cX12_manage 224 = .ok (.iaload, 1) := by decide +kernel
theorem dX12_manage_225 : decode cX12_manage 225 = .ok (.iconst 1, 1) := by decide +kernel
theorem dX12_manage_226 : decode cX12_manage 226 = .ok (.bipush 100, 2) := by decide +kernel
theorem dX12_manage_228 : decode cX12_manage 228 = .ok (.invokestatic 167, 3) := by decide +kernel
theorem dX12_manage_231 : decode cX12_manage 231 = .ok (.ifCond .eq 29, 3) := by decide +kernel
theorem dX12_manage_234 : decode cX12_manage 234 = .ok (.aload_n 0, 1) := by decide +kernel
theorem dX12_manage_235 : decode cX12_manage 235 = .ok (.getfield 116, 3) := by decide +kernel
theorem dX12_manage_238 : decode cX12_manage 238 = .ok (.iload_n 1, 1) := by decide +kernel
theorem dX12_manage_239 : decode cX12_manage 239 = .ok (.iaload, 1) := by decide +kernel
theorem dX12_manage_240 : decode cX12_manage 240 = .ok (.invokestatic 178, 3) := by decide +kernel
theorem dX12_manage_243 : decode cX12_manage 243 = .ok (.ifCond .eq 17, 3) := by decide +kernel
theorem dX12_manage_246 : decode cX12_manage 246 = .ok (.aload_n 0, 1) := by decide +kernel
theorem dX12_manage_247 : decode cX12_manage 247 = .ok (.getfield 232, 3) := by decide +kernel
theorem dX12_manage_250 : decode cX12_manage 250 = .ok (.iconst 1, 1) := by decide +kernel
theorem dX12_manage_251 : decode cX12_manage 251 = .ok (.sipush 1000, 3) := by decide +kernel
theorem dX12_manage_254 : decode cX12_manage 254 = .ok (.invokestatic 167, 3) := by decide +kernel
theorem dX12_manage_257 : decode cX12_manage 257 = .ok (.ifCond .ne 12, 3) := by decide +kernel
theorem dX12_manage_260 : decode cX12_manage 260 = .ok (.aload_n 0, 1) := by decide +kernel
theorem dX12_manage_261 : decode cX12_manage 261 = .ok (.bipush 6, 2) := by decide +kernel
theorem dX12_manage_263 : decode cX12_manage 263 = .ok (.putfield 257, 3) := by decide +kernel
theorem dX12_manage_266 : decode cX12_manage 266 = .ok (.goto 49, 3) := by decide +kernel
theorem dX12_manage_269 : decode cX12_manage 269 = .ok (.aload_n 0, 1) := by decide +kernel
theorem dX12_manage_270 : decode cX12_manage 270 = .ok (.aload_n 0, 1) := by decide +kernel
theorem dX12_manage_271 : decode cX12_manage 271 = .ok (.getfield 352, 3) := by decide +kernel
theorem dX12_manage_274 : decode cX12_manage 274 = .ok (.bipush 60, 2) := by decide +kernel
theorem dX12_manage_276 : decode cX12_manage 276 = .ok (.if_icmp .ne 7, 3) := by decide +kernel
theorem dX12_manage_279 : decode cX12_manage 279 = .ok (.iconst (-1), 1) := by decide +kernel
theorem dX12_manage_280 : decode cX12_manage 280 = .ok (.goto 32, 3) := by decide +kernel
theorem dX12_manage_283 : decode cX12_manage 283 = .ok (.aload_n 0, 1) := by decide +kernel
theorem dX12_manage_284 : decode cX12_manage 284 = .ok (.aload_n 0, 1) := by decide +kernel
theorem dX12_manage_285 : decode cX12_manage 285 = .ok (.getfield 223, 3) := by decide +kernel
theorem dX12_manage_288 : decode cX12_manage 288 = .ok (.aload_n 0, 1) := by decide +kernel
theorem dX12_manage_289 : decode cX12_manage 289 = .ok (.getfield 116, 3) := by decide +kernel
theorem dX12_manage_292 : decode cX12_manage 292 = .ok (.iload_n 1, 1) := by decide +kernel
theorem dX12_manage_293 : decode cX12_manage 293 = .ok (.iaload, 1) := by decide +kernel
theorem dX12_manage_294 : decode cX12_manage 294 = .ok (.aload_n 0, 1) := by decide +kernel
theorem dX12_manage_295 : decode cX12_manage 295 = .ok (.getfield 349, 3) := by decide +kernel
theorem dX12_manage_298 : decode cX12_manage 298 = .ok (.aload_n 0, 1) := by decide +kernel
theorem dX12_manage_299 : decode cX12_manage 299 = .ok (.getfield 113, 3) := by decide +kernel
theorem dX12_manage_302 : decode cX12_manage 302 = .ok (.iload_n 1, 1) := by decide +kernel
theorem dX12_manage_303 : decode cX12_manage 303 = .ok (.iaload, 1) := by decide +kernel
theorem dX12_manage_304 : decode cX12_manage 304 = .ok (.iadd, 1) := by decide +kernel
theorem dX12_manage_305 : decode cX12_manage 305 = .ok (.aload_n 0, 1) := by decide +kernel
theorem dX12_manage_306 : decode cX12_manage 306 = .ok (.getfield 232, 3) := by decide +kernel
theorem dX12_manage_309 : decode cX12_manage 309 = .ok (.invokevirtual 355, 3) := by decide +kernel
theorem dX12_manage_312 : decode cX12_manage 312 = .ok (.invokevirtual 330, 3) := by decide +kernel
theorem dX12_manage_315 : decode cX12_manage 315 = .ok (.return_, 1) := by decide +kernel
theorem dX12_evaluate_0 : decode cX12_evaluate 0 = .ok (.aload_n 0, 1) := by decide +kernel
theorem dX12_evaluate_1 : decode cX12_evaluate 1 = .ok (.iconst 0, 1) := by decide +kernel
theorem dX12_evaluate_2 : decode cX12_evaluate 2 = .ok (.putfield 235, 3) := by decide +kernel
theorem dX12_evaluate_5 : decode cX12_evaluate 5 = .ok (.aload_n 0, 1) := by decide +kernel
theorem dX12_evaluate_6 : decode cX12_evaluate 6 = .ok (.iconst 0, 1) := by decide +kernel
theorem dX12_evaluate_7 : decode cX12_evaluate 7 = .ok (.putfield 248, 3) := by decide +kernel
theorem dX12_evaluate_10 : decode cX12_evaluate 10 = .ok (.aload_n 0, 1) := by decide +kernel
theorem dX12_evaluate_11 : decode cX12_evaluate 11 = .ok (.iconst 0, 1) := by decide +kernel
theorem dX12_evaluate_12 : decode cX12_evaluate 12 = .ok (.putfield 251, 3) := by decide +kernel
theorem dX12_evaluate_15 : decode cX12_evaluate 15 = .ok (.aload_n 0, 1) := by decide +kernel
theorem dX12_evaluate_16 : decode cX12_evaluate 16 = .ok (.iconst 0, 1) := by decide +kernel
theorem dX12_evaluate_17 : decode cX12_evaluate 17 = .ok (.putfield 257, 3) := by decide +kernel
theorem dX12_evaluate_20 : decode cX12_evaluate 20 = .ok (.aload_n 0, 1) := by decide +kernel
theorem dX12_evaluate_21 : decode cX12_evaluate 21 = .ok (.iconst 0, 1) := by decide +kernel
theorem dX12_evaluate_22 : decode cX12_evaluate 22 = .ok (.putfield 232, 3) := by decide +kernel
theorem dX12_evaluate_25 : decode cX12_evaluate 25 = .ok (.aload_n 0, 1) := by decide +kernel
theorem dX12_evaluate_26 : decode cX12_evaluate 26 = .ok (.iconst 1, 1) := by decide +kernel
theorem dX12_evaluate_27 : decode cX12_evaluate 27 = .ok (.putfield 238, 3) := by decide +kernel
theorem dX12_evaluate_30 : decode cX12_evaluate 30 = .ok (.aload_n 0, 1) := by decide +kernel
theorem dX12_evaluate_31 : decode cX12_evaluate 31 = .ok (.iload_n 1, 1) := by decide +kernel
theorem dX12_evaluate_32 : decode cX12_evaluate 32 = .ok (.putfield 242, 3) := by decide +kernel
theorem dX12_evaluate_35 : decode cX12_evaluate 35 = .ok (.aload_n 0, 1) := by decide +kernel
theorem dX12_evaluate_36 : decode cX12_evaluate 36 = .ok (.iload_n 2, 1) := by decide +kernel
theorem dX12_evaluate_37 : decode cX12_evaluate 37 = .ok (.putfield 245, 3) := by decide +kernel
theorem dX12_evaluate_40 : decode cX12_evaluate 40 = .ok (.aload_n 0, 1) := by decide +kernel
theorem dX12_evaluate_41 : decode cX12_evaluate 41 = .ok (.getfield 257, 3) := by decide +kernel
theorem dX12_evaluate_44 : decode cX12_evaluate 44 = .ok (.ifCond .ne 59, 3) := by decide +kernel
theorem dX12_evaluate_47 : decode cX12_evaluate 47 = .ok (.aload_n 0, 1) := by decide +kernel
theorem dX12_evaluate_48 : decode cX12_evaluate 48 = .ok (.getfield 238, 3) := by decide +kernel
theorem dX12_evaluate_51 : decode cX12_evaluate 51 = .ok (.ifCond .ne 10, 3) := by decide +kernel
theorem dX12_evaluate_54 : decode cX12_evaluate 54 = .ok (.aload_n 0, 1) := by decide +kernel
theorem dX12_evaluate_55 : decode cX12_evaluate 55 = .ok (.getfield 235, 3) := by decide +kernel
theorem dX12_evaluate_58 : decode cX12_evaluate 58 = .ok (.ifCond .le 45, 3) := by decide +kernel
theorem dX12_evaluate_61 : decode cX12_evaluate 61 = .ok (.aload_n 0, 1) := by decide +kernel
theorem dX12_evaluate_62 : decode cX12_evaluate 62 = .ok (.getfield 238, 3) := by decide +kernel
theorem dX12_evaluate_65 : decode cX12_evaluate 65 = .ok (.ifCond .eq 10, 3) := by decide +kernel
theorem dX12_evaluate_68 : decode cX12_evaluate 68 = .ok (.aload_n 0, 1) := by decide +kernel
theorem dX12_evaluate_69 : decode cX12_evaluate 69 = .ok (.invokevirtual 359, 3) := by decide +kernel
theorem dX12_evaluate_72 : decode cX12_evaluate 72 = .ok (.goto (-32), 3) := by decide +kernel
theorem dX12_evaluate_75 : decode cX12_evaluate 75 = .ok (.aload_n 0, 1) := by decide +kernel
theorem dX12_evaluate_76 : decode cX12_evaluate 76 = .ok (.getfield 104, 3) := by decide +kernel
theorem dX12_evaluate_79 : decode cX12_evaluate 79 = .ok (.aload_n 0, 1) := by decide +kernel
theorem dX12_evaluate_80 : decode cX12_evaluate 80 = .ok (.getfield 235, 3) := by decide +kernel
theorem dX12_evaluate_83 : decode cX12_evaluate 83 = .ok (.iconst 1, 1) := by decide +kernel
theorem dX12_evaluate_84 : decode cX12_evaluate 84 = .ok (.isub, 1) := by decide +kernel
theorem dX12_evaluate_85 : decode cX12_evaluate 85 = .ok (.dup2, 1) := by decide +kernel
theorem dX12_evaluate_86 : decode cX12_evaluate 86 = .ok (.iaload, 1) := by decide +kernel
theorem dX12_evaluate_87 : decode cX12_evaluate 87 = .ok (.iconst 1, 1) := by decide +kernel
theorem dX12_evaluate_88 : decode cX12_evaluate 88 = .ok (.iadd, 1) := by decide +kernel
theorem dX12_evaluate_89 : decode cX12_evaluate 89 = .ok (.iastore, 1) := by decide +kernel
theorem dX12_evaluate_90 : decode cX12_evaluate 90 = .ok (.aload_n 0, 1) := by decide +kernel
theorem dX12_evaluate_91 : decode cX12_evaluate 91 = .ok (.aload_n 0, 1) := by decide +kernel
theorem dX12_evaluate_92 : decode cX12_evaluate 92 = .ok (.getfield 235, 3) := by decide +kernel
theorem dX12_evaluate_95 : decode cX12_evaluate 95 = .ok (.iconst 1, 1) := by decide +kernel
theorem dX12_evaluate_96 : decode cX12_evaluate 96 = .ok (.isub, 1) := by decide +kernel
theorem dX12_evaluate_97 : decode cX12_evaluate 97 = .ok (.invokevirtual 293, 3) := by decide +kernel
theorem dX12_evaluate_100 : decode cX12_evaluate 100 = .ok (.goto (-60), 3) := by decide +kernel
theorem dX12_evaluate_103 : decode cX12_evaluate 103 = .ok (.return_, 1) := by decide +kernel
theorem dX12_makeOrder_0 : decode cX12_makeOrder 0 = .ok (.aload_n 0, 1) := by decide +kernel
theorem dX12_makeOrder_1 : decode cX12_makeOrder 1 = .ok (.getfield 39, 3) := by decide +kernel
theorem dX12_makeOrder_4 : decode cX12_makeOrder 4 = .ok (.aload_n 0, 1) := by decide +kernel
theorem dX12_makeOrder_5 : decode cX12_makeOrder 5 = .ok (.getfield 352, 3) := by decide +kernel
theorem dX12_makeOrder_8 : decode cX12_makeOrder 8 = .ok (.iload_n 1, 1) := by decide +kernel
theorem dX12_makeOrder_9 : decode cX12_makeOrder 9 = .ok (.iastore, 1) := by decide +kernel
theorem dX12_makeOrder_10 : decode cX12_makeOrder 10 = .ok (.aload_n 0, 1) := by decide +kernel
theorem dX12_makeOrder_11 : decode cX12_makeOrder 11 = .ok (.getfield 42, 3) := by decide +kernel
theorem dX12_makeOrder_14 : decode cX12_makeOrder 14 = .ok (.aload_n 0, 1) := by decide +kernel
theorem dX12_makeOrder_15 : decode cX12_makeOrder 15 = .ok (.getfield 352, 3) := by decide +kernel
theorem dX12_makeOrder_18 : decode cX12_makeOrder 18 = .ok (.iload_n 2, 1) := by decide +kernel
theorem dX12_makeOrder_19 : decode cX12_makeOrder 19 = .ok (.iastore, 1) := by decide +kernel
theorem dX12_makeOrder_20 : decode cX12_makeOrder 20 = .ok (.aload_n 0, 1) := by decide +kernel
theorem dX12_makeOrder_21 : decode cX12_makeOrder 21 = .ok (.getfield 45, 3) := by decide +kernel
theorem dX12_makeOrder_24 : decode cX12_makeOrder 24 = .ok (.aload_n 0, 1) := by decide +kernel
theorem dX12_makeOrder_25 : decode cX12_makeOrder 25 = .ok (.getfield 352, 3) := by decide +kernel
theorem dX12_makeOrder_28 : decode cX12_makeOrder 28 = .ok (.iload_n 3, 1) := by decide +kernel
theorem dX12_makeOrder_29 : decode cX12_makeOrder 29 = .ok (.iastore, 1) := by decide +kernel
theorem dX12_makeOrder_30 : decode cX12_makeOrder 30 = .ok (.aload_n 0, 1) := by decide +kernel
theorem dX12_makeOrder_31 : decode cX12_makeOrder 31 = .ok (.getfield 48, 3) := by decide +kernel
theorem dX12_makeOrder_34 : decode cX12_makeOrder 34 = .ok (.aload_n 0, 1) := by decide +kernel
theorem dX12_makeOrder_35 : decode cX12_makeOrder 35 = .ok (.getfield 352, 3) := by decide +kernel
theorem dX12_makeOrder_38 : decode cX12_makeOrder 38 = .ok (.iload 4, 2) := by decide +kernel
theorem dX12_makeOrder_40 : decode cX12_makeOrder 40 = .ok (.iastore, 1) := by decide +kernel
theorem dX12_makeOrder_41 : decode cX12_makeOrder 41 = .ok (.aload_n 0, 1) := by decide +kernel
theorem dX12_makeOrder_42 : decode cX12_makeOrder 42 = .ok (.getfield 51, 3) := by decide +kernel
theorem dX12_makeOrder_45 : decode cX12_makeOrder 45 = .ok (.aload_n 0, 1) := by decide +kernel
theorem dX12_makeOrder_46 : decode cX12_makeOrder 46 = .ok (.getfield 352, 3) := by decide +kernel
theorem dX12_makeOrder_49 : decode cX12_makeOrder 49 = .ok (.iconst 0, 1) := by decide +kernel
theorem dX12_makeOrder_50 : decode cX12_makeOrder 50 = .ok (.iastore, 1) := by decide +kernel
theorem dX12_makeOrder_51 : decode cX12_makeOrder 51 = .ok (.aload_n 0, 1) := by decide +kernel
theorem dX12_makeOrder_52 : decode cX12_makeOrder 52 = .ok (.dup, 1) := by decide +kernel
theorem dX12_makeOrder_53 : decode cX12_makeOrder 53 = .ok (.getfield 352, 3) := by decide +kernel
theorem dX12_makeOrder_56 : decode cX12_makeOrder 56 = .ok (.iconst 1, 1) := by decide +kernel
theorem dX12_makeOrder_57 : decode cX12_makeOrder 57 = .ok (.iadd, 1) := by decide +kernel
theorem dX12_makeOrder_58 : decode cX12_makeOrder 58 = .ok (.putfield 352, 3) := by decide +kernel
theorem dX12_makeOrder_61 : decode cX12_makeOrder 61 = .ok (.aload_n 0, 1) := by decide +kernel
theorem dX12_makeOrder_62 : decode cX12_makeOrder 62 = .ok (.getfield 352, 3) := by decide +kernel
theorem dX12_makeOrder_65 : decode cX12_makeOrder 65 = .ok (.iconst 1, 1) := by decide +kernel
theorem dX12_makeOrder_66 : decode cX12_makeOrder 66 = .ok (.isub, 1) := by decide +kernel
theorem dX12_makeOrder_67 : decode cX12_makeOrder 67 = .ok (.ireturn, 1) := by decide +kernel
theorem dX12_undo_0 : decode cX12_undo 0 = .ok (.aload_n 0, 1) := by decide +kernel
theorem dX12_undo_1 : decode cX12_undo 1 = .ok (.getfield 346, 3) := by decide +kernel
theorem dX12_undo_4 : decode cX12_undo 4 = .ok (.iload_n 1, 1) := by decide +kernel
theorem dX12_undo_5 : decode cX12_undo 5 = .ok (.if_icmp .le 94, 3) := by decide +kernel
theorem dX12_undo_8 : decode cX12_undo 8 = .ok (.aload_n 0, 1) := by decide +kernel
theorem dX12_undo_9 : decode cX12_undo 9 = .ok (.dup, 1) := by decide +kernel
theorem dX12_undo_10 : decode cX12_undo 10 = .ok (.getfield 346, 3) := by decide +kernel
theorem dX12_undo_13 : decode cX12_undo 13 = .ok (.iconst 1, 1) := by decide +kernel
theorem dX12_undo_14 : decode cX12_undo 14 = .ok (.isub, 1) := by decide +kernel
theorem dX12_undo_15 : decode cX12_undo 15 = .ok (.putfield 346, 3) := by decide +kernel
theorem dX12_undo_18 : decode cX12_undo 18 = .ok (.aload_n 0, 1) := by decide +kernel
theorem dX12_undo_19 : decode cX12_undo 19 = .ok (.getfield 16, 3) := by decide +kernel
theorem dX12_undo_22 : decode cX12_undo 22 = .ok (.bipush 8, 2) := by decide +kernel
theorem dX12_undo_24 : decode cX12_undo 24 = .ok (.aload_n 0, 1) := by decide +kernel
theorem dX12_undo_25 : decode cX12_undo 25 = .ok (.getfield 66, 3) := by decide +kernel
theorem dX12_undo_28 : decode cX12_undo 28 = .ok (.aload_n 0, 1) := by decide +kernel
theorem dX12_undo_29 : decode cX12_undo 29 = .ok (.getfield 346, 3) := by decide +kernel
theorem dX12_undo_32 : decode cX12_undo 32 = .ok (.iaload, 1) := by decide +kernel
theorem dX12_undo_33 : decode cX12_undo 33 = .ok (.imul, 1) := by decide +kernel
theorem dX12_undo_34 : decode cX12_undo 34 = .ok (.aload_n 0, 1) := by decide +kernel
theorem dX12_undo_35 : decode cX12_undo 35 = .ok (.getfield 72, 3) := by decide +kernel
theorem dX12_undo_38 : decode cX12_undo 38 = .ok (.aload_n 0, 1) := by decide +kernel
theorem dX12_undo_39 : decode cX12_undo 39 = .ok (.getfield 346, 3) := by decide +kernel
theorem dX12_undo_42 : decode cX12_undo 42 = .ok (.iaload, 1) := by decide +kernel
theorem dX12_undo_43 : decode cX12_undo 43 = .ok (.iadd, 1) := by decide +kernel
theorem dX12_undo_44 : decode cX12_undo 44 = .ok (.dup2, 1) := by decide +kernel
theorem dX12_undo_45 : decode cX12_undo 45 = .ok (.iaload, 1) := by decide +kernel
theorem dX12_undo_46 : decode cX12_undo 46 = .ok (.aload_n 0, 1) := by decide +kernel
theorem dX12_undo_47 : decode cX12_undo 47 = .ok (.getfield 75, 3) := by decide +kernel
theorem dX12_undo_50 : decode cX12_undo 50 = .ok (.aload_n 0, 1) := by decide +kernel
theorem dX12_undo_51 : decode cX12_undo 51 = .ok (.getfield 346, 3) := by decide +kernel
theorem dX12_undo_54 : decode cX12_undo 54 = .ok (.iaload, 1) := by decide +kernel
theorem dX12_undo_55 : decode cX12_undo 55 = .ok (.iadd, 1) := by decide +kernel
theorem dX12_undo_56 : decode cX12_undo 56 = .ok (.iastore, 1) := by decide +kernel
theorem dX12_undo_57 : decode cX12_undo 57 = .ok (.aload_n 0, 1) := by decide +kernel
theorem dX12_undo_58 : decode cX12_undo 58 = .ok (.getfield 16, 3) := by decide +kernel
theorem dX12_undo_61 : decode cX12_undo 61 = .ok (.bipush 8, 2) := by decide +kernel
theorem dX12_undo_63 : decode cX12_undo 63 = .ok (.aload_n 0, 1) := by decide +kernel
theorem dX12_undo_64 : decode cX12_undo 64 = .ok (.getfield 69, 3) := by decide +kernel
theorem dX12_undo_67 : decode cX12_undo 67 = .ok (.aload_n 0, 1) := by decide +kernel
theorem dX12_undo_68 : decode cX12_undo 68 = .ok (.getfield 346, 3) := by decide +kernel
theorem dX12_undo_71 : decode cX12_undo 71 = .ok (.iaload, 1) := by decide +kernel
theorem dX12_undo_72 : decode cX12_undo 72 = .ok (.imul, 1) := by decide +kernel
theorem dX12_undo_73 : decode cX12_undo 73 = .ok (.aload_n 0, 1) := by decide +kernel
theorem dX12_undo_74 : decode cX12_undo 74 = .ok (.getfield 72, 3) := by decide +kernel
theorem dX12_undo_77 : decode cX12_undo 77 = .ok (.aload_n 0, 1) := by decide +kernel
theorem dX12_undo_78 : decode cX12_undo 78 = .ok (.getfield 346, 3) := by decide +kernel
theorem dX12_undo_81 : decode cX12_undo 81 = .ok (.iaload, 1) := by decide +kernel
theorem dX12_undo_82 : decode cX12_undo 82 = .ok (.iadd, 1) := by decide +kernel
theorem dX12_undo_83 : decode cX12_undo 83 = .ok (.dup2, 1) := by decide +kernel
theorem dX12_undo_84 : decode cX12_undo 84 = .ok (.iaload, 1) := by decide +kernel
theorem dX12_undo_85 : decode cX12_undo 85 = .ok (.aload_n 0, 1) := by decide +kernel
theorem dX12_undo_86 : decode cX12_undo 86 = .ok (.getfield 75, 3) := by decide +kernel
theorem dX12_undo_89 : decode cX12_undo 89 = .ok (.aload_n 0, 1) := by decide +kernel
theorem dX12_undo_90 : decode cX12_undo 90 = .ok (.getfield 346, 3) := by decide +kernel
theorem dX12_undo_93 : decode cX12_undo 93 = .ok (.iaload, 1) := by decide +kernel
theorem dX12_undo_94 : decode cX12_undo 94 = .ok (.isub, 1) := by decide +kernel
theorem dX12_undo_95 : decode cX12_undo 95 = .ok (.iastore, 1) := by decide +kernel
theorem dX12_undo_96 : decode cX12_undo 96 = .ok (.goto (-96), 3) := by decide +kernel
theorem dX12_undo_99 : decode cX12_undo 99 = .ok (.iload_n 2, 1) := by decide +kernel
theorem dX12_undo_100 : decode cX12_undo 100 = .ok (.istore_n 3, 1) := by decide +kernel
theorem dX12_undo_101 : decode cX12_undo 101 = .ok (.iload_n 3, 1) := by decide +kernel
theorem dX12_undo_102 : decode cX12_undo 102 = .ok (.aload_n 0, 1) := by decide +kernel
theorem dX12_undo_103 : decode cX12_undo 103 = .ok (.getfield 352, 3) := by decide +kernel
theorem dX12_undo_106 : decode cX12_undo 106 = .ok (.if_icmp .ge 16, 3) := by decide +kernel
theorem dX12_undo_109 : decode cX12_undo 109 = .ok (.aload_n 0, 1) := by decide +kernel
theorem dX12_undo_110 : decode cX12_undo 110 = .ok (.getfield 51, 3) := by decide +kernel
theorem dX12_undo_113 : decode cX12_undo 113 = .ok (.iload_n 3, 1) := by decide +kernel
theorem dX12_undo_114 : decode cX12_undo 114 = .ok (.iconst 4, 1) := by decide +kernel
theorem dX12_undo_115 : decode cX12_undo 115 = .ok (.iastore, 1) := by decide +kernel
theorem dX12_undo_116 : decode cX12_undo 116 = .ok (.iinc 3 1, 3) := by decide +kernel
theorem dX12_undo_119 : decode cX12_undo 119 = .ok (.goto (-18), 3) := by decide +kernel
theorem dX12_undo_122 : decode cX12_undo 122 = .ok (.return_, 1) := by decide +kernel
theorem dX12_run_0 : decode cX12_run 0 = .ok (.aload_n 0, 1) := by decide +kernel
theorem dX12_run_1 : decode cX12_run 1 = .ok (.getfield 42, 3) := by decide +kernel
theorem dX12_run_4 : decode cX12_run 4 = .ok (.iload_n 1, 1) := by decide +kernel
theorem dX12_run_5 : decode cX12_run 5 = .ok (.iaload, 1) := by decide +kernel
theorem dX12_run_6 : decode cX12_run 6 = .ok (.istore_n 2, 1) := by decide +kernel
theorem dX12_run_7 : decode cX12_run 7 = .ok (.aload_n 0, 1) := by decide +kernel
theorem dX12_run_8 : decode cX12_run 8 = .ok (.iload_n 2, 1) := by decide +kernel
theorem dX12_run_9 : decode cX12_run 9 = .ok (.invokevirtual 191, 3) := by decide +kernel
theorem dX12_run_12 : decode cX12_run 12 = .ok (.iconst (-1), 1) := by decide +kernel
theorem dX12_run_13 : decode cX12_run 13 = .ok (.if_icmp .ne 7, 3) := by decide +kernel
theorem dX12_run_16 : decode cX12_run 16 = .ok (.iconst 1, 1) := by decide +kernel
theorem dX12_run_17 : decode cX12_run 17 = .ok (.goto 4, 3) := by decide +kernel
theorem dX12_run_20 : decode cX12_run 20 = .ok (.iconst 0, 1) := by decide +kernel
theorem dX12_run_21 : decode cX12_run 21 = .ok (.istore_n 3, 1) := by decide +kernel
theorem dX12_run_22 : decode cX12_run 22 = .ok (.aload_n 0, 1) := by decide +kernel
theorem dX12_run_23 : decode cX12_run 23 = .ok (.iload_n 1, 1) := by decide +kernel
theorem dX12_run_24 : decode cX12_run 24 = .ok (.putfield 220, 3) := by decide +kernel
theorem dX12_run_27 : decode cX12_run 27 = .ok (.aload_n 0, 1) := by decide +kernel
theorem dX12_run_28 : decode cX12_run 28 = .ok (.aload_n 0, 1) := by decide +kernel
theorem dX12_run_29 : decode cX12_run 29 = .ok (.getfield 39, 3) := by decide +kernel
theorem dX12_run_32 : decode cX12_run 32 = .ok (.iload_n 1, 1) := by decide +kernel
theorem dX12_run_33 : decode cX12_run 33 = .ok (.iaload, 1) := by decide +kernel
theorem dX12_run_34 : decode cX12_run 34 = .ok (.putfield 223, 3) := by decide +kernel
theorem dX12_run_37 : decode cX12_run 37 = .ok (.aload_n 0, 1) := by decide +kernel
theorem dX12_run_38 : decode cX12_run 38 = .ok (.iconst 0, 1) := by decide +kernel
theorem dX12_run_39 : decode cX12_run 39 = .ok (.putfield 217, 3) := by decide +kernel
theorem dX12_run_42 : decode cX12_run 42 = .ok (.aload_n 0, 1) := by decide +kernel
theorem dX12_run_43 : decode cX12_run 43 = .ok (.iconst 0, 1) := by decide +kernel
theorem dX12_run_44 : decode cX12_run 44 = .ok (.putfield 214, 3) := by decide +kernel
theorem dX12_run_47 : decode cX12_run 47 = .ok (.aload_n 0, 1) := by decide +kernel
theorem dX12_run_48 : decode cX12_run 48 = .ok (.getfield 51, 3) := by decide +kernel
theorem dX12_run_51 : decode cX12_run 51 = .ok (.iload_n 1, 1) := by decide +kernel
theorem dX12_run_52 : decode cX12_run 52 = .ok (.iload_n 3, 1) := by decide +kernel
theorem dX12_run_53 : decode cX12_run 53 = .ok (.ifCond .eq 7, 3) := by decide +kernel
theorem dX12_run_56 : decode cX12_run 56 = .ok (.iconst 1, 1) := by decide +kernel
theorem dX12_run_57 : decode cX12_run 57 = .ok (.goto 4, 3) := by decide +kernel
theorem dX12_run_60 : decode cX12_run 60 = .ok (.iconst 3, 1) := by decide +kernel
theorem dX12_run_61 : decode cX12_run 61 = .ok (.iastore, 1) := by decide +kernel
theorem dX12_run_62 : decode cX12_run 62 = .ok (.aload_n 0, 1) := by decide +kernel
theorem dX12_run_63 : decode cX12_run 63 = .ok (.getfield 54, 3) := by decide +kernel
theorem dX12_run_66 : decode cX12_run 66 = .ok (.iload_n 1, 1) := by decide +kernel
theorem dX12_run_67 : decode cX12_run 67 = .ok (.iload_n 3, 1) := by decide +kernel
theorem dX12_run_68 : decode cX12_run 68 = .ok (.ifCond .eq 7, 3) := by decide +kernel
theorem dX12_run_71 : decode cX12_run 71 = .ok (.iconst 0, 1) := by decide +kernel
theorem dX12_run_72 : decode cX12_run 72 = .ok (.goto 4, 3) := by decide +kernel
theorem dX12_run_75 : decode cX12_run 75 = .ok (.iconst 1, 1) := by decide +kernel
theorem dX12_run_76 : decode cX12_run 76 = .ok (.iastore, 1) := by decide +kernel
theorem dX12_run_77 : decode cX12_run 77 = .ok (.iload_n 3, 1) := by decide +kernel
theorem dX12_run_78 : decode cX12_run 78 = .ok (.ifCond .eq 12, 3) := by decide +kernel
theorem dX12_run_81 : decode cX12_run 81 = .ok (.aload_n 0, 1) := by decide +kernel
theorem dX12_run_82 : decode cX12_run 82 = .ok (.iload_n 2, 1) := by decide +kernel
theorem dX12_run_83 : decode cX12_run 83 = .ok (.iconst 0, 1) := by decide +kernel
theorem dX12_run_84 : decode cX12_run 84 = .ok (.invokevirtual 198, 3) := by decide +kernel
theorem dX12_run_87 : decode cX12_run 87 = .ok (.goto 4, 3) := by decide +kernel
theorem dX12_run_90 : decode cX12_run 90 = .ok (.iconst (-1), 1) := by decide +kernel
theorem dX12_run_91 : decode cX12_run 91 = .ok (.istore 4, 2) := by decide +kernel
theorem dX12_run_93 : decode cX12_run 93 = .ok (.iconst 0, 1) := by decide +kernel
theorem dX12_run_94 : decode cX12_run 94 = .ok (.istore 5, 2) := by decide +kernel
theorem dX12_run_96 : decode cX12_run 96 = .ok (.iload 5, 2) := by decide +kernel
theorem dX12_run_98 : decode cX12_run 98 = .ok (.aload_n 0, 1) := by decide +kernel
theorem dX12_run_99 : decode cX12_run 99 = .ok (.getfield 57, 3) := by decide +kernel
theorem dX12_run_102 : decode cX12_run 102 = .ok (.iload_n 1, 1) := by decide +kernel
theorem dX12_run_103 : decode cX12_run 103 = .ok (.iaload, 1) := by decide +kernel
theorem dX12_run_104 : decode cX12_run 104 = .ok (.if_icmp .ge 24, 3) := by decide +kernel
theorem dX12_run_107 : decode cX12_run 107 = .ok (.iload 4, 2) := by decide +kernel
theorem dX12_run_109 : decode cX12_run 109 = .ok (.iconst (-1), 1) := by decide +kernel
theorem dX12_run_110 : decode cX12_run 110 = .ok (.if_icmp .eq 18, 3) := by decide +kernel
theorem dX12_run_113 : decode cX12_run 113 = .ok (.aload_n 0, 1) := by decide +kernel
theorem dX12_run_114 : decode cX12_run 114 = .ok (.iload_n 2, 1) := by decide +kernel
theorem dX12_run_115 : decode cX12_run 115 = .ok (.iload 4, 2) := by decide +kernel
theorem dX12_run_117 : decode cX12_run 117 = .ok (.invokevirtual 201, 3) := by decide +kernel
theorem dX12_run_120 : decode cX12_run 120 = .ok (.istore 4, 2) := by decide +kernel
theorem dX12_run_122 : decode cX12_run 122 = .ok (.iinc 5 1, 3) := by decide +kernel
theorem dX12_run_125 : decode cX12_run 125 = .ok (.goto (-29), 3) := by decide +kernel
theorem dX12_run_128 : decode cX12_run 128 = .ok (.iload 4, 2) := by decide +kernel
theorem dX12_run_130 : decode cX12_run 130 = .ok (.iconst (-1), 1) := by decide +kernel
theorem dX12_run_131 : decode cX12_run 131 = .ok (.if_icmp .eq 118, 3) := by decide +kernel
theorem dX12_run_134 : decode cX12_run 134 = .ok (.aload_n 0, 1) := by decide +kernel
theorem dX12_run_135 : decode cX12_run 135 = .ok (.getfield 346, 3) := by decide +kernel
theorem dX12_run_138 : decode cX12_run 138 = .ok (.istore 5, 2) := by decide +kernel
theorem dX12_run_140 : decode cX12_run 140 = .ok (.aload_n 0, 1) := by decide +kernel
theorem dX12_run_141 : decode cX12_run 141 = .ok (.getfield 352, 3) := by decide +kernel
theorem dX12_run_144 : decode cX12_run 144 = .ok (.istore 6, 2) := by decide +kernel
theorem dX12_run_146 : decode cX12_run 146 = .ok (.aload_n 0, 1) := by decide +kernel
theorem dX12_run_147 : decode cX12_run 147 = .ok (.iload_n 2, 1) := by decide +kernel
theorem dX12_run_148 : decode cX12_run 148 = .ok (.iload 4, 2) := by decide +kernel
theorem dX12_run_150 : decode cX12_run 150 = .ok (.invokevirtual 362, 3) := by decide +kernel
theorem dX12_run_153 : decode cX12_run 153 = .ok (.aload_n 0, 1) := by decide +kernel
theorem dX12_run_154 : decode cX12_run 154 = .ok (.getfield 257, 3) := by decide +kernel
theorem dX12_run_157 : decode cX12_run 157 = .ok (.ifCond .ne 35, 3) := by decide +kernel
theorem dX12_run_160 : decode cX12_run 160 = .ok (.aload_n 0, 1) := by decide +kernel
theorem dX12_run_161 : decode cX12_run 161 = .ok (.getfield 57, 3) := by decide +kernel
theorem dX12_run_164 : decode cX12_run 164 = .ok (.iload_n 1, 1) := by decide +kernel
theorem dX12_run_165 : decode cX12_run 165 = .ok (.dup2, 1) := by decide +kernel
theorem dX12_run_166 : decode cX12_run 166 = .ok (.iaload, 1) := by decide +kernel
theorem dX12_run_167 : decode cX12_run 167 = .ok (.iconst 1, 1) := by decide +kernel
theorem dX12_run_168 : decode cX12_run 168 = .ok (.iadd, 1) := by decide +kernel
theorem dX12_run_169 : decode cX12_run 169 = .ok (.iastore, 1) := by decide +kernel
theorem dX12_run_170 : decode cX12_run 170 = .ok (.aload_n 0, 1) := by decide +kernel
theorem dX12_run_171 : decode cX12_run 171 = .ok (.getfield 60, 3) := by decide +kernel
theorem dX12_run_174 : decode cX12_run 174 = .ok (.iload_n 1, 1) := by decide +kernel
theorem dX12_run_175 : decode cX12_run 175 = .ok (.aload_n 0, 1) := by decide +kernel
theorem dX12_run_176 : decode cX12_run 176 = .ok (.getfield 232, 3) := by decide +kernel
theorem dX12_run_179 : decode cX12_run 179 = .ok (.iastore, 1) := by decide +kernel
theorem dX12_run_180 : decode cX12_run 180 = .ok (.aload_n 0, 1) := by decide +kernel
theorem dX12_run_181 : decode cX12_run 181 = .ok (.iload_n 2, 1) := by decide +kernel
theorem dX12_run_182 : decode cX12_run 182 = .ok (.iload 4, 2) := by decide +kernel
theorem dX12_run_184 : decode cX12_run 184 = .ok (.invokevirtual 201, 3) := by decide +kernel
theorem dX12_run_187 : decode cX12_run 187 = .ok (.istore 4, 2) := by decide +kernel
theorem dX12_run_189 : decode cX12_run 189 = .ok (.goto 57, 3) := by decide +kernel
theorem dX12_run_192 : decode cX12_run 192 = .ok (.aload_n 0, 1) := by decide +kernel
theorem dX12_run_193 : decode cX12_run 193 = .ok (.iload 5, 2) := by decide +kernel
theorem dX12_run_195 : decode cX12_run 195 = .ok (.iload 6, 2) := by decide +kernel
theorem dX12_run_197 : decode cX12_run 197 = .ok (.invokevirtual 365, 3) := by decide +kernel
theorem dX12_run_200 : decode cX12_run 200 = .ok (.aload_n 0, 1) := by decide +kernel
theorem dX12_run_201 : decode cX12_run 201 = .ok (.getfield 51, 3) := by decide +kernel
theorem dX12_run_204 : decode cX12_run 204 = .ok (.iload_n 1, 1) := by decide +kernel
theorem dX12_run_205 : decode cX12_run 205 = .ok (.aload_n 0, 1) := by decide +kernel
theorem dX12_run_206 : decode cX12_run 206 = .ok (.getfield 257, 3) := by decide +kernel
theorem dX12_run_209 : decode cX12_run 209 = .ok (.bipush 7, 2) := by decide +kernel
theorem dX12_run_211 : decode cX12_run 211 = .ok (.if_icmp .ne 7, 3) := by decide +kernel
theorem dX12_run_214 : decode cX12_run 214 = .ok (.iconst 2, 1) := by decide +kernel
theorem dX12_run_215 : decode cX12_run 215 = .ok (.goto 4, 3) := by decide +kernel
theorem dX12_run_218 : decode cX12_run 218 = .ok (.iconst 3, 1) := by decide +kernel
theorem dX12_run_219 : decode cX12_run 219 = .ok (.iastore, 1) := by decide +kernel
theorem dX12_run_220 : decode cX12_run 220 = .ok (.aload_n 0, 1) := by decide +kernel
theorem dX12_run_221 : decode cX12_run 221 = .ok (.getfield 54, 3) := by decide +kernel
theorem dX12_run_224 : decode cX12_run 224 = .ok (.iload_n 1, 1) := by decide +kernel
theorem dX12_run_225 : decode cX12_run 225 = .ok (.aload_n 0, 1) := by decide +kernel
theorem dX12_run_226 : decode cX12_run 226 = .ok (.getfield 257, 3) := by decide +kernel
theorem dX12_run_229 : decode cX12_run 229 = .ok (.bipush 7, 2) := by decide +kernel
theorem dX12_run_231 : decode cX12_run 231 = .ok (.if_icmp .ne 7, 3) := by decide +kernel
theorem dX12_run_234 : decode cX12_run 234 = .ok (.iconst 0, 1) := by decide +kernel
theorem dX12_run_235 : decode cX12_run 235 = .ok (.goto 7, 3) := by decide +kernel
theorem dX12_run_238 : decode cX12_run 238 = .ok (.aload_n 0, 1) := by decide +kernel
theorem dX12_run_239 : decode cX12_run 239 = .ok (.getfield 257, 3) := by decide +kernel
theorem dX12_run_242 : decode cX12_run 242 = .ok (.iastore, 1) := by decide +kernel
theorem dX12_run_243 : decode cX12_run 243 = .ok (.iconst (-1), 1) := by decide +kernel
theorem dX12_run_244 : decode cX12_run 244 = .ok (.istore 4, 2) := by decide +kernel
theorem dX12_run_246 : decode cX12_run 246 = .ok (.goto (-118), 3) := by decide +kernel
theorem dX12_run_249 : decode cX12_run 249 = .ok (.return_, 1) := by decide +kernel
theorem dX12_order_0 : decode cX12_order 0 = .ok (.iload_n 1, 1) := by decide +kernel
theorem dX12_order_1 : decode cX12_order 1 = .ok (.invokestatic 339, 3) := by decide +kernel
theorem dX12_order_4 : decode cX12_order 4 = .ok (.ifCond .eq 36, 3) := by decide +kernel
theorem dX12_order_7 : decode cX12_order 7 = .ok (.iload_n 2, 1) := by decide +kernel
theorem dX12_order_8 : decode cX12_order 8 = .ok (.invokestatic 178, 3) := by decide +kernel
theorem dX12_order_11 : decode cX12_order 11 = .ok (.ifCond .eq 29, 3) := by decide +kernel
theorem dX12_order_14 : decode cX12_order 14 = .ok (.iload_n 3, 1) := by decide +kernel
theorem dX12_order_15 : decode cX12_order 15 = .ok (.iconst 1, 1) := by decide +kernel
theorem dX12_order_16 : decode cX12_order 16 = .ok (.bipush 100, 2) := by decide +kernel
theorem dX12_order_18 : decode cX12_order 18 = .ok (.invokestatic 167, 3) := by decide +kernel
theorem dX12_order_21 : decode cX12_order 21 = .ok (.ifCond .eq 19, 3) := by decide +kernel
theorem dX12_order_24 : decode cX12_order 24 = .ok (.iload 4, 2) := by decide +kernel
theorem dX12_order_26 : decode cX12_order 26 = .ok (.iconst 1, 1) := by decide +kernel
theorem dX12_order_27 : decode cX12_order 27 = .ok (.sipush 1000, 3) := by decide +kernel
theorem dX12_order_30 : decode cX12_order 30 = .ok (.invokestatic 167, 3) := by decide +kernel
theorem dX12_order_33 : decode cX12_order 33 = .ok (.ifCond .eq 7, 3) := by decide +kernel
theorem dX12_order_36 : decode cX12_order 36 = .ok (.iconst 1, 1) := by decide +kernel
theorem dX12_order_37 : decode cX12_order 37 = .ok (.goto 4, 3) := by decide +kernel
theorem dX12_order_40 : decode cX12_order 40 = .ok (.iconst 0, 1) := by decide +kernel
theorem dX12_order_41 : decode cX12_order 41 = .ok (.istore 5, 2) := by decide +kernel
theorem dX12_order_43 : decode cX12_order 43 = .ok (.aload_n 0, 1) := by decide +kernel
theorem dX12_order_44 : decode cX12_order 44 = .ok (.iload 5, 2) := by decide +kernel
theorem dX12_order_46 : decode cX12_order 46 = .ok (.ifCond .ne 7, 3) := by decide +kernel
theorem dX12_order_49 : decode cX12_order 49 = .ok (.iconst 1, 1) := by decide +kernel
theorem dX12_order_50 : decode cX12_order 50 = .ok (.goto 17, 3) := by decide +kernel
theorem dX12_order_53 : decode cX12_order 53 = .ok (.aload_n 0, 1) := by decide +kernel
theorem dX12_order_54 : decode cX12_order 54 = .ok (.getfield 352, 3) := by decide +kernel
theorem dX12_order_57 : decode cX12_order 57 = .ok (.bipush 60, 2) := by decide +kernel
theorem dX12_order_59 : decode cX12_order 59 = .ok (.if_icmp .ne 7, 3) := by decide +kernel
theorem dX12_order_62 : decode cX12_order 62 = .ok (.iconst 2, 1) := by decide +kernel
theorem dX12_order_63 : decode cX12_order 63 = .ok (.goto 4, 3) := by decide +kernel
theorem dX12_order_66 : decode cX12_order 66 = .ok (.iconst 0, 1) := by decide +kernel
theorem dX12_order_67 : decode cX12_order 67 = .ok (.invokevirtual 181, 3) := by decide +kernel
theorem dX12_order_70 : decode cX12_order 70 = .ok (.ifCond .ne 5, 3) := by decide +kernel
theorem dX12_order_73 : decode cX12_order 73 = .ok (.iconst 0, 1) := by decide +kernel
theorem dX12_order_74 : decode cX12_order 74 = .ok (.ireturn, 1) := by decide +kernel
theorem dX12_order_75 : decode cX12_order 75 = .ok (.aload_n 0, 1) := by decide +kernel
theorem dX12_order_76 : decode cX12_order 76 = .ok (.iload_n 1, 1) := by decide +kernel
theorem dX12_order_77 : decode cX12_order 77 = .ok (.iload_n 2, 1) := by decide +kernel
theorem dX12_order_78 : decode cX12_order 78 = .ok (.aload_n 0, 1) := by decide +kernel
theorem dX12_order_79 : decode cX12_order 79 = .ok (.getfield 349, 3) := by decide +kernel
theorem dX12_order_82 : decode cX12_order 82 = .ok (.iload_n 3, 1) := by decide +kernel
theorem dX12_order_83 : decode cX12_order 83 = .ok (.iadd, 1) := by decide +kernel
theorem dX12_order_84 : decode cX12_order 84 = .ok (.iload 4, 2) := by decide +kernel
theorem dX12_order_86 : decode cX12_order 86 = .ok (.invokevirtual 355, 3) := by decide +kernel
theorem dX12_order_89 : decode cX12_order 89 = .ok (.ireturn, 1) := by decide +kernel
theorem dX12_pass_0 : decode cX12_pass 0 = .ok (.iload_n 1, 1) := by decide +kernel
theorem dX12_pass_1 : decode cX12_pass 1 = .ok (.iconst 1, 1) := by decide +kernel
theorem dX12_pass_2 : decode cX12_pass 2 = .ok (.bipush 100, 2) := by decide +kernel
theorem dX12_pass_4 : decode cX12_pass 4 = .ok (.invokestatic 167, 3) := by decide +kernel
theorem dX12_pass_7 : decode cX12_pass 7 = .ok (.istore_n 2, 1) := by decide +kernel
theorem dX12_pass_8 : decode cX12_pass 8 = .ok (.aload_n 0, 1) := by decide +kernel
theorem dX12_pass_9 : decode cX12_pass 9 = .ok (.iload_n 2, 1) := by decide +kernel
theorem dX12_pass_10 : decode cX12_pass 10 = .ok (.ifCond .ne 7, 3) := by decide +kernel
theorem dX12_pass_13 : decode cX12_pass 13 = .ok (.iconst 1, 1) := by decide +kernel
theorem dX12_pass_14 : decode cX12_pass 14 = .ok (.goto 20, 3) := by decide +kernel
theorem dX12_pass_17 : decode cX12_pass 17 = .ok (.aload_n 0, 1) := by decide +kernel
theorem dX12_pass_18 : decode cX12_pass 18 = .ok (.getfield 349, 3) := by decide +kernel
theorem dX12_pass_21 : decode cX12_pass 21 = .ok (.iload_n 1, 1) := by decide +kernel
theorem dX12_pass_22 : decode cX12_pass 22 = .ok (.iadd, 1) := by decide +kernel
theorem dX12_pass_23 : decode cX12_pass 23 = .ok (.sipush 1000, 3) := by decide +kernel
theorem dX12_pass_26 : decode cX12_pass 26 = .ok (.if_icmp .le 7, 3) := by decide +kernel
theorem dX12_pass_29 : decode cX12_pass 29 = .ok (.iconst 2, 1) := by decide +kernel
theorem dX12_pass_30 : decode cX12_pass 30 = .ok (.goto 4, 3) := by decide +kernel
theorem dX12_pass_33 : decode cX12_pass 33 = .ok (.iconst 0, 1) := by decide +kernel
theorem dX12_pass_34 : decode cX12_pass 34 = .ok (.invokevirtual 181, 3) := by decide +kernel
theorem dX12_pass_37 : decode cX12_pass 37 = .ok (.ifCond .ne 5, 3) := by decide +kernel
theorem dX12_pass_40 : decode cX12_pass 40 = .ok (.iconst 0, 1) := by decide +kernel
theorem dX12_pass_41 : decode cX12_pass 41 = .ok (.ireturn, 1) := by decide +kernel
theorem dX12_pass_42 : decode cX12_pass 42 = .ok (.iconst 0, 1) := by decide +kernel
theorem dX12_pass_43 : decode cX12_pass 43 = .ok (.istore_n 3, 1) := by decide +kernel
theorem dX12_pass_44 : decode cX12_pass 44 = .ok (.iconst 0, 1) := by decide +kernel
theorem dX12_pass_45 : decode cX12_pass 45 = .ok (.istore 4, 2) := by decide +kernel
theorem dX12_pass_47 : decode cX12_pass 47 = .ok (.iload 4, 2) := by decide +kernel
theorem dX12_pass_49 : decode cX12_pass 49 = .ok (.iload_n 1, 1) := by decide +kernel
theorem dX12_pass_50 : decode cX12_pass 50 = .ok (.if_icmp .ge 70, 3) := by decide +kernel
theorem dX12_pass_53 : decode cX12_pass 53 = .ok (.aload_n 0, 1) := by decide +kernel
theorem dX12_pass_54 : decode cX12_pass 54 = .ok (.dup, 1) := by decide +kernel
theorem dX12_pass_55 : decode cX12_pass 55 = .ok (.getfield 349, 3) := by decide +kernel
theorem dX12_pass_58 : decode cX12_pass 58 = .ok (.iconst 1, 1) := by decide +kernel
theorem dX12_pass_59 : decode cX12_pass 59 = .ok (.iadd, 1) := by decide +kernel
theorem dX12_pass_60 : decode cX12_pass 60 = .ok (.putfield 349, 3) := by decide +kernel
theorem dX12_pass_63 : decode cX12_pass 63 = .ok (.iconst 0, 1) := by decide +kernel
theorem dX12_pass_64 : decode cX12_pass 64 = .ok (.istore 5, 2) := by decide +kernel
theorem dX12_pass_66 : decode cX12_pass 66 = .ok (.iload 5, 2) := by decide +kernel
theorem dX12_pass_68 : decode cX12_pass 68 = .ok (.aload_n 0, 1) := by decide +kernel
theorem dX12_pass_69 : decode cX12_pass 69 = .ok (.getfield 352, 3) := by decide +kernel
theorem dX12_pass_72 : decode cX12_pass 72 = .ok (.if_icmp .ge 42, 3) := by decide +kernel
theorem dX12_pass_75 : decode cX12_pass 75 = .ok (.aload_n 0, 1) := by decide +kernel
theorem dX12_pass_76 : decode cX12_pass 76 = .ok (.getfield 51, 3) := by decide +kernel
theorem dX12_pass_79 : decode cX12_pass 79 = .ok (.iload 5, 2) := by decide +kernel
theorem dX12_pass_81 : decode cX12_pass 81 = .ok (.iaload, 1) := by decide +kernel
theorem dX12_pass_82 : decode cX12_pass 82 = .ok (.ifCond .ne 26, 3) := by decide +kernel
theorem dX12_pass_85 : decode cX12_pass 85 = .ok (.aload_n 0, 1) := by decide +kernel
theorem dX12_pass_86 : decode cX12_pass 86 = .ok (.getfield 45, 3) := by decide +kernel
theorem dX12_pass_89 : decode cX12_pass 89 = .ok (.iload 5, 2) := by decide +kernel
theorem dX12_pass_91 : decode cX12_pass 91 = .ok (.iaload, 1) := by decide +kernel
theorem dX12_pass_92 : decode cX12_pass 92 = .ok (.aload_n 0, 1) := by decide +kernel
theorem dX12_pass_93 : decode cX12_pass 93 = .ok (.getfield 349, 3) := by decide +kernel
theorem dX12_pass_96 : decode cX12_pass 96 = .ok (.if_icmp .ne 12, 3) := by decide +kernel
theorem dX12_pass_99 : decode cX12_pass 99 = .ok (.aload_n 0, 1) := by decide +kernel
theorem dX12_pass_100 : decode cX12_pass 100 = .ok (.iload 5, 2) := by decide +kernel
theorem dX12_pass_102 : decode cX12_pass 102 = .ok (.invokevirtual 368, 3) := by decide +kernel
theorem dX12_pass_105 : decode cX12_pass 105 = .ok (.iinc 3 1, 3) := by decide +kernel
theorem dX12_pass_108 : decode cX12_pass 108 = .ok (.iinc 5 1, 3) := by decide +kernel
theorem dX12_pass_111 : decode cX12_pass 111 = .ok (.goto (-45), 3) := by decide +kernel
theorem dX12_pass_114 : decode cX12_pass 114 = .ok (.iinc 4 1, 3) := by decide +kernel
theorem dX12_pass_117 : decode cX12_pass 117 = .ok (.goto (-70), 3) := by decide +kernel
theorem dX12_pass_120 : decode cX12_pass 120 = .ok (.iload_n 3, 1) := by decide +kernel
theorem dX12_pass_121 : decode cX12_pass 121 = .ok (.ireturn, 1) := by decide +kernel
theorem dX12_hour_0 : decode cX12_hour 0 = .ok (.aload_n 0, 1) := by decide +kernel
theorem dX12_hour_1 : decode cX12_hour 1 = .ok (.iconst 0, 1) := by decide +kernel
theorem dX12_hour_2 : decode cX12_hour 2 = .ok (.putfield 164, 3) := by decide +kernel
theorem dX12_hour_5 : decode cX12_hour 5 = .ok (.aload_n 0, 1) := by decide +kernel
theorem dX12_hour_6 : decode cX12_hour 6 = .ok (.getfield 349, 3) := by decide +kernel
theorem dX12_hour_9 : decode cX12_hour 9 = .ok (.ireturn, 1) := by decide +kernel
theorem dX12_isOrder_0 : decode cX12_isOrder 0 = .ok (.iload_n 1, 1) := by decide +kernel
theorem dX12_isOrder_1 : decode cX12_isOrder 1 = .ok (.iconst 0, 1) := by decide +kernel
theorem dX12_isOrder_2 : decode cX12_isOrder 2 = .ok (.aload_n 0, 1) := by decide +kernel
theorem dX12_isOrder_3 : decode cX12_isOrder 3 = .ok (.getfield 352, 3) := by decide +kernel
theorem dX12_isOrder_6 : decode cX12_isOrder 6 = .ok (.iconst 1, 1) := by decide +kernel
theorem dX12_isOrder_7 : decode cX12_isOrder 7 = .ok (.isub, 1) := by decide +kernel
theorem dX12_isOrder_8 : decode cX12_isOrder 8 = .ok (.invokestatic 167, 3) := by decide +kernel
theorem dX12_isOrder_11 : decode cX12_isOrder 11 = .ok (.ireturn, 1) := by decide +kernel
theorem dX12_takeUp_0 : decode cX12_takeUp 0 = .ok (.aload_n 0, 1) := by decide +kernel
theorem dX12_takeUp_1 : decode cX12_takeUp 1 = .ok (.iload_n 1, 1) := by decide +kernel
theorem dX12_takeUp_2 : decode cX12_takeUp 2 = .ok (.invokevirtual 371, 3) := by decide +kernel
theorem dX12_takeUp_5 : decode cX12_takeUp 5 = .ok (.istore_n 3, 1) := by decide +kernel
theorem dX12_takeUp_6 : decode cX12_takeUp 6 = .ok (.iload_n 3, 1) := by decide +kernel
theorem dX12_takeUp_7 : decode cX12_takeUp 7 = .ok (.ifCond .eq 27, 3) := by decide +kernel
theorem dX12_takeUp_10 : decode cX12_takeUp 10 = .ok (.aload_n 0, 1) := by decide +kernel
theorem dX12_takeUp_11 : decode cX12_takeUp 11 = .ok (.getfield 51, 3) := by decide +kernel
theorem dX12_takeUp_14 : decode cX12_takeUp 14 = .ok (.iload_n 1, 1) := by decide +kernel
theorem dX12_takeUp_15 : decode cX12_takeUp 15 = .ok (.iaload, 1) := by decide +kernel
theorem dX12_takeUp_16 : decode cX12_takeUp 16 = .ok (.iconst 2, 1) := by decide +kernel
theorem dX12_takeUp_17 : decode cX12_takeUp 17 = .ok (.if_icmp .eq 13, 3) := by decide +kernel
theorem dX12_takeUp_20 : decode cX12_takeUp 20 = .ok (.aload_n 0, 1) := by decide +kernel
theorem dX12_takeUp_21 : decode cX12_takeUp 21 = .ok (.getfield 51, 3) := by decide +kernel
theorem dX12_takeUp_24 : decode cX12_takeUp 24 = .ok (.iload_n 1, 1) := by decide +kernel
theorem dX12_takeUp_25 : decode cX12_takeUp 25 = .ok (.iaload, 1) := by decide +kernel
theorem dX12_takeUp_26 : decode cX12_takeUp 26 = .ok (.iconst 3, 1) := by decide +kernel
theorem dX12_takeUp_27 : decode cX12_takeUp 27 = .ok (.if_icmp .ne 7, 3) := by decide +kernel
theorem dX12_takeUp_30 : decode cX12_takeUp 30 = .ok (.iconst 1, 1) := by decide +kernel
theorem dX12_takeUp_31 : decode cX12_takeUp 31 = .ok (.goto 4, 3) := by decide +kernel
theorem dX12_takeUp_34 : decode cX12_takeUp 34 = .ok (.iconst 0, 1) := by decide +kernel
theorem dX12_takeUp_35 : decode cX12_takeUp 35 = .ok (.istore 4, 2) := by decide +kernel
theorem dX12_takeUp_37 : decode cX12_takeUp 37 = .ok (.aload_n 0, 1) := by decide +kernel
theorem dX12_takeUp_38 : decode cX12_takeUp 38 = .ok (.iload_n 3, 1) := by decide +kernel
theorem dX12_takeUp_39 : decode cX12_takeUp 39 = .ok (.ifCond .ne 7, 3) := by decide +kernel
theorem dX12_takeUp_42 : decode cX12_takeUp 42 = .ok (.iconst 1, 1) := by decide +kernel
theorem dX12_takeUp_43 : decode cX12_takeUp 43 = .ok (.goto 28, 3) := by decide +kernel
theorem dX12_takeUp_46 : decode cX12_takeUp 46 = .ok (.iload_n 2, 1) := by decide +kernel
theorem dX12_takeUp_47 : decode cX12_takeUp 47 = .ok (.iconst 1, 1) := by decide +kernel
theorem dX12_takeUp_48 : decode cX12_takeUp 48 = .ok (.sipush 1000, 3) := by decide +kernel
theorem dX12_takeUp_51 : decode cX12_takeUp 51 = .ok (.invokestatic 167, 3) := by decide +kernel
theorem dX12_takeUp_54 : decode cX12_takeUp 54 = .ok (.ifCond .ne 7, 3) := by decide +kernel
theorem dX12_takeUp_57 : decode cX12_takeUp 57 = .ok (.iconst 2, 1) := by decide +kernel
theorem dX12_takeUp_58 : decode cX12_takeUp 58 = .ok (.goto 13, 3) := by decide +kernel
theorem dX12_takeUp_61 : decode cX12_takeUp 61 = .ok (.iload 4, 2) := by decide +kernel
theorem dX12_takeUp_63 : decode cX12_takeUp 63 = .ok (.ifCond .eq 7, 3) := by decide +kernel
theorem dX12_takeUp_66 : decode cX12_takeUp 66 = .ok (.iconst 0, 1) := by decide +kernel
theorem dX12_takeUp_67 : decode cX12_takeUp 67 = .ok (.goto 4, 3) := by decide +kernel
theorem dX12_takeUp_70 : decode cX12_takeUp 70 = .ok (.iconst 3, 1) := by decide +kernel
theorem dX12_takeUp_71 : decode cX12_takeUp 71 = .ok (.invokevirtual 181, 3) := by decide +kernel
theorem dX12_takeUp_74 : decode cX12_takeUp 74 = .ok (.ifCond .ne 5, 3) := by decide +kernel
theorem dX12_takeUp_77 : decode cX12_takeUp 77 = .ok (.iconst 0, 1) := by decide +kernel
theorem dX12_takeUp_78 : decode cX12_takeUp 78 = .ok (.ireturn, 1) := by decide +kernel
theorem dX12_takeUp_79 : decode cX12_takeUp 79 = .ok (.aload_n 0, 1) := by decide +kernel
theorem dX12_takeUp_80 : decode cX12_takeUp 80 = .ok (.getfield 48, 3) := by decide +kernel
theorem dX12_takeUp_83 : decode cX12_takeUp 83 = .ok (.iload_n 1, 1) := by decide +kernel
theorem dX12_takeUp_84 : decode cX12_takeUp 84 = .ok (.iload_n 2, 1) := by decide +kernel
theorem dX12_takeUp_85 : decode cX12_takeUp 85 = .ok (.iastore, 1) := by decide +kernel
theorem dX12_takeUp_86 : decode cX12_takeUp 86 = .ok (.aload_n 0, 1) := by decide +kernel
theorem dX12_takeUp_87 : decode cX12_takeUp 87 = .ok (.iload_n 1, 1) := by decide +kernel
theorem dX12_takeUp_88 : decode cX12_takeUp 88 = .ok (.invokevirtual 368, 3) := by decide +kernel
theorem dX12_takeUp_91 : decode cX12_takeUp 91 = .ok (.aload_n 0, 1) := by decide +kernel
theorem dX12_takeUp_92 : decode cX12_takeUp 92 = .ok (.getfield 51, 3) := by decide +kernel
theorem dX12_takeUp_95 : decode cX12_takeUp 95 = .ok (.iload_n 1, 1) := by decide +kernel
theorem dX12_takeUp_96 : decode cX12_takeUp 96 = .ok (.iaload, 1) := by decide +kernel
theorem dX12_takeUp_97 : decode cX12_takeUp 97 = .ok (.ireturn, 1) := by decide +kernel
theorem dX12_orders_0 : decode cX12_orders 0 = .ok (.aload_n 0, 1) := by decide +kernel
theorem dX12_orders_1 : decode cX12_orders 1 = .ok (.iconst 0, 1) := by decide +kernel
theorem dX12_orders_2 : decode cX12_orders 2 = .ok (.putfield 164, 3) := by decide +kernel
theorem dX12_orders_5 : decode cX12_orders 5 = .ok (.aload_n 0, 1) := by decide +kernel
theorem dX12_orders_6 : decode cX12_orders 6 = .ok (.getfield 352, 3) := by decide +kernel
theorem dX12_orders_9 : decode cX12_orders 9 = .ok (.ireturn, 1) := by decide +kernel
theorem dX12_state_0 : decode cX12_state 0 = .ok (.aload_n 0, 1) := by decide +kernel
theorem dX12_state_1 : decode cX12_state 1 = .ok (.aload_n 0, 1) := by decide +kernel
theorem dX12_state_2 : decode cX12_state 2 = .ok (.iload_n 1, 1) := by decide +kernel
theorem dX12_state_3 : decode cX12_state 3 = .ok (.invokevirtual 371, 3) := by decide +kernel
theorem dX12_state_6 : decode cX12_state 6 = .ok (.ifCond .eq 7, 3) := by decide +kernel
theorem dX12_state_9 : decode cX12_state 9 = .ok (.iconst 0, 1) := by decide +kernel
theorem dX12_state_10 : decode cX12_state 10 = .ok (.goto 4, 3) := by decide +kernel
theorem dX12_state_13 : decode cX12_state 13 = .ok (.iconst 1, 1) := by decide +kernel
theorem dX12_state_14 : decode cX12_state 14 = .ok (.invokevirtual 181, 3) := by decide +kernel
theorem dX12_state_17 : decode cX12_state 17 = .ok (.ifCond .eq 12, 3) := by decide +kernel
theorem dX12_state_20 : decode cX12_state 20 = .ok (.aload_n 0, 1) := by decide +kernel
theorem dX12_state_21 : decode cX12_state 21 = .ok (.getfield 51, 3) := by decide +kernel
theorem dX12_state_24 : decode cX12_state 24 = .ok (.iload_n 1, 1) := by decide +kernel
theorem dX12_state_25 : decode cX12_state 25 = .ok (.iaload, 1) := by decide +kernel
theorem dX12_state_26 : decode cX12_state 26 = .ok (.goto 4, 3) := by decide +kernel
theorem dX12_state_29 : decode cX12_state 29 = .ok (.iconst 0, 1) := by decide +kernel
theorem dX12_state_30 : decode cX12_state 30 = .ok (.ireturn, 1) := by decide +kernel
theorem dX12_why_0 : decode cX12_why 0 = .ok (.aload_n 0, 1) := by decide +kernel
theorem dX12_why_1 : decode cX12_why 1 = .ok (.aload_n 0, 1) := by decide +kernel
theorem dX12_why_2 : decode cX12_why 2 = .ok (.iload_n 1, 1) := by decide +kernel
theorem dX12_why_3 : decode cX12_why 3 = .ok (.invokevirtual 371, 3) := by decide +kernel
theorem dX12_why_6 : decode cX12_why 6 = .ok (.ifCond .eq 7, 3) := by decide +kernel
theorem dX12_why_9 : decode cX12_why 9 = .ok (.iconst 0, 1) := by decide +kernel
theorem dX12_why_10 : decode cX12_why 10 = .ok (.goto 4, 3) := by decide +kernel
theorem dX12_why_13 : decode cX12_why 13 = .ok (.iconst 1, 1) := by decide +kernel
theorem dX12_why_14 : decode cX12_why 14 = .ok (.invokevirtual 181, 3) := by decide +kernel
theorem dX12_why_17 : decode cX12_why 17 = .ok (.ifCond .eq 22, 3) := by decide +kernel
theorem dX12_why_20 : decode cX12_why 20 = .ok (.aload_n 0, 1) := by decide +kernel
theorem dX12_why_21 : decode cX12_why 21 = .ok (.getfield 51, 3) := by decide +kernel
theorem dX12_why_24 : decode cX12_why 24 = .ok (.iload_n 1, 1) := by decide +kernel
theorem dX12_why_25 : decode cX12_why 25 = .ok (.iaload, 1) := by decide +kernel
theorem dX12_why_26 : decode cX12_why 26 = .ok (.iconst 3, 1) := by decide +kernel
theorem dX12_why_27 : decode cX12_why 27 = .ok (.if_icmp .ne 12, 3) := by decide +kernel
theorem dX12_why_30 : decode cX12_why 30 = .ok (.aload_n 0, 1) := by decide +kernel
theorem dX12_why_31 : decode cX12_why 31 = .ok (.getfield 54, 3) := by decide +kernel
theorem dX12_why_34 : decode cX12_why 34 = .ok (.iload_n 1, 1) := by decide +kernel
theorem dX12_why_35 : decode cX12_why 35 = .ok (.iaload, 1) := by decide +kernel
theorem dX12_why_36 : decode cX12_why 36 = .ok (.goto 4, 3) := by decide +kernel
theorem dX12_why_39 : decode cX12_why 39 = .ok (.iconst 0, 1) := by decide +kernel
theorem dX12_why_40 : decode cX12_why 40 = .ok (.ireturn, 1) := by decide +kernel
theorem dX12_done_0 : decode cX12_done 0 = .ok (.aload_n 0, 1) := by decide +kernel
theorem dX12_done_1 : decode cX12_done 1 = .ok (.aload_n 0, 1) := by decide +kernel
theorem dX12_done_2 : decode cX12_done 2 = .ok (.iload_n 1, 1) := by decide +kernel
theorem dX12_done_3 : decode cX12_done 3 = .ok (.invokevirtual 371, 3) := by decide +kernel
theorem dX12_done_6 : decode cX12_done 6 = .ok (.ifCond .eq 7, 3) := by decide +kernel
theorem dX12_done_9 : decode cX12_done 9 = .ok (.iconst 0, 1) := by decide +kernel
theorem dX12_done_10 : decode cX12_done 10 = .ok (.goto 4, 3) := by decide +kernel
theorem dX12_done_13 : decode cX12_done 13 = .ok (.iconst 1, 1) := by decide +kernel
theorem dX12_done_14 : decode cX12_done 14 = .ok (.invokevirtual 181, 3) := by decide +kernel
theorem dX12_done_17 : decode cX12_done 17 = .ok (.ifCond .eq 12, 3) := by decide +kernel
theorem dX12_done_20 : decode cX12_done 20 = .ok (.aload_n 0, 1) := by decide +kernel
theorem dX12_done_21 : decode cX12_done 21 = .ok (.getfield 57, 3) := by decide +kernel
theorem dX12_done_24 : decode cX12_done 24 = .ok (.iload_n 1, 1) := by decide +kernel
theorem dX12_done_25 : decode cX12_done 25 = .ok (.iaload, 1) := by decide +kernel
theorem dX12_done_26 : decode cX12_done 26 = .ok (.goto 4, 3) := by decide +kernel
theorem dX12_done_29 : decode cX12_done 29 = .ok (.iconst 0, 1) := by decide +kernel
theorem dX12_done_30 : decode cX12_done 30 = .ok (.ireturn, 1) := by decide +kernel
theorem dX12_value_0 : decode cX12_value 0 = .ok (.aload_n 0, 1) := by decide +kernel
theorem dX12_value_1 : decode cX12_value 1 = .ok (.aload_n 0, 1) := by decide +kernel
theorem dX12_value_2 : decode cX12_value 2 = .ok (.iload_n 1, 1) := by decide +kernel
theorem dX12_value_3 : decode cX12_value 3 = .ok (.invokevirtual 371, 3) := by decide +kernel
theorem dX12_value_6 : decode cX12_value 6 = .ok (.ifCond .eq 7, 3) := by decide +kernel
theorem dX12_value_9 : decode cX12_value 9 = .ok (.iconst 0, 1) := by decide +kernel
theorem dX12_value_10 : decode cX12_value 10 = .ok (.goto 4, 3) := by decide +kernel
theorem dX12_value_13 : decode cX12_value 13 = .ok (.iconst 1, 1) := by decide +kernel
theorem dX12_value_14 : decode cX12_value 14 = .ok (.invokevirtual 181, 3) := by decide +kernel
theorem dX12_value_17 : decode cX12_value 17 = .ok (.ifCond .eq 12, 3) := by decide +kernel
theorem dX12_value_20 : decode cX12_value 20 = .ok (.aload_n 0, 1) := by decide +kernel
theorem dX12_value_21 : decode cX12_value 21 = .ok (.getfield 60, 3) := by decide +kernel
theorem dX12_value_24 : decode cX12_value 24 = .ok (.iload_n 1, 1) := by decide +kernel
theorem dX12_value_25 : decode cX12_value 25 = .ok (.iaload, 1) := by decide +kernel
theorem dX12_value_26 : decode cX12_value 26 = .ok (.goto 4, 3) := by decide +kernel
theorem dX12_value_29 : decode cX12_value 29 = .ok (.iconst 0, 1) := by decide +kernel
theorem dX12_value_30 : decode cX12_value 30 = .ok (.ireturn, 1) := by decide +kernel
theorem dX12_used_0 : decode cX12_used 0 = .ok (.aload_n 0, 1) := by decide +kernel
theorem dX12_used_1 : decode cX12_used 1 = .ok (.aload_n 0, 1) := by decide +kernel
theorem dX12_used_2 : decode cX12_used 2 = .ok (.iload_n 1, 1) := by decide +kernel
theorem dX12_used_3 : decode cX12_used 3 = .ok (.invokevirtual 371, 3) := by decide +kernel
theorem dX12_used_6 : decode cX12_used 6 = .ok (.ifCond .eq 7, 3) := by decide +kernel
theorem dX12_used_9 : decode cX12_used 9 = .ok (.iconst 0, 1) := by decide +kernel
theorem dX12_used_10 : decode cX12_used 10 = .ok (.goto 4, 3) := by decide +kernel
theorem dX12_used_13 : decode cX12_used 13 = .ok (.iconst 1, 1) := by decide +kernel
theorem dX12_used_14 : decode cX12_used 14 = .ok (.invokevirtual 181, 3) := by decide +kernel
theorem dX12_used_17 : decode cX12_used 17 = .ok (.ifCond .eq 12, 3) := by decide +kernel
theorem dX12_used_20 : decode cX12_used 20 = .ok (.aload_n 0, 1) := by decide +kernel
theorem dX12_used_21 : decode cX12_used 21 = .ok (.getfield 63, 3) := by decide +kernel
theorem dX12_used_24 : decode cX12_used 24 = .ok (.iload_n 1, 1) := by decide +kernel
theorem dX12_used_25 : decode cX12_used 25 = .ok (.iaload, 1) := by decide +kernel
theorem dX12_used_26 : decode cX12_used 26 = .ok (.goto 4, 3) := by decide +kernel
theorem dX12_used_29 : decode cX12_used 29 = .ok (.iconst 0, 1) := by decide +kernel
theorem dX12_used_30 : decode cX12_used 30 = .ok (.ireturn, 1) := by decide +kernel
theorem dX12_hourOf_0 : decode cX12_hourOf 0 = .ok (.aload_n 0, 1) := by decide +kernel
theorem dX12_hourOf_1 : decode cX12_hourOf 1 = .ok (.aload_n 0, 1) := by decide +kernel
theorem dX12_hourOf_2 : decode cX12_hourOf 2 = .ok (.iload_n 1, 1) := by decide +kernel
theorem dX12_hourOf_3 : decode cX12_hourOf 3 = .ok (.invokevirtual 371, 3) := by decide +kernel
theorem dX12_hourOf_6 : decode cX12_hourOf 6 = .ok (.ifCond .eq 7, 3) := by decide +kernel
theorem dX12_hourOf_9 : decode cX12_hourOf 9 = .ok (.iconst 0, 1) := by decide +kernel
theorem dX12_hourOf_10 : decode cX12_hourOf 10 = .ok (.goto 4, 3) := by decide +kernel
theorem dX12_hourOf_13 : decode cX12_hourOf 13 = .ok (.iconst 1, 1) := by decide +kernel
theorem dX12_hourOf_14 : decode cX12_hourOf 14 = .ok (.invokevirtual 181, 3) := by decide +kernel
theorem dX12_hourOf_17 : decode cX12_hourOf 17 = .ok (.ifCond .eq 12, 3) := by decide +kernel
theorem dX12_hourOf_20 : decode cX12_hourOf 20 = .ok (.aload_n 0, 1) := by decide +kernel
theorem dX12_hourOf_21 : decode cX12_hourOf 21 = .ok (.getfield 45, 3) := by decide +kernel
theorem dX12_hourOf_24 : decode cX12_hourOf 24 = .ok (.iload_n 1, 1) := by decide +kernel
theorem dX12_hourOf_25 : decode cX12_hourOf 25 = .ok (.iaload, 1) := by decide +kernel
theorem dX12_hourOf_26 : decode cX12_hourOf 26 = .ok (.goto 4, 3) := by decide +kernel
theorem dX12_hourOf_29 : decode cX12_hourOf 29 = .ok (.iconst 0, 1) := by decide +kernel
theorem dX12_hourOf_30 : decode cX12_hourOf 30 = .ok (.ireturn, 1) := by decide +kernel
theorem dX12_leftBy_0 : decode cX12_leftBy 0 = .ok (.aload_n 0, 1) := by decide +kernel
theorem dX12_leftBy_1 : decode cX12_leftBy 1 = .ok (.iload_n 1, 1) := by decide +kernel
theorem dX12_leftBy_2 : decode cX12_leftBy 2 = .ok (.invokevirtual 371, 3) := by decide +kernel
theorem dX12_leftBy_5 : decode cX12_leftBy 5 = .ok (.istore_n 3, 1) := by decide +kernel
theorem dX12_leftBy_6 : decode cX12_leftBy 6 = .ok (.aload_n 0, 1) := by decide +kernel
theorem dX12_leftBy_7 : decode cX12_leftBy 7 = .ok (.iload_n 3, 1) := by decide +kernel
theorem dX12_leftBy_8 : decode cX12_leftBy 8 = .ok (.ifCond .ne 7, 3) := by decide +kernel
theorem dX12_leftBy_11 : decode cX12_leftBy 11 = .ok (.iconst 1, 1) := by decide +kernel
theorem dX12_leftBy_12 : decode cX12_leftBy 12 = .ok (.goto 15, 3) := by decide +kernel
theorem dX12_leftBy_15 : decode cX12_leftBy 15 = .ok (.iload_n 2, 1) := by decide +kernel
theorem dX12_leftBy_16 : decode cX12_leftBy 16 = .ok (.invokestatic 374, 3) := by decide +kernel
theorem dX12_leftBy_19 : decode cX12_leftBy 19 = .ok (.ifCond .eq 7, 3) := by decide +kernel
theorem dX12_leftBy_22 : decode cX12_leftBy 22 = .ok (.iconst 0, 1) := by decide +kernel
theorem dX12_leftBy_23 : decode cX12_leftBy 23 = .ok (.goto 4, 3) := by decide +kernel
theorem dX12_leftBy_26 : decode cX12_leftBy 26 = .ok (.iconst 2, 1) := by decide +kernel
theorem dX12_leftBy_27 : decode cX12_leftBy 27 = .ok (.invokevirtual 181, 3) := by decide +kernel
theorem dX12_leftBy_30 : decode cX12_leftBy 30 = .ok (.ifCond .ne 5, 3) := by decide +kernel
theorem dX12_leftBy_33 : decode cX12_leftBy 33 = .ok (.iconst 0, 1) := by decide +kernel
theorem dX12_leftBy_34 : decode cX12_leftBy 34 = .ok (.ireturn, 1) := by decide +kernel
theorem dX12_leftBy_35 : decode cX12_leftBy 35 = .ok (.iconst 0, 1) := by decide +kernel
theorem dX12_leftBy_36 : decode cX12_leftBy 36 = .ok (.istore 4, 2) := by decide +kernel
theorem dX12_leftBy_38 : decode cX12_leftBy 38 = .ok (.iconst 0, 1) := by decide +kernel
theorem dX12_leftBy_39 : decode cX12_leftBy 39 = .ok (.istore 5, 2) := by decide +kernel
theorem dX12_leftBy_41 : decode cX12_leftBy 41 = .ok (.iload 5, 2) := by decide +kernel
theorem dX12_leftBy_43 : decode cX12_leftBy 43 = .ok (.aload_n 0, 1) := by decide +kernel
theorem dX12_leftBy_44 : decode cX12_leftBy 44 = .ok (.getfield 346, 3) := by decide +kernel
theorem dX12_leftBy_47 : decode cX12_leftBy 47 = .ok (.if_icmp .ge 97, 3) := by decide +kernel
theorem dX12_leftBy_50 : decode cX12_leftBy 50 = .ok (.aload_n 0, 1) := by decide +kernel
theorem dX12_leftBy_51 : decode cX12_leftBy 51 = .ok (.getfield 78, 3) := by decide +kernel
theorem dX12_leftBy_54 : decode cX12_leftBy 54 = .ok (.iload 5, 2) := by decide +kernel
theorem dX12_leftBy_56 : decode cX12_leftBy 56 = .ok (.iaload, 1) := by decide +kernel
theorem dX12_leftBy_57 : decode cX12_leftBy 57 = .ok (.iload_n 1, 1) := by decide +kernel
theorem dX12_leftBy_58 : decode cX12_leftBy 58 = .ok (.if_icmp .ne 18, 3) := by decide +kernel
theorem dX12_leftBy_61 : decode cX12_leftBy 61 = .ok (.aload_n 0, 1) := by decide +kernel
theorem dX12_leftBy_62 : decode cX12_leftBy 62 = .ok (.getfield 72, 3) := by decide +kernel
theorem dX12_leftBy_65 : decode cX12_leftBy 65 = .ok (.iload 5, 2) := by decide +kernel
theorem dX12_leftBy_67 : decode cX12_leftBy 67 = .ok (.iaload, 1) := by decide +kernel
theorem dX12_leftBy_68 : decode cX12_leftBy 68 = .ok (.iload_n 2, 1) := by decide +kernel
theorem dX12_leftBy_69 : decode cX12_leftBy 69 = .ok (.if_icmp .ne 7, 3) := by decide +kernel
theorem dX12_leftBy_72 : decode cX12_leftBy 72 = .ok (.iconst 1, 1) := by decide +kernel
theorem dX12_leftBy_73 : decode cX12_leftBy 73 = .ok (.goto 4, 3) := by decide +kernel
theorem dX12_leftBy_76 : decode cX12_leftBy 76 = .ok (.iconst 0, 1) := by decide +kernel
theorem dX12_leftBy_77 : decode cX12_leftBy 77 = .ok (.istore 6, 2) := by decide +kernel
theorem dX12_leftBy_79 : decode cX12_leftBy 79 = .ok (.iload 4, 2) := by decide +kernel
theorem dX12_leftBy_81 : decode cX12_leftBy 81 = .ok (.iload 6, 2) := by decide +kernel
theorem dX12_leftBy_83 : decode cX12_leftBy 83 = .ok (.ifCond .eq 24, 3) := by decide +kernel
theorem dX12_leftBy_86 : decode cX12_leftBy 86 = .ok (.aload_n 0, 1) := by decide +kernel
theorem dX12_leftBy_87 : decode cX12_leftBy 87 = .ok (.getfield 66, 3) := by decide +kernel
theorem dX12_leftBy_90 : decode cX12_leftBy 90 = .ok (.iload 5, 2) := by decide +kernel
theorem dX12_leftBy_92 : decode cX12_leftBy 92 = .ok (.iaload, 1) := by decide +kernel
theorem dX12_leftBy_93 : decode cX12_leftBy 93 = .ok (.iconst 4, 1) := by decide +kernel
theorem dX12_leftBy_94 : decode cX12_leftBy 94 = .ok (.if_icmp .ne 13, 3) := by decide +kernel
theorem dX12_leftBy_97 : decode cX12_leftBy 97 = .ok (.aload_n 0, 1) := by decide +kernel
theorem dX12_leftBy_98 : decode cX12_leftBy 98 = .ok (.getfield 75, 3) := by decide +kernel
theorem dX12_leftBy_101 : decode cX12_leftBy 101 = .ok (.iload 5, 2) := by decide +kernel
theorem dX12_leftBy_103 : decode cX12_leftBy 103 = .ok (.iaload, 1) := by decide +kernel
theorem dX12_leftBy_104 : decode cX12_leftBy 104 = .ok (.goto 31, 3) := by decide +kernel
theorem dX12_leftBy_107 : decode cX12_leftBy 107 = .ok (.iload 6, 2) := by decide +kernel
theorem dX12_leftBy_109 : decode cX12_leftBy 109 = .ok (.ifCond .eq 25, 3) := by decide +kernel
theorem dX12_leftBy_112 : decode cX12_leftBy 112 = .ok (.aload_n 0, 1) := by decide +kernel
theorem dX12_leftBy_113 : decode cX12_leftBy 113 = .ok (.getfield 69, 3) := by decide +kernel
theorem dX12_leftBy_116 : decode cX12_leftBy 116 = .ok (.iload 5, 2) := by decide +kernel
theorem dX12_leftBy_118 : decode cX12_leftBy 118 = .ok (.iaload, 1) := by decide +kernel
theorem dX12_leftBy_119 : decode cX12_leftBy 119 = .ok (.iconst 4, 1) := by decide +kernel
theorem dX12_leftBy_120 : decode cX12_leftBy 120 = .ok (.if_icmp .ne 14, 3) := by decide +kernel
theorem dX12_leftBy_123 : decode cX12_leftBy 123 = .ok (.aload_n 0, 1) := by decide +kernel
theorem dX12_leftBy_124 : decode cX12_leftBy 124 = .ok (.getfield 75, 3) := by decide +kernel
theorem dX12_leftBy_127 : decode cX12_leftBy 127 = .ok (.iload 5, 2) := by decide +kernel
theorem dX12_leftBy_129 : decode cX12_leftBy 129 = .ok (.iaload, 1) := by decide +kernel
theorem dX12_leftBy_130 : decode cX12_leftBy 130 = .ok (.ineg, 1) := by decide +kernel
theorem dX12_leftBy_131 : decode cX12_leftBy 131 = .ok (.goto 4, 3) := by decide +kernel
theorem dX12_leftBy_134 : decode cX12_leftBy 134 = .ok (.iconst 0, 1) := by decide +kernel
theorem dX12_leftBy_135 : decode cX12_leftBy 135 = .ok (.iadd, 1) := by decide +kernel
theorem dX12_leftBy_136 : decode cX12_leftBy 136 = .ok (.istore 4, 2) := by decide +kernel
theorem dX12_leftBy_138 : decode cX12_leftBy 138 = .ok (.iinc 5 1, 3) := by decide +kernel
theorem dX12_leftBy_141 : decode cX12_leftBy 141 = .ok (.goto (-100), 3) := by decide +kernel
theorem dX12_leftBy_144 : decode cX12_leftBy 144 = .ok (.iload 4, 2) := by decide +kernel
theorem dX12_leftBy_146 : decode cX12_leftBy 146 = .ok (.ireturn, 1) := by decide +kernel
theorem dX12_supply_0 : decode cX12_supply 0 = .ok (.aload_n 0, 1) := by decide +kernel
theorem dX12_supply_1 : decode cX12_supply 1 = .ok (.iload_n 1, 1) := by decide +kernel
theorem dX12_supply_2 : decode cX12_supply 2 = .ok (.invokestatic 374, 3) := by decide +kernel
theorem dX12_supply_5 : decode cX12_supply 5 = .ok (.ifCond .eq 18, 3) := by decide +kernel
theorem dX12_supply_8 : decode cX12_supply 8 = .ok (.iload_n 2, 1) := by decide +kernel
theorem dX12_supply_9 : decode cX12_supply 9 = .ok (.iconst 1, 1) := by decide +kernel
theorem dX12_supply_10 : decode cX12_supply 10 = .ok (.sipush 1000, 3) := by decide +kernel
theorem dX12_supply_13 : decode cX12_supply 13 = .ok (.invokestatic 167, 3) := by decide +kernel
theorem dX12_supply_16 : decode cX12_supply 16 = .ok (.ifCond .eq 7, 3) := by decide +kernel
theorem dX12_supply_19 : decode cX12_supply 19 = .ok (.iconst 0, 1) := by decide +kernel
theorem dX12_supply_20 : decode cX12_supply 20 = .ok (.goto 4, 3) := by decide +kernel
theorem dX12_supply_23 : decode cX12_supply 23 = .ok (.iconst 1, 1) := by decide +kernel
theorem dX12_supply_24 : decode cX12_supply 24 = .ok (.invokevirtual 181, 3) := by decide +kernel
theorem dX12_supply_27 : decode cX12_supply 27 = .ok (.ifCond .ne 5, 3) := by decide +kernel
theorem dX12_supply_30 : decode cX12_supply 30 = .ok (.iconst 0, 1) := by decide +kernel
theorem dX12_supply_31 : decode cX12_supply 31 = .ok (.ireturn, 1) := by decide +kernel
theorem dX12_supply_32 : decode cX12_supply 32 = .ok (.aload_n 0, 1) := by decide +kernel
theorem dX12_supply_33 : decode cX12_supply 33 = .ok (.getfield 16, 3) := by decide +kernel
theorem dX12_supply_36 : decode cX12_supply 36 = .ok (.bipush 32, 2) := by decide +kernel
theorem dX12_supply_38 : decode cX12_supply 38 = .ok (.iload_n 1, 1) := by decide +kernel
theorem dX12_supply_39 : decode cX12_supply 39 = .ok (.iadd, 1) := by decide +kernel
theorem dX12_supply_40 : decode cX12_supply 40 = .ok (.dup2, 1) := by decide +kernel
theorem dX12_supply_41 : decode cX12_supply 41 = .ok (.iaload, 1) := by decide +kernel
theorem dX12_supply_42 : decode cX12_supply 42 = .ok (.iload_n 2, 1) := by decide +kernel
theorem dX12_supply_43 : decode cX12_supply 43 = .ok (.iadd, 1) := by decide +kernel
theorem dX12_supply_44 : decode cX12_supply 44 = .ok (.iastore, 1) := by decide +kernel
theorem dX12_supply_45 : decode cX12_supply 45 = .ok (.aload_n 0, 1) := by decide +kernel
theorem dX12_supply_46 : decode cX12_supply 46 = .ok (.getfield 16, 3) := by decide +kernel
theorem dX12_supply_49 : decode cX12_supply 49 = .ok (.bipush 32, 2) := by decide +kernel
theorem dX12_supply_51 : decode cX12_supply 51 = .ok (.iload_n 1, 1) := by decide +kernel
theorem dX12_supply_52 : decode cX12_supply 52 = .ok (.iadd, 1) := by decide +kernel
theorem dX12_supply_53 : decode cX12_supply 53 = .ok (.iaload, 1) := by decide +kernel
theorem dX12_supply_54 : decode cX12_supply 54 = .ok (.ireturn, 1) := by decide +kernel
theorem dX12_giveRations_0 : decode cX12_giveRations 0 = .ok (.aload_n 0, 1) := by decide +kernel
theorem dX12_giveRations_1 : decode cX12_giveRations 1 = .ok (.iload_n 1, 1) := by decide +kernel
theorem dX12_giveRations_2 : decode cX12_giveRations 2 = .ok (.invokestatic 339, 3) := by decide +kernel
theorem dX12_giveRations_5 : decode cX12_giveRations 5 = .ok (.ifCond .eq 18, 3) := by decide +kernel
theorem dX12_giveRations_8 : decode cX12_giveRations 8 = .ok (.iload_n 2, 1) := by decide +kernel
theorem dX12_giveRations_9 : decode cX12_giveRations 9 = .ok (.iconst 1, 1) := by decide +kernel
theorem dX12_giveRations_10 : decode cX12_giveRations 10 = .ok (.sipush 1000, 3) := by decide +kernel
theorem dX12_giveRations_13 : decode cX12_giveRations 13 = .ok (.invokestatic 167, 3) := by decide +kernel
theorem dX12_giveRations_16 : decode cX12_giveRations 16 = .ok (.ifCond .eq 7, 3) := by decide +kernel
theorem dX12_giveRations_19 : decode cX12_giveRations 19 = .ok (.iconst 0, 1) := by decide +kernel
theorem dX12_giveRations_20 : decode cX12_giveRations 20 = .ok (.goto 4, 3) := by decide +kernel
theorem dX12_giveRations_23 : decode cX12_giveRations 23 = .ok (.iconst 1, 1) := by decide +kernel
theorem dX12_giveRations_24 : decode cX12_giveRations 24 = .ok (.invokevirtual 181, 3) := by decide +kernel
theorem dX12_giveRations_27 : decode cX12_giveRations 27 = .ok (.ifCond .ne 5, 3) := by decide +kernel
theorem dX12_giveRations_30 : decode cX12_giveRations 30 = .ok (.iconst 0, 1) := by decide +kernel
theorem dX12_giveRations_31 : decode cX12_giveRations 31 = .ok (.ireturn, 1) := by decide +kernel
theorem dX12_giveRations_32 : decode cX12_giveRations 32 = .ok (.aload_n 0, 1) := by decide +kernel
theorem dX12_giveRations_33 : decode cX12_giveRations 33 = .ok (.getfield 19, 3) := by decide +kernel
theorem dX12_giveRations_36 : decode cX12_giveRations 36 = .ok (.iload_n 1, 1) := by decide +kernel
theorem dX12_giveRations_37 : decode cX12_giveRations 37 = .ok (.dup2, 1) := by decide +kernel
theorem dX12_giveRations_38 : decode cX12_giveRations 38 = .ok (.iaload, 1) := by decide +kernel
theorem dX12_giveRations_39 : decode cX12_giveRations 39 = .ok (.iload_n 2, 1) := by decide +kernel
theorem dX12_giveRations_40 : decode cX12_giveRations 40 = .ok (.iadd, 1) := by decide +kernel
theorem dX12_giveRations_41 : decode cX12_giveRations 41 = .ok (.iastore, 1) := by decide +kernel
theorem dX12_giveRations_42 : decode cX12_giveRations 42 = .ok (.aload_n 0, 1) := by decide +kernel
theorem dX12_giveRations_43 : decode cX12_giveRations 43 = .ok (.getfield 19, 3) := by decide +kernel
theorem dX12_giveRations_46 : decode cX12_giveRations 46 = .ok (.iload_n 1, 1) := by decide +kernel
theorem dX12_giveRations_47 : decode cX12_giveRations 47 = .ok (.iaload, 1) := by decide +kernel
theorem dX12_giveRations_48 : decode cX12_giveRations 48 = .ok (.ireturn, 1) := by decide +kernel
theorem dX12_setTariff_0 : decode cX12_setTariff 0 = .ok (.aload_n 0, 1) := by decide +kernel
theorem dX12_setTariff_1 : decode cX12_setTariff 1 = .ok (.iload_n 1, 1) := by decide +kernel
theorem dX12_setTariff_2 : decode cX12_setTariff 2 = .ok (.iconst 0, 1) := by decide +kernel
theorem dX12_setTariff_3 : decode cX12_setTariff 3 = .ok (.bipush 100, 2) := by decide +kernel
theorem dX12_setTariff_5 : decode cX12_setTariff 5 = .ok (.invokestatic 167, 3) := by decide +kernel
theorem dX12_setTariff_8 : decode cX12_setTariff 8 = .ok (.ifCond .eq 7, 3) := by decide +kernel
theorem dX12_setTariff_11 : decode cX12_setTariff 11 = .ok (.iconst 0, 1) := by decide +kernel
theorem dX12_setTariff_12 : decode cX12_setTariff 12 = .ok (.goto 4, 3) := by decide +kernel
theorem dX12_setTariff_15 : decode cX12_setTariff 15 = .ok (.iconst 1, 1) := by decide +kernel
theorem dX12_setTariff_16 : decode cX12_setTariff 16 = .ok (.invokevirtual 181, 3) := by decide +kernel
theorem dX12_setTariff_19 : decode cX12_setTariff 19 = .ok (.ifCond .ne 5, 3) := by decide +kernel
theorem dX12_setTariff_22 : decode cX12_setTariff 22 = .ok (.iconst 0, 1) := by decide +kernel
theorem dX12_setTariff_23 : decode cX12_setTariff 23 = .ok (.ireturn, 1) := by decide +kernel
theorem dX12_setTariff_24 : decode cX12_setTariff 24 = .ok (.aload_n 0, 1) := by decide +kernel
theorem dX12_setTariff_25 : decode cX12_setTariff 25 = .ok (.getfield 35, 3) := by decide +kernel
theorem dX12_setTariff_28 : decode cX12_setTariff 28 = .ok (.istore_n 2, 1) := by decide +kernel
theorem dX12_setTariff_29 : decode cX12_setTariff 29 = .ok (.aload_n 0, 1) := by decide +kernel
theorem dX12_setTariff_30 : decode cX12_setTariff 30 = .ok (.iload_n 1, 1) := by decide +kernel
theorem dX12_setTariff_31 : decode cX12_setTariff 31 = .ok (.putfield 35, 3) := by decide +kernel
theorem dX12_setTariff_34 : decode cX12_setTariff 34 = .ok (.iload_n 2, 1) := by decide +kernel
theorem dX12_setTariff_35 : decode cX12_setTariff 35 = .ok (.ireturn, 1) := by decide +kernel
theorem dX12_buy_0 : decode cX12_buy 0 = .ok (.iload_n 1, 1) := by decide +kernel
theorem dX12_buy_1 : decode cX12_buy 1 = .ok (.invokestatic 339, 3) := by decide +kernel
theorem dX12_buy_4 : decode cX12_buy 4 = .ok (.ifCond .eq 12, 3) := by decide +kernel
theorem dX12_buy_7 : decode cX12_buy 7 = .ok (.iload_n 2, 1) := by decide +kernel
theorem dX12_buy_8 : decode cX12_buy 8 = .ok (.iconst 1, 1) := by decide +kernel
theorem dX12_buy_9 : decode cX12_buy 9 = .ok (.if_icmp .lt 7, 3) := by decide +kernel
theorem dX12_buy_12 : decode cX12_buy 12 = .ok (.iconst 1, 1) := by decide +kernel
theorem dX12_buy_13 : decode cX12_buy 13 = .ok (.goto 4, 3) := by decide +kernel
theorem dX12_buy_16 : decode cX12_buy 16 = .ok (.iconst 0, 1) := by decide +kernel
theorem dX12_buy_17 : decode cX12_buy 17 = .ok (.istore_n 3, 1) := by decide +kernel
theorem dX12_buy_18 : decode cX12_buy 18 = .ok (.aload_n 0, 1) := by decide +kernel
theorem dX12_buy_19 : decode cX12_buy 19 = .ok (.iload_n 3, 1) := by decide +kernel
theorem dX12_buy_20 : decode cX12_buy 20 = .ok (.ifCond .ne 7, 3) := by decide +kernel
theorem dX12_buy_23 : decode cX12_buy 23 = .ok (.iconst 1, 1) := by decide +kernel
theorem dX12_buy_24 : decode cX12_buy 24 = .ok (.goto 18, 3) := by decide +kernel
theorem dX12_buy_27 : decode cX12_buy 27 = .ok (.aload_n 0, 1) := by decide +kernel
theorem dX12_buy_28 : decode cX12_buy 28 = .ok (.getfield 19, 3) := by decide +kernel
theorem dX12_buy_31 : decode cX12_buy 31 = .ok (.iload_n 1, 1) := by decide +kernel
theorem dX12_buy_32 : decode cX12_buy 32 = .ok (.iaload, 1) := by decide +kernel
theorem dX12_buy_33 : decode cX12_buy 33 = .ok (.iload_n 2, 1) := by decide +kernel
theorem dX12_buy_34 : decode cX12_buy 34 = .ok (.if_icmp .ge 7, 3) := by decide +kernel
theorem dX12_buy_37 : decode cX12_buy 37 = .ok (.iconst 2, 1) := by decide +kernel
theorem dX12_buy_38 : decode cX12_buy 38 = .ok (.goto 4, 3) := by decide +kernel
theorem dX12_buy_41 : decode cX12_buy 41 = .ok (.iconst 0, 1) := by decide +kernel
theorem dX12_buy_42 : decode cX12_buy 42 = .ok (.invokevirtual 181, 3) := by decide +kernel
theorem dX12_buy_45 : decode cX12_buy 45 = .ok (.ifCond .ne 5, 3) := by decide +kernel
theorem dX12_buy_48 : decode cX12_buy 48 = .ok (.iconst 0, 1) := by decide +kernel
theorem dX12_buy_49 : decode cX12_buy 49 = .ok (.ireturn, 1) := by decide +kernel
theorem dX12_buy_50 : decode cX12_buy 50 = .ok (.aload_n 0, 1) := by decide +kernel
theorem dX12_buy_51 : decode cX12_buy 51 = .ok (.iload_n 1, 1) := by decide +kernel
theorem dX12_buy_52 : decode cX12_buy 52 = .ok (.iload_n 2, 1) := by decide +kernel
theorem dX12_buy_53 : decode cX12_buy 53 = .ok (.invokevirtual 226, 3) := by decide +kernel
theorem dX12_buy_56 : decode cX12_buy 56 = .ok (.ireturn, 1) := by decide +kernel
theorem dX12_setBuying_0 : decode cX12_setBuying 0 = .ok (.aload_n 0, 1) := by decide +kernel
theorem dX12_setBuying_1 : decode cX12_setBuying 1 = .ok (.iload_n 1, 1) := by decide +kernel
theorem dX12_setBuying_2 : decode cX12_setBuying 2 = .ok (.invokestatic 339, 3) := by decide +kernel
theorem dX12_setBuying_5 : decode cX12_setBuying 5 = .ok (.ifCond .eq 7, 3) := by decide +kernel
theorem dX12_setBuying_8 : decode cX12_setBuying 8 = .ok (.iconst 0, 1) := by decide +kernel
theorem dX12_setBuying_9 : decode cX12_setBuying 9 = .ok (.goto 4, 3) := by decide +kernel
theorem dX12_setBuying_12 : decode cX12_setBuying 12 = .ok (.iconst 1, 1) := by decide +kernel
theorem dX12_setBuying_13 : decode cX12_setBuying 13 = .ok (.invokevirtual 181, 3) := by decide +kernel
theorem dX12_setBuying_16 : decode cX12_setBuying 16 = .ok (.ifCond .ne 5, 3) := by decide +kernel
theorem dX12_setBuying_19 : decode cX12_setBuying 19 = .ok (.iconst 0, 1) := by decide +kernel
theorem dX12_setBuying_20 : decode cX12_setBuying 20 = .ok (.ireturn, 1) := by decide +kernel
theorem dX12_setBuying_21 : decode cX12_setBuying 21 = .ok (.aload_n 0, 1) := by decide +kernel
theorem dX12_setBuying_22 : decode cX12_setBuying 22 = .ok (.getfield 31, 3) := by decide +kernel
theorem dX12_setBuying_25 : decode cX12_setBuying 25 = .ok (.iload_n 1, 1) := by decide +kernel
theorem dX12_setBuying_26 : decode cX12_setBuying 26 = .ok (.baload, 1) := by decide +kernel
theorem dX12_setBuying_27 : decode cX12_setBuying 27 = .ok (.istore_n 3, 1) := by decide +kernel
theorem dX12_setBuying_28 : decode cX12_setBuying 28 = .ok (.aload_n 0, 1) := by decide +kernel
theorem dX12_setBuying_29 : decode cX12_setBuying 29 = .ok (.getfield 31, 3) := by decide +kernel
theorem dX12_setBuying_32 : decode cX12_setBuying 32 = .ok (.iload_n 1, 1) := by decide +kernel
theorem dX12_setBuying_33 : decode cX12_setBuying 33 = .ok (.iload_n 2, 1) := by decide +kernel
theorem dX12_setBuying_34 : decode cX12_setBuying 34 = .ok (.bastore, 1) := by decide +kernel
theorem dX12_setBuying_35 : decode cX12_setBuying 35 = .ok (.iload_n 3, 1) := by decide +kernel
theorem dX12_setBuying_36 : decode cX12_setBuying 36 = .ok (.ireturn, 1) := by decide +kernel
theorem dX12_setCredit_0 : decode cX12_setCredit 0 = .ok (.iload_n 1, 1) := by decide +kernel
theorem dX12_setCredit_1 : decode cX12_setCredit 1 = .ok (.invokestatic 339, 3) := by decide +kernel
theorem dX12_setCredit_4 : decode cX12_setCredit 4 = .ok (.ifCond .eq 30, 3) := by decide +kernel
theorem dX12_setCredit_7 : decode cX12_setCredit 7 = .ok (.iload_n 2, 1) := by decide +kernel
theorem dX12_setCredit_8 : decode cX12_setCredit 8 = .ok (.invokestatic 339, 3) := by decide +kernel
theorem dX12_setCredit_11 : decode cX12_setCredit 11 = .ok (.ifCond .eq 23, 3) := by decide +kernel
theorem dX12_setCredit_14 : decode cX12_setCredit 14 = .ok (.iload_n 1, 1) := by decide +kernel
theorem dX12_setCredit_15 : decode cX12_setCredit 15 = .ok (.iload_n 2, 1) := by decide +kernel
theorem dX12_setCredit_16 : decode cX12_setCredit 16 = .ok (.if_icmp .eq 18, 3) := by decide +kernel
theorem dX12_setCredit_19 : decode cX12_setCredit 19 = .ok (.iload_n 3, 1) := by decide +kernel
theorem dX12_setCredit_20 : decode cX12_setCredit 20 = .ok (.iconst 0, 1) := by decide +kernel
theorem dX12_setCredit_21 : decode cX12_setCredit 21 = .ok (.sipush 1000, 3) := by decide +kernel
theorem dX12_setCredit_24 : decode cX12_setCredit 24 = .ok (.invokestatic 167, 3) := by decide +kernel
theorem dX12_setCredit_27 : decode cX12_setCredit 27 = .ok (.ifCond .eq 7, 3) := by decide +kernel
theorem dX12_setCredit_30 : decode cX12_setCredit 30 = .ok (.iconst 1, 1) := by decide +kernel
theorem dX12_setCredit_31 : decode cX12_setCredit 31 = .ok (.goto 4, 3) := by decide +kernel
theorem dX12_setCredit_34 : decode cX12_setCredit 34 = .ok (.iconst 0, 1) := by decide +kernel
theorem dX12_setCredit_35 : decode cX12_setCredit 35 = .ok (.istore 4, 2) := by decide +kernel
theorem dX12_setCredit_37 : decode cX12_setCredit 37 = .ok (.aload_n 0, 1) := by decide +kernel
theorem dX12_setCredit_38 : decode cX12_setCredit 38 = .ok (.iload 4, 2) := by decide +kernel
theorem dX12_setCredit_40 : decode cX12_setCredit 40 = .ok (.ifCond .eq 7, 3) := by decide +kernel
theorem dX12_setCredit_43 : decode cX12_setCredit 43 = .ok (.iconst 0, 1) := by decide +kernel
theorem dX12_setCredit_44 : decode cX12_setCredit 44 = .ok (.goto 4, 3) := by decide +kernel
theorem dX12_setCredit_47 : decode cX12_setCredit 47 = .ok (.iconst 1, 1) := by decide +kernel
theorem dX12_setCredit_48 : decode cX12_setCredit 48 = .ok (.invokevirtual 181, 3) := by decide +kernel
theorem dX12_setCredit_51 : decode cX12_setCredit 51 = .ok (.ifCond .ne 5, 3) := by decide +kernel
theorem dX12_setCredit_54 : decode cX12_setCredit 54 = .ok (.iconst 0, 1) := by decide +kernel
theorem dX12_setCredit_55 : decode cX12_setCredit 55 = .ok (.ireturn, 1) := by decide +kernel
theorem dX12_setCredit_56 : decode cX12_setCredit 56 = .ok (.aload_n 0, 1) := by decide +kernel
theorem dX12_setCredit_57 : decode cX12_setCredit 57 = .ok (.getfield 28, 3) := by decide +kernel
theorem dX12_setCredit_60 : decode cX12_setCredit 60 = .ok (.iconst 4, 1) := by decide +kernel
theorem dX12_setCredit_61 : decode cX12_setCredit 61 = .ok (.iload_n 1, 1) := by decide +kernel
theorem dX12_setCredit_62 : decode cX12_setCredit 62 = .ok (.imul, 1) := by decide +kernel
theorem dX12_setCredit_63 : decode cX12_setCredit 63 = .ok (.iload_n 2, 1) := by decide +kernel
theorem dX12_setCredit_64 : decode cX12_setCredit 64 = .ok (.iadd, 1) := by decide +kernel
theorem dX12_setCredit_65 : decode cX12_setCredit 65 = .ok (.iaload, 1) := by decide +kernel
theorem dX12_setCredit_66 : decode cX12_setCredit 66 = .ok (.istore 5, 2) := by decide +kernel
theorem dX12_setCredit_68 : decode cX12_setCredit 68 = .ok (.aload_n 0, 1) := by decide +kernel
theorem dX12_setCredit_69 : decode cX12_setCredit 69 = .ok (.getfield 28, 3) := by decide +kernel
theorem dX12_setCredit_72 : decode cX12_setCredit 72 = .ok (.iconst 4, 1) := by decide +kernel
theorem dX12_setCredit_73 : decode cX12_setCredit 73 = .ok (.iload_n 1, 1) := by decide +kernel
theorem dX12_setCredit_74 : decode cX12_setCredit 74 = .ok (.imul, 1) := by decide +kernel
theorem dX12_setCredit_75 : decode cX12_setCredit 75 = .ok (.iload_n 2, 1) := by decide +kernel
theorem dX12_setCredit_76 : decode cX12_setCredit 76 = .ok (.iadd, 1) := by decide +kernel
theorem dX12_setCredit_77 : decode cX12_setCredit 77 = .ok (.iload_n 3, 1) := by decide +kernel
theorem dX12_setCredit_78 : decode cX12_setCredit 78 = .ok (.iastore, 1) := by decide +kernel
theorem dX12_setCredit_79 : decode cX12_setCredit 79 = .ok (.iload 5, 2) := by decide +kernel
theorem dX12_setCredit_81 : decode cX12_setCredit 81 = .ok (.ireturn, 1) := by decide +kernel
theorem dX12_payBack_0 : decode cX12_payBack 0 = .ok (.iload_n 1, 1) := by decide +kernel
theorem dX12_payBack_1 : decode cX12_payBack 1 = .ok (.invokestatic 339, 3) := by decide +kernel
theorem dX12_payBack_4 : decode cX12_payBack 4 = .ok (.ifCond .eq 19, 3) := by decide +kernel
theorem dX12_payBack_7 : decode cX12_payBack 7 = .ok (.iload_n 2, 1) := by decide +kernel
theorem dX12_payBack_8 : decode cX12_payBack 8 = .ok (.invokestatic 339, 3) := by decide +kernel
theorem dX12_payBack_11 : decode cX12_payBack 11 = .ok (.ifCond .eq 12, 3) := by decide +kernel
theorem dX12_payBack_14 : decode cX12_payBack 14 = .ok (.iload_n 3, 1) := by decide +kernel
theorem dX12_payBack_15 : decode cX12_payBack 15 = .ok (.iconst 1, 1) := by decide +kernel
theorem dX12_payBack_16 : decode cX12_payBack 16 = .ok (.if_icmp .lt 7, 3) := by decide +kernel
theorem dX12_payBack_19 : decode cX12_payBack 19 = .ok (.iconst 1, 1) := by decide +kernel
theorem dX12_payBack_20 : decode cX12_payBack 20 = .ok (.goto 4, 3) := by decide +kernel
theorem dX12_payBack_23 : decode cX12_payBack 23 = .ok (.iconst 0, 1) := by decide +kernel
theorem dX12_payBack_24 : decode cX12_payBack 24 = .ok (.istore 4, 2) := by decide +kernel
theorem dX12_payBack_26 : decode cX12_payBack 26 = .ok (.iload 4, 2) := by decide +kernel
theorem dX12_payBack_28 : decode cX12_payBack 28 = .ok (.ifCond .eq 11, 3) := by decide +kernel
theorem dX12_payBack_31 : decode cX12_payBack 31 = .ok (.iconst 4, 1) := by decide +kernel
theorem dX12_payBack_32 : decode cX12_payBack 32 = .ok (.iload_n 1, 1) := by decide +kernel
theorem dX12_payBack_33 : decode cX12_payBack 33 = .ok (.imul, 1) := by decide +kernel
theorem dX12_payBack_34 : decode cX12_payBack 34 = .ok (.iload_n 2, 1) := by decide +kernel
theorem dX12_payBack_35 : decode cX12_payBack 35 = .ok (.iadd, 1) := by decide +kernel
theorem dX12_payBack_36 : decode cX12_payBack 36 = .ok (.goto 4, 3) := by decide +kernel
theorem dX12_payBack_39 : decode cX12_payBack 39 = .ok (.iconst 0, 1) := by decide +kernel
theorem dX12_payBack_40 : decode cX12_payBack 40 = .ok (.istore 5, 2) := by decide +kernel
theorem dX12_payBack_42 : decode cX12_payBack 42 = .ok (.aload_n 0, 1) := by decide +kernel
theorem dX12_payBack_43 : decode cX12_payBack 43 = .ok (.iload 4, 2) := by decide +kernel
theorem dX12_payBack_45 : decode cX12_payBack 45 = .ok (.ifCond .ne 7, 3) := by decide +kernel
theorem dX12_payBack_48 : decode cX12_payBack 48 = .ok (.iconst 1, 1) := by decide +kernel
theorem dX12_payBack_49 : decode cX12_payBack 49 = .ok (.goto 29, 3) := by decide +kernel
theorem dX12_payBack_52 : decode cX12_payBack 52 = .ok (.aload_n 0, 1) := by decide +kernel
theorem dX12_payBack_53 : decode cX12_payBack 53 = .ok (.getfield 25, 3) := by decide +kernel
theorem dX12_payBack_56 : decode cX12_payBack 56 = .ok (.iload 5, 2) := by decide +kernel
theorem dX12_payBack_58 : decode cX12_payBack 58 = .ok (.iaload, 1) := by decide +kernel
theorem dX12_payBack_59 : decode cX12_payBack 59 = .ok (.iload_n 3, 1) := by decide +kernel
theorem dX12_payBack_60 : decode cX12_payBack 60 = .ok (.if_icmp .lt 13, 3) := by decide +kernel
theorem dX12_payBack_63 : decode cX12_payBack 63 = .ok (.aload_n 0, 1) := by decide +kernel
theorem dX12_payBack_64 : decode cX12_payBack 64 = .ok (.getfield 22, 3) := by decide +kernel
theorem dX12_payBack_67 : decode cX12_payBack 67 = .ok (.iload_n 1, 1) := by decide +kernel
theorem dX12_payBack_68 : decode cX12_payBack 68 = .ok (.iaload, 1) := by decide +kernel
theorem dX12_payBack_69 : decode cX12_payBack 69 = .ok (.iload_n 3, 1) := by decide +kernel
theorem dX12_payBack_70 : decode cX12_payBack 70 = .ok (.if_icmp .ge 7, 3) := by decide +kernel
theorem dX12_payBack_73 : decode cX12_payBack 73 = .ok (.iconst 2, 1) := by decide +kernel
theorem dX12_payBack_74 : decode cX12_payBack 74 = .ok (.goto 4, 3) := by decide +kernel
theorem dX12_payBack_77 : decode cX12_payBack 77 = .ok (.iconst 0, 1) := by decide +kernel
theorem dX12_payBack_78 : decode cX12_payBack 78 = .ok (.invokevirtual 181, 3) := by decide +kernel
theorem dX12_payBack_81 : decode cX12_payBack 81 = .ok (.ifCond .ne 5, 3) := by decide +kernel
theorem dX12_payBack_84 : decode cX12_payBack 84 = .ok (.iconst 0, 1) := by decide +kernel
theorem dX12_payBack_85 : decode cX12_payBack 85 = .ok (.ireturn, 1) := by decide +kernel
theorem dX12_payBack_86 : decode cX12_payBack 86 = .ok (.aload_n 0, 1) := by decide +kernel
theorem dX12_payBack_87 : decode cX12_payBack 87 = .ok (.getfield 25, 3) := by decide +kernel
theorem dX12_payBack_90 : decode cX12_payBack 90 = .ok (.iload 5, 2) := by decide +kernel
theorem dX12_payBack_92 : decode cX12_payBack 92 = .ok (.dup2, 1) := by decide +kernel
theorem dX12_payBack_93 : decode cX12_payBack 93 = .ok (.iaload, 1) := by decide +kernel
theorem dX12_payBack_94 : decode cX12_payBack 94 = .ok (.iload_n 3, 1) := by decide +kernel
theorem dX12_payBack_95 : decode cX12_payBack 95 = .ok (.isub, 1) := by decide +kernel
theorem dX12_payBack_96 : decode cX12_payBack 96 = .ok (.iastore, 1) := by decide +kernel
theorem dX12_payBack_97 : decode cX12_payBack 97 = .ok (.aload_n 0, 1) := by decide +kernel
theorem dX12_payBack_98 : decode cX12_payBack 98 = .ok (.getfield 22, 3) := by decide +kernel
theorem dX12_payBack_101 : decode cX12_payBack 101 = .ok (.iload_n 1, 1) := by decide +kernel
theorem dX12_payBack_102 : decode cX12_payBack 102 = .ok (.dup2, 1) := by decide +kernel
theorem dX12_payBack_103 : decode cX12_payBack 103 = .ok (.iaload, 1) := by decide +kernel
theorem dX12_payBack_104 : decode cX12_payBack 104 = .ok (.iload_n 3, 1) := by decide +kernel
theorem dX12_payBack_105 : decode cX12_payBack 105 = .ok (.isub, 1) := by decide +kernel
theorem dX12_payBack_106 : decode cX12_payBack 106 = .ok (.iastore, 1) := by decide +kernel
theorem dX12_payBack_107 : decode cX12_payBack 107 = .ok (.aload_n 0, 1) := by decide +kernel
theorem dX12_payBack_108 : decode cX12_payBack 108 = .ok (.getfield 22, 3) := by decide +kernel
theorem dX12_payBack_111 : decode cX12_payBack 111 = .ok (.iload_n 2, 1) := by decide +kernel
theorem dX12_payBack_112 : decode cX12_payBack 112 = .ok (.dup2, 1) := by decide +kernel
theorem dX12_payBack_113 : decode cX12_payBack 113 = .ok (.iaload, 1) := by decide +kernel
theorem dX12_payBack_114 : decode cX12_payBack 114 = .ok (.iload_n 3, 1) := by decide +kernel
theorem dX12_payBack_115 : decode cX12_payBack 115 = .ok (.iadd, 1) := by decide +kernel
theorem dX12_payBack_116 : decode cX12_payBack 116 = .ok (.iastore, 1) := by decide +kernel
theorem dX12_payBack_117 : decode cX12_payBack 117 = .ok (.aload_n 0, 1) := by decide +kernel
theorem dX12_payBack_118 : decode cX12_payBack 118 = .ok (.getfield 25, 3) := by decide +kernel
theorem dX12_payBack_121 : decode cX12_payBack 121 = .ok (.iload 5, 2) := by decide +kernel
theorem dX12_payBack_123 : decode cX12_payBack 123 = .ok (.iaload, 1) := by decide +kernel
theorem dX12_payBack_124 : decode cX12_payBack 124 = .ok (.ireturn, 1) := by decide +kernel
theorem dX12_stock_0 : decode cX12_stock 0 = .ok (.aload_n 0, 1) := by decide +kernel
theorem dX12_stock_1 : decode cX12_stock 1 = .ok (.iload_n 1, 1) := by decide +kernel
theorem dX12_stock_2 : decode cX12_stock 2 = .ok (.iload_n 2, 1) := by decide +kernel
theorem dX12_stock_3 : decode cX12_stock 3 = .ok (.invokevirtual 377, 3) := by decide +kernel
theorem dX12_stock_6 : decode cX12_stock 6 = .ok (.ireturn, 1) := by decide +kernel
theorem dX12_stockByMoves_0 : decode cX12_stockByMoves 0 = .ok (.iload_n 1, 1) := by decide +kernel
theorem dX12_stockByMoves_1 : decode cX12_stockByMoves 1 = .ok (.iconst (-1), 1) := by decide +kernel
theorem dX12_stockByMoves_2 : decode cX12_stockByMoves 2 = .ok (.iconst 3, 1) := by decide +kernel
theorem dX12_stockByMoves_3 : decode cX12_stockByMoves 3 = .ok (.invokestatic 167, 3) := by decide +kernel
theorem dX12_stockByMoves_6 : decode cX12_stockByMoves 6 = .ok (.ifCond .eq 14, 3) := by decide +kernel
theorem dX12_stockByMoves_9 : decode cX12_stockByMoves 9 = .ok (.iload_n 2, 1) := by decide +kernel
theorem dX12_stockByMoves_10 : decode cX12_stockByMoves 10 = .ok (.invokestatic 374, 3) := by decide +kernel
theorem dX12_stockByMoves_13 : decode cX12_stockByMoves 13 = .ok (.ifCond .eq 7, 3) := by decide +kernel
theorem dX12_stockByMoves_16 : decode cX12_stockByMoves 16 = .ok (.iconst 1, 1) := by decide +kernel
theorem dX12_stockByMoves_17 : decode cX12_stockByMoves 17 = .ok (.goto 4, 3) := by decide +kernel
theorem dX12_stockByMoves_20 : decode cX12_stockByMoves 20 = .ok (.iconst 0, 1) := by decide +kernel
theorem dX12_stockByMoves_21 : decode cX12_stockByMoves 21 = .ok (.istore_n 3, 1) := by decide +kernel
theorem dX12_stockByMoves_22 : decode cX12_stockByMoves 22 = .ok (.aload_n 0, 1) := by decide +kernel
theorem dX12_stockByMoves_23 : decode cX12_stockByMoves 23 = .ok (.iload_n 3, 1) := by decide +kernel
theorem dX12_stockByMoves_24 : decode cX12_stockByMoves 24 = .ok (.ifCond .eq 7, 3) := by decide +kernel
theorem dX12_stockByMoves_27 : decode cX12_stockByMoves 27 = .ok (.iconst 0, 1) := by decide +kernel
theorem dX12_stockByMoves_28 : decode cX12_stockByMoves 28 = .ok (.goto 4, 3) := by decide +kernel
theorem dX12_stockByMoves_31 : decode cX12_stockByMoves 31 = .ok (.iconst 1, 1) := by decide +kernel
theorem dX12_stockByMoves_32 : decode cX12_stockByMoves 32 = .ok (.invokevirtual 181, 3) := by decide +kernel
theorem dX12_stockByMoves_35 : decode cX12_stockByMoves 35 = .ok (.ifCond .eq 26, 3) := by decide +kernel
theorem dX12_stockByMoves_38 : decode cX12_stockByMoves 38 = .ok (.aload_n 0, 1) := by decide +kernel
theorem dX12_stockByMoves_39 : decode cX12_stockByMoves 39 = .ok (.getfield 16, 3) := by decide +kernel
theorem dX12_stockByMoves_42 : decode cX12_stockByMoves 42 = .ok (.bipush 8, 2) := by decide +kernel
theorem dX12_stockByMoves_44 : decode cX12_stockByMoves 44 = .ok (.iload_n 1, 1) := by decide +kernel
theorem dX12_stockByMoves_45 : decode cX12_stockByMoves 45 = .ok (.iconst (-1), 1) := by decide +kernel
theorem dX12_stockByMoves_46 : decode cX12_stockByMoves 46 = .ok (.if_icmp .ne 7, 3) := by decide +kernel
theorem dX12_stockByMoves_49 : decode cX12_stockByMoves 49 = .ok (.iconst 4, 1) := by decide +kernel
theorem dX12_stockByMoves_50 : decode cX12_stockByMoves 50 = .ok (.goto 4, 3) := by decide +kernel
theorem dX12_stockByMoves_53 : decode cX12_stockByMoves 53 = .ok (.iload_n 1, 1) := by decide +kernel
theorem dX12_stockByMoves_54 : decode cX12_stockByMoves 54 = .ok (.imul, 1) := by decide +kernel
theorem dX12_stockByMoves_55 : decode cX12_stockByMoves 55 = .ok (.iload_n 2, 1) := by decide +kernel
theorem dX12_stockByMoves_56 : decode cX12_stockByMoves 56 = .ok (.iadd, 1) := by decide +kernel
theorem dX12_stockByMoves_57 : decode cX12_stockByMoves 57 = .ok (.iaload, 1) := by decide +kernel
theorem dX12_stockByMoves_58 : decode cX12_stockByMoves 58 = .ok (.goto 4, 3) := by decide +kernel
theorem dX12_stockByMoves_61 : decode cX12_stockByMoves 61 = .ok (.iconst 0, 1) := by decide +kernel
theorem dX12_stockByMoves_62 : decode cX12_stockByMoves 62 = .ok (.ireturn, 1) := by decide +kernel
theorem dX12_fuel_0 : decode cX12_fuel 0 = .ok (.aload_n 0, 1) := by decide +kernel
theorem dX12_fuel_1 : decode cX12_fuel 1 = .ok (.iload_n 1, 1) := by decide +kernel
theorem dX12_fuel_2 : decode cX12_fuel 2 = .ok (.invokestatic 339, 3) := by decide +kernel
theorem dX12_fuel_5 : decode cX12_fuel 5 = .ok (.ifCond .eq 7, 3) := by decide +kernel
theorem dX12_fuel_8 : decode cX12_fuel 8 = .ok (.iconst 0, 1) := by decide +kernel
theorem dX12_fuel_9 : decode cX12_fuel 9 = .ok (.goto 4, 3) := by decide +kernel
theorem dX12_fuel_12 : decode cX12_fuel 12 = .ok (.iconst 1, 1) := by decide +kernel
theorem dX12_fuel_13 : decode cX12_fuel 13 = .ok (.invokevirtual 181, 3) := by decide +kernel
theorem dX12_fuel_16 : decode cX12_fuel 16 = .ok (.ifCond .eq 12, 3) := by decide +kernel
theorem dX12_fuel_19 : decode cX12_fuel 19 = .ok (.aload_n 0, 1) := by decide +kernel
theorem dX12_fuel_20 : decode cX12_fuel 20 = .ok (.getfield 22, 3) := by decide +kernel
theorem dX12_fuel_23 : decode cX12_fuel 23 = .ok (.iload_n 1, 1) := by decide +kernel
theorem dX12_fuel_24 : decode cX12_fuel 24 = .ok (.iaload, 1) := by decide +kernel
theorem dX12_fuel_25 : decode cX12_fuel 25 = .ok (.goto 4, 3) := by decide +kernel
theorem dX12_fuel_28 : decode cX12_fuel 28 = .ok (.iconst 0, 1) := by decide +kernel
theorem dX12_fuel_29 : decode cX12_fuel 29 = .ok (.ireturn, 1) := by decide +kernel
theorem dX12_rations_0 : decode cX12_rations 0 = .ok (.aload_n 0, 1) := by decide +kernel
theorem dX12_rations_1 : decode cX12_rations 1 = .ok (.iload_n 1, 1) := by decide +kernel
theorem dX12_rations_2 : decode cX12_rations 2 = .ok (.invokestatic 339, 3) := by decide +kernel
theorem dX12_rations_5 : decode cX12_rations 5 = .ok (.ifCond .eq 7, 3) := by decide +kernel
theorem dX12_rations_8 : decode cX12_rations 8 = .ok (.iconst 0, 1) := by decide +kernel
theorem dX12_rations_9 : decode cX12_rations 9 = .ok (.goto 4, 3) := by decide +kernel
theorem dX12_rations_12 : decode cX12_rations 12 = .ok (.iconst 1, 1) := by decide +kernel
theorem dX12_rations_13 : decode cX12_rations 13 = .ok (.invokevirtual 181, 3) := by decide +kernel
theorem dX12_rations_16 : decode cX12_rations 16 = .ok (.ifCond .eq 12, 3) := by decide +kernel
theorem dX12_rations_19 : decode cX12_rations 19 = .ok (.aload_n 0, 1) := by decide +kernel
theorem dX12_rations_20 : decode cX12_rations 20 = .ok (.getfield 19, 3) := by decide +kernel
theorem dX12_rations_23 : decode cX12_rations 23 = .ok (.iload_n 1, 1) := by decide +kernel
theorem dX12_rations_24 : decode cX12_rations 24 = .ok (.iaload, 1) := by decide +kernel
theorem dX12_rations_25 : decode cX12_rations 25 = .ok (.goto 4, 3) := by decide +kernel
theorem dX12_rations_28 : decode cX12_rations 28 = .ok (.iconst 0, 1) := by decide +kernel
theorem dX12_rations_29 : decode cX12_rations 29 = .ok (.ireturn, 1) := by decide +kernel
theorem dX12_debt_0 : decode cX12_debt 0 = .ok (.aload_n 0, 1) := by decide +kernel
theorem dX12_debt_1 : decode cX12_debt 1 = .ok (.iload_n 1, 1) := by decide +kernel
theorem dX12_debt_2 : decode cX12_debt 2 = .ok (.invokestatic 339, 3) := by decide +kernel
theorem dX12_debt_5 : decode cX12_debt 5 = .ok (.ifCond .eq 14, 3) := by decide +kernel
theorem dX12_debt_8 : decode cX12_debt 8 = .ok (.iload_n 2, 1) := by decide +kernel
theorem dX12_debt_9 : decode cX12_debt 9 = .ok (.invokestatic 339, 3) := by decide +kernel
theorem dX12_debt_12 : decode cX12_debt 12 = .ok (.ifCond .eq 7, 3) := by decide +kernel
theorem dX12_debt_15 : decode cX12_debt 15 = .ok (.iconst 0, 1) := by decide +kernel
theorem dX12_debt_16 : decode cX12_debt 16 = .ok (.goto 4, 3) := by decide +kernel
theorem dX12_debt_19 : decode cX12_debt 19 = .ok (.iconst 1, 1) := by decide +kernel
theorem dX12_debt_20 : decode cX12_debt 20 = .ok (.invokevirtual 181, 3) := by decide +kernel
theorem dX12_debt_23 : decode cX12_debt 23 = .ok (.ifCond .eq 16, 3) := by decide +kernel
theorem dX12_debt_26 : decode cX12_debt 26 = .ok (.aload_n 0, 1) := by decide +kernel
theorem dX12_debt_27 : decode cX12_debt 27 = .ok (.getfield 25, 3) := by decide +kernel
theorem dX12_debt_30 : decode cX12_debt 30 = .ok (.iconst 4, 1) := by decide +kernel
theorem dX12_debt_31 : decode cX12_debt 31 = .ok (.iload_n 1, 1) := by decide +kernel
theorem dX12_debt_32 : decode cX12_debt 32 = .ok (.imul, 1) := by decide +kernel
theorem dX12_debt_33 : decode cX12_debt 33 = .ok (.iload_n 2, 1) := by decide +kernel
theorem dX12_debt_34 : decode cX12_debt 34 = .ok (.iadd, 1) := by decide +kernel
theorem dX12_debt_35 : decode cX12_debt 35 = .ok (.iaload, 1) := by decide +kernel
theorem dX12_debt_36 : decode cX12_debt 36 = .ok (.goto 4, 3) := by decide +kernel
theorem dX12_debt_39 : decode cX12_debt 39 = .ok (.iconst 0, 1) := by decide +kernel
theorem dX12_debt_40 : decode cX12_debt 40 = .ok (.ireturn, 1) := by decide +kernel
theorem dX12_isMove_0 : decode cX12_isMove 0 = .ok (.aload_n 0, 1) := by decide +kernel
theorem dX12_isMove_1 : decode cX12_isMove 1 = .ok (.iload_n 1, 1) := by decide +kernel
theorem dX12_isMove_2 : decode cX12_isMove 2 = .ok (.iconst 0, 1) := by decide +kernel
theorem dX12_isMove_3 : decode cX12_isMove 3 = .ok (.aload_n 0, 1) := by decide +kernel
theorem dX12_isMove_4 : decode cX12_isMove 4 = .ok (.getfield 346, 3) := by decide +kernel
theorem dX12_isMove_7 : decode cX12_isMove 7 = .ok (.iconst 1, 1) := by decide +kernel
theorem dX12_isMove_8 : decode cX12_isMove 8 = .ok (.isub, 1) := by decide +kernel
theorem dX12_isMove_9 : decode cX12_isMove 9 = .ok (.invokestatic 167, 3) := by decide +kernel
theorem dX12_isMove_12 : decode cX12_isMove 12 = .ok (.ifCond .eq 7, 3) := by decide +kernel
theorem dX12_isMove_15 : decode cX12_isMove 15 = .ok (.iconst 0, 1) := by decide +kernel
theorem dX12_isMove_16 : decode cX12_isMove 16 = .ok (.goto 4, 3) := by decide +kernel
theorem dX12_isMove_19 : decode cX12_isMove 19 = .ok (.iconst 1, 1) := by decide +kernel
theorem dX12_isMove_20 : decode cX12_isMove 20 = .ok (.invokevirtual 181, 3) := by decide +kernel
theorem dX12_isMove_23 : decode cX12_isMove 23 = .ok (.ireturn, 1) := by decide +kernel
theorem dX12_moves_0 : decode cX12_moves 0 = .ok (.aload_n 0, 1) := by decide +kernel
theorem dX12_moves_1 : decode cX12_moves 1 = .ok (.iconst 0, 1) := by decide +kernel
theorem dX12_moves_2 : decode cX12_moves 2 = .ok (.putfield 164, 3) := by decide +kernel
theorem dX12_moves_5 : decode cX12_moves 5 = .ok (.aload_n 0, 1) := by decide +kernel
theorem dX12_moves_6 : decode cX12_moves 6 = .ok (.getfield 346, 3) := by decide +kernel
theorem dX12_moves_9 : decode cX12_moves 9 = .ok (.ireturn, 1) := by decide +kernel
theorem dX12_movedFrom_0 : decode cX12_movedFrom 0 = .ok (.aload_n 0, 1) := by decide +kernel
theorem dX12_movedFrom_1 : decode cX12_movedFrom 1 = .ok (.iload_n 1, 1) := by decide +kernel
theorem dX12_movedFrom_2 : decode cX12_movedFrom 2 = .ok (.invokevirtual 380, 3) := by decide +kernel
theorem dX12_movedFrom_5 : decode cX12_movedFrom 5 = .ok (.ifCond .ne 7, 3) := by decide +kernel
theorem dX12_movedFrom_8 : decode cX12_movedFrom 8 = .ok (.iconst 0, 1) := by decide +kernel
theorem dX12_movedFrom_9 : decode cX12_movedFrom 9 = .ok (.goto 23, 3) := by decide +kernel
theorem dX12_movedFrom_12 : decode cX12_movedFrom 12 = .ok (.aload_n 0, 1) := by decide +kernel
theorem dX12_movedFrom_13 : decode cX12_movedFrom 13 = .ok (.getfield 66, 3) := by decide +kernel
theorem dX12_movedFrom_16 : decode cX12_movedFrom 16 = .ok (.iload_n 1, 1) := by decide +kernel
theorem dX12_movedFrom_17 : decode cX12_movedFrom 17 = .ok (.iaload, 1) := by decide +kernel
theorem dX12_movedFrom_18 : decode cX12_movedFrom 18 = .ok (.iconst 4, 1) := by decide +kernel
theorem dX12_movedFrom_19 : decode cX12_movedFrom 19 = .ok (.if_icmp .ne 7, 3) := by decide +kernel
theorem dX12_movedFrom_22 : decode cX12_movedFrom 22 = .ok (.iconst (-1), 1) := by decide +kernel
theorem dX12_movedFrom_23 : decode cX12_movedFrom 23 = .ok (.goto 9, 3) := by decide +kernel
theorem dX12_movedFrom_26 : decode cX12_movedFrom 26 = .ok (.aload_n 0, 1) := by decide +kernel
theorem dX12_movedFrom_27 : decode cX12_movedFrom 27 = .ok (.getfield 66, 3) := by decide +kernel
theorem dX12_movedFrom_30 : decode cX12_movedFrom 30 = .ok (.iload_n 1, 1) := by decide +kernel
theorem dX12_movedFrom_31 : decode cX12_movedFrom 31 = .ok (.iaload, 1) := by decide +kernel
theorem dX12_movedFrom_32 : decode cX12_movedFrom 32 = .ok (.ireturn, 1) := by decide +kernel
theorem dX12_movedTo_0 : decode cX12_movedTo 0 = .ok (.aload_n 0, 1) := by decide +kernel
theorem dX12_movedTo_1 : decode cX12_movedTo 1 = .ok (.iload_n 1, 1) := by decide +kernel
theorem dX12_movedTo_2 : decode cX12_movedTo 2 = .ok (.invokevirtual 380, 3) := by decide +kernel
theorem dX12_movedTo_5 : decode cX12_movedTo 5 = .ok (.ifCond .ne 7, 3) := by decide +kernel
theorem dX12_movedTo_8 : decode cX12_movedTo 8 = .ok (.iconst 0, 1) := by decide +kernel
theorem dX12_movedTo_9 : decode cX12_movedTo 9 = .ok (.goto 23, 3) := by decide +kernel
theorem dX12_movedTo_12 : decode cX12_movedTo 12 = .ok (.aload_n 0, 1) := by decide +kernel
theorem dX12_movedTo_13 : decode cX12_movedTo 13 = .ok (.getfield 69, 3) := by decide +kernel
theorem dX12_movedTo_16 : decode cX12_movedTo 16 = .ok (.iload_n 1, 1) := by decide +kernel
theorem dX12_movedTo_17 : decode cX12_movedTo 17 = .ok (.iaload, 1) := by decide +kernel
theorem dX12_movedTo_18 : decode cX12_movedTo 18 = .ok (.iconst 4, 1) := by decide +kernel
theorem dX12_movedTo_19 : decode cX12_movedTo 19 = .ok (.if_icmp .ne 7, 3) := by decide +kernel
theorem dX12_movedTo_22 : decode cX12_movedTo 22 = .ok (.iconst (-1), 1) := by decide +kernel
theorem dX12_movedTo_23 : decode cX12_movedTo 23 = .ok (.goto 9, 3) := by decide +kernel
theorem dX12_movedTo_26 : decode cX12_movedTo 26 = .ok (.aload_n 0, 1) := by decide +kernel
theorem dX12_movedTo_27 : decode cX12_movedTo 27 = .ok (.getfield 69, 3) := by decide +kernel
theorem dX12_movedTo_30 : decode cX12_movedTo 30 = .ok (.iload_n 1, 1) := by decide +kernel
theorem dX12_movedTo_31 : decode cX12_movedTo 31 = .ok (.iaload, 1) := by decide +kernel
theorem dX12_movedTo_32 : decode cX12_movedTo 32 = .ok (.ireturn, 1) := by decide +kernel
theorem dX12_movedGood_0 : decode cX12_movedGood 0 = .ok (.aload_n 0, 1) := by decide +kernel
theorem dX12_movedGood_1 : decode cX12_movedGood 1 = .ok (.iload_n 1, 1) := by decide +kernel
theorem dX12_movedGood_2 : decode cX12_movedGood 2 = .ok (.invokevirtual 380, 3) := by decide +kernel
theorem dX12_movedGood_5 : decode cX12_movedGood 5 = .ok (.ifCond .eq 12, 3) := by decide +kernel
theorem dX12_movedGood_8 : decode cX12_movedGood 8 = .ok (.aload_n 0, 1) := by decide +kernel
theorem dX12_movedGood_9 : decode cX12_movedGood 9 = .ok (.getfield 72, 3) := by decide +kernel
theorem dX12_movedGood_12 : decode cX12_movedGood 12 = .ok (.iload_n 1, 1) := by decide +kernel
theorem dX12_movedGood_13 : decode cX12_movedGood 13 = .ok (.iaload, 1) := by decide +kernel
theorem dX12_movedGood_14 : decode cX12_movedGood 14 = .ok (.goto 4, 3) := by decide +kernel
theorem dX12_movedGood_17 : decode cX12_movedGood 17 = .ok (.iconst 0, 1) := by decide +kernel
theorem dX12_movedGood_18 : decode cX12_movedGood 18 = .ok (.ireturn, 1) := by decide +kernel
theorem dX12_movedAmount_0 : decode cX12_movedAmount 0 = .ok (.aload_n 0, 1) := by decide +kernel
theorem dX12_movedAmount_1 : decode cX12_movedAmount 1 = .ok (.iload_n 1, 1) := by decide +kernel
theorem dX12_movedAmount_2 : decode cX12_movedAmount 2 = .ok (.invokevirtual 380, 3) := by decide +kernel
theorem dX12_movedAmount_5 : decode cX12_movedAmount 5 = .ok (.ifCond .eq 12, 3) := by decide +kernel
theorem dX12_movedAmount_8 : decode cX12_movedAmount 8 = .ok (.aload_n 0, 1) := by decide +kernel
theorem dX12_movedAmount_9 : decode cX12_movedAmount 9 = .ok (.getfield 75, 3) := by decide +kernel
theorem dX12_movedAmount_12 : decode cX12_movedAmount 12 = .ok (.iload_n 1, 1) := by decide +kernel
theorem dX12_movedAmount_13 : decode cX12_movedAmount 13 = .ok (.iaload, 1) := by decide +kernel
theorem dX12_movedAmount_14 : decode cX12_movedAmount 14 = .ok (.goto 4, 3) := by decide +kernel
theorem dX12_movedAmount_17 : decode cX12_movedAmount 17 = .ok (.iconst 0, 1) := by decide +kernel
theorem dX12_movedAmount_18 : decode cX12_movedAmount 18 = .ok (.ireturn, 1) := by decide +kernel
theorem dX12_movedBy_0 : decode cX12_movedBy 0 = .ok (.aload_n 0, 1) := by decide +kernel
theorem dX12_movedBy_1 : decode cX12_movedBy 1 = .ok (.iload_n 1, 1) := by decide +kernel
theorem dX12_movedBy_2 : decode cX12_movedBy 2 = .ok (.invokevirtual 380, 3) := by decide +kernel
theorem dX12_movedBy_5 : decode cX12_movedBy 5 = .ok (.ifCond .eq 12, 3) := by decide +kernel
theorem dX12_movedBy_8 : decode cX12_movedBy 8 = .ok (.aload_n 0, 1) := by decide +kernel
theorem dX12_movedBy_9 : decode cX12_movedBy 9 = .ok (.getfield 78, 3) := by decide +kernel
theorem dX12_movedBy_12 : decode cX12_movedBy 12 = .ok (.iload_n 1, 1) := by decide +kernel
theorem dX12_movedBy_13 : decode cX12_movedBy 13 = .ok (.iaload, 1) := by decide +kernel
theorem dX12_movedBy_14 : decode cX12_movedBy 14 = .ok (.goto 4, 3) := by decide +kernel
theorem dX12_movedBy_17 : decode cX12_movedBy 17 = .ok (.iconst 0, 1) := by decide +kernel
theorem dX12_movedBy_18 : decode cX12_movedBy 18 = .ok (.ireturn, 1) := by decide +kernel
