theorem dX5_addRule_60 : decode cX5_addRule 60 = .ok (.bipush 42, 2) := by decide +kernel
theorem dX5_addRule_62 : decode cX5_addRule 62 = .ok (.iload_n 1, 1) := by decide +kernel
theorem dX5_addRule_63 : decode cX5_addRule 63 = .ok (.imul, 1) := by decide +kernel
theorem dX5_addRule_64 : decode cX5_addRule 64 = .ok (.iaload, 1) := by decide +kernel
theorem dX5_addRule_65 : decode cX5_addRule 65 = .ok (.istore 4, 2) := by decide +kernel
theorem dX5_addRule_67 : decode cX5_addRule 67 = .ok (.iload 4, 2) := by decide +kernel
theorem dX5_addRule_69 : decode cX5_addRule 69 = .ok (.iload_n 2, 1) := by decide +kernel
theorem dX5_addRule_70 : decode cX5_addRule 70 = .ok (.if_icmp .le 20, 3) := by decide +kernel
theorem dX5_addRule_73 : decode cX5_addRule 73 = .ok (.aload_n 0, 1) := by decide +kernel
theorem dX5_addRule_74 : decode cX5_addRule 74 = .ok (.iload_n 1, 1) := by decide +kernel
theorem dX5_addRule_75 : decode cX5_addRule 75 = .ok (.iload 4, 2) := by decide +kernel
theorem dX5_addRule_77 : decode cX5_addRule 77 = .ok (.iconst 1, 1) := by decide +kernel
theorem dX5_addRule_78 : decode cX5_addRule 78 = .ok (.isub, 1) := by decide +kernel
theorem dX5_addRule_79 : decode cX5_addRule 79 = .ok (.iload 4, 2) := by decide +kernel
theorem dX5_addRule_81 : decode cX5_addRule 81 = .ok (.invokevirtual 107, 3) := by decide +kernel
theorem dX5_addRule_84 : decode cX5_addRule 84 = .ok (.iinc 4 (-1), 3) := by decide +kernel
theorem dX5_addRule_87 : decode cX5_addRule 87 = .ok (.goto (-20), 3) := by decide +kernel
theorem dX5_addRule_90 : decode cX5_addRule 90 = .ok (.bipush 42, 2) := by decide +kernel
theorem dX5_addRule_92 : decode cX5_addRule 92 = .ok (.iload_n 1, 1) := by decide +kernel
theorem dX5_addRule_93 : decode cX5_addRule 93 = .ok (.imul, 1) := by decide +kernel
theorem dX5_addRule_94 : decode cX5_addRule 94 = .ok (.iconst 2, 1) := by decide +kernel
theorem dX5_addRule_95 : decode cX5_addRule 95 = .ok (.iadd, 1) := by decide +kernel
theorem dX5_addRule_96 : decode cX5_addRule 96 = .ok (.iconst 5, 1) := by decide +kernel
theorem dX5_addRule_97 : decode cX5_addRule 97 = .ok (.iload_n 2, 1) := by decide +kernel
theorem dX5_addRule_98 : decode cX5_addRule 98 = .ok (.imul, 1) := by decide +kernel
theorem dX5_addRule_99 : decode cX5_addRule 99 = .ok (.iadd, 1) := by decide +kernel
theorem dX5_addRule_100 : decode cX5_addRule 100 = .ok (.istore 4, 2) := by decide +kernel
theorem dX5_addRule_102 : decode cX5_addRule 102 = .ok (.aload_n 0, 1) := by decide +kernel
theorem dX5_addRule_103 : decode cX5_addRule 103 = .ok (.getfield 13, 3) := by decide +kernel
theorem dX5_addRule_106 : decode cX5_addRule 106 = .ok (.iload 4, 2) := by decide +kernel
theorem dX5_addRule_108 : decode cX5_addRule 108 = .ok (.iload_n 3, 1) := by decide +kernel
theorem dX5_addRule_109 : decode cX5_addRule 109 = .ok (.iastore, 1) := by decide +kernel
theorem dX5_addRule_110 : decode cX5_addRule 110 = .ok (.iconst 0, 1) := by decide +kernel
theorem dX5_addRule_111 : decode cX5_addRule 111 = .ok (.istore 5, 2) := by decide +kernel
theorem dX5_addRule_113 : decode cX5_addRule 113 = .ok (.iload 5, 2) := by decide +kernel
theorem dX5_addRule_115 : decode cX5_addRule 115 = .ok (.iconst 4, 1) := by decide +kernel
theorem dX5_addRule_116 : decode cX5_addRule 116 = .ok (.if_icmp .ge 30, 3) := by decide +kernel
theorem dX5_addRule_119 : decode cX5_addRule 119 = .ok (.aload_n 0, 1) := by decide +kernel
theorem dX5_addRule_120 : decode cX5_addRule 120 = .ok (.getfield 13, 3) := by decide +kernel
theorem dX5_addRule_123 : decode cX5_addRule 123 = .ok (.iload 4, 2) := by decide +kernel
theorem dX5_addRule_125 : decode cX5_addRule 125 = .ok (.iconst 1, 1) := by decide +kernel
theorem dX5_addRule_126 : decode cX5_addRule 126 = .ok (.iadd, 1) := by decide +kernel
theorem dX5_addRule_127 : decode cX5_addRule 127 = .ok (.iload 5, 2) := by decide +kernel
theorem dX5_addRule_129 : decode cX5_addRule 129 = .ok (.iadd, 1) := by decide +kernel
theorem dX5_addRule_130 : decode cX5_addRule 130 = .ok (.iconst 1, 1) := by decide +kernel
theorem dX5_addRule_131 : decode cX5_addRule 131 = .ok (.iload 5, 2) := by decide +kernel
theorem dX5_addRule_133 : decode cX5_addRule 133 = .ok (.invokestatic 70, 3) := by decide +kernel
theorem dX5_addRule_136 : decode cX5_addRule 136 = .ok (.ishl, 1) := by decide +kernel
theorem dX5_addRule_137 : decode cX5_addRule 137 = .ok (.iconst 1, 1) := by decide +kernel
theorem dX5_addRule_138 : decode cX5_addRule 138 = .ok (.isub, 1) := by decide +kernel
theorem dX5_addRule_139 : decode cX5_addRule 139 = .ok (.iastore, 1) := by decide +kernel
theorem dX5_addRule_140 : decode cX5_addRule 140 = .ok (.iinc 5 1, 3) := by decide +kernel
theorem dX5_addRule_143 : decode cX5_addRule 143 = .ok (.goto (-30), 3) := by decide +kernel
theorem dX5_addRule_146 : decode cX5_addRule 146 = .ok (.aload_n 0, 1) := by decide +kernel
theorem dX5_addRule_147 : decode cX5_addRule 147 = .ok (.getfield 13, 3) := by decide +kernel
theorem dX5_addRule_150 : decode cX5_addRule 150 = .ok (.bipush 42, 2) := by decide +kernel
theorem dX5_addRule_152 : decode cX5_addRule 152 = .ok (.iload_n 1, 1) := by decide +kernel
theorem dX5_addRule_153 : decode cX5_addRule 153 = .ok (.imul, 1) := by decide +kernel
theorem dX5_addRule_154 : decode cX5_addRule 154 = .ok (.dup2, 1) := by decide +kernel
theorem dX5_addRule_155 : decode cX5_addRule 155 = .ok (.iaload, 1) := by decide +kernel
theorem dX5_addRule_156 : decode cX5_addRule 156 = .ok (.iconst 1, 1) := by decide +kernel
theorem dX5_addRule_157 : decode cX5_addRule 157 = .ok (.iadd, 1) := by decide +kernel
theorem dX5_addRule_158 : decode cX5_addRule 158 = .ok (.iastore, 1) := by decide +kernel
theorem dX5_addRule_159 : decode cX5_addRule 159 = .ok (.aload_n 0, 1) := by decide +kernel
theorem dX5_addRule_160 : decode cX5_addRule 160 = .ok (.getfield 13, 3) := by decide +kernel
theorem dX5_addRule_163 : decode cX5_addRule 163 = .ok (.bipush 42, 2) := by decide +kernel
theorem dX5_addRule_165 : decode cX5_addRule 165 = .ok (.iload_n 1, 1) := by decide +kernel
theorem dX5_addRule_166 : decode cX5_addRule 166 = .ok (.imul, 1) := by decide +kernel
theorem dX5_addRule_167 : decode cX5_addRule 167 = .ok (.iaload, 1) := by decide +kernel
theorem dX5_addRule_168 : decode cX5_addRule 168 = .ok (.ireturn, 1) := by decide +kernel
theorem dX5_removes_0 : decode cX5_removes 0 = .ok (.aload_n 0, 1) := by decide +kernel
theorem dX5_removes_1 : decode cX5_removes 1 = .ok (.getfield 13, 3) := by decide +kernel
theorem dX5_removes_4 : decode cX5_removes 4 = .ok (.bipush 42, 2) := by decide +kernel
theorem dX5_removes_6 : decode cX5_removes 6 = .ok (.iload_n 1, 1) := by decide +kernel
theorem dX5_removes_7 : decode cX5_removes 7 = .ok (.imul, 1) := by decide +kernel
theorem dX5_removes_8 : decode cX5_removes 8 = .ok (.dup2, 1) := by decide +kernel
theorem dX5_removes_9 : decode cX5_removes 9 = .ok (.iaload, 1) := by decide +kernel
theorem dX5_removes_10 : decode cX5_removes 10 = .ok (.iconst 1, 1) := by decide +kernel
theorem dX5_removes_11 : decode cX5_removes 11 = .ok (.isub, 1) := by decide +kernel
theorem dX5_removes_12 : decode cX5_removes 12 = .ok (.iastore, 1) := by decide +kernel
theorem dX5_removes_13 : decode cX5_removes 13 = .ok (.iload_n 2, 1) := by decide +kernel
theorem dX5_removes_14 : decode cX5_removes 14 = .ok (.istore_n 3, 1) := by decide +kernel
theorem dX5_removes_15 : decode cX5_removes 15 = .ok (.iload_n 3, 1) := by decide +kernel
theorem dX5_removes_16 : decode cX5_removes 16 = .ok (.aload_n 0, 1) := by decide +kernel
theorem dX5_removes_17 : decode cX5_removes 17 = .ok (.getfield 13, 3) := by decide +kernel
theorem dX5_removes_20 : decode cX5_removes 20 = .ok (.bipush 42, 2) := by decide +kernel
theorem dX5_removes_22 : decode cX5_removes 22 = .ok (.iload_n 1, 1) := by decide +kernel
theorem dX5_removes_23 : decode cX5_removes 23 = .ok (.imul, 1) := by decide +kernel
theorem dX5_removes_24 : decode cX5_removes 24 = .ok (.iaload, 1) := by decide +kernel
theorem dX5_removes_25 : decode cX5_removes 25 = .ok (.if_icmp .ge 18, 3) := by decide +kernel
theorem dX5_removes_28 : decode cX5_removes 28 = .ok (.aload_n 0, 1) := by decide +kernel
theorem dX5_removes_29 : decode cX5_removes 29 = .ok (.iload_n 1, 1) := by decide +kernel
theorem dX5_removes_30 : decode cX5_removes 30 = .ok (.iload_n 3, 1) := by decide +kernel
theorem dX5_removes_31 : decode cX5_removes 31 = .ok (.iconst 1, 1) := by decide +kernel
theorem dX5_removes_32 : decode cX5_removes 32 = .ok (.iadd, 1) := by decide +kernel
theorem dX5_removes_33 : decode cX5_removes 33 = .ok (.iload_n 3, 1) := by decide +kernel
theorem dX5_removes_34 : decode cX5_removes 34 = .ok (.invokevirtual 107, 3) := by decide +kernel
theorem dX5_removes_37 : decode cX5_removes 37 = .ok (.iinc 3 1, 3) := by decide +kernel
theorem dX5_removes_40 : decode cX5_removes 40 = .ok (.goto (-25), 3) := by decide +kernel
theorem dX5_removes_43 : decode cX5_removes 43 = .ok (.return_, 1) := by decide +kernel
theorem dX5_removeRule_0 : decode cX5_removeRule 0 = .ok (.aload_n 0, 1) := by decide +kernel
theorem dX5_removeRule_1 : decode cX5_removeRule 1 = .ok (.iload_n 1, 1) := by decide +kernel
theorem dX5_removeRule_2 : decode cX5_removeRule 2 = .ok (.iload_n 2, 1) := by decide +kernel
theorem dX5_removeRule_3 : decode cX5_removeRule 3 = .ok (.invokevirtual 111, 3) := by decide +kernel
theorem dX5_removeRule_6 : decode cX5_removeRule 6 = .ok (.ifCond .ne 5, 3) := by decide +kernel
theorem dX5_removeRule_9 : decode cX5_removeRule 9 = .ok (.iconst (-1), 1) := by decide +kernel
theorem dX5_removeRule_10 : decode cX5_removeRule 10 = .ok (.ireturn, 1) := by decide +kernel
theorem dX5_removeRule_11 : decode cX5_removeRule 11 = .ok (.aload_n 0, 1) := by decide +kernel
theorem dX5_removeRule_12 : decode cX5_removeRule 12 = .ok (.invokevirtual 104, 3) := by decide +kernel
theorem dX5_removeRule_15 : decode cX5_removeRule 15 = .ok (.aload_n 0, 1) := by decide +kernel
theorem dX5_removeRule_16 : decode cX5_removeRule 16 = .ok (.iload_n 1, 1) := by decide +kernel
theorem dX5_removeRule_17 : decode cX5_removeRule 17 = .ok (.iload_n 2, 1) := by decide +kernel
theorem dX5_removeRule_18 : decode cX5_removeRule 18 = .ok (.invokevirtual 114, 3) := by decide +kernel
theorem dX5_removeRule_21 : decode cX5_removeRule 21 = .ok (.aload_n 0, 1) := by decide +kernel
theorem dX5_removeRule_22 : decode cX5_removeRule 22 = .ok (.getfield 13, 3) := by decide +kernel
theorem dX5_removeRule_25 : decode cX5_removeRule 25 = .ok (.bipush 42, 2) := by decide +kernel
theorem dX5_removeRule_27 : decode cX5_removeRule 27 = .ok (.iload_n 1, 1) := by decide +kernel
theorem dX5_removeRule_28 : decode cX5_removeRule 28 = .ok (.imul, 1) := by decide +kernel
theorem dX5_removeRule_29 : decode cX5_removeRule 29 = .ok (.iaload, 1) := by decide +kernel
theorem dX5_removeRule_30 : decode cX5_removeRule 30 = .ok (.ireturn, 1) := by decide +kernel
theorem dX5_moveRule_0 : decode cX5_moveRule 0 = .ok (.aload_n 0, 1) := by decide +kernel
theorem dX5_moveRule_1 : decode cX5_moveRule 1 = .ok (.iload_n 1, 1) := by decide +kernel
theorem dX5_moveRule_2 : decode cX5_moveRule 2 = .ok (.iload_n 2, 1) := by decide +kernel
theorem dX5_moveRule_3 : decode cX5_moveRule 3 = .ok (.invokevirtual 111, 3) := by decide +kernel
theorem dX5_moveRule_6 : decode cX5_moveRule 6 = .ok (.ifCond .eq 12, 3) := by decide +kernel
theorem dX5_moveRule_9 : decode cX5_moveRule 9 = .ok (.aload_n 0, 1) := by decide +kernel
theorem dX5_moveRule_10 : decode cX5_moveRule 10 = .ok (.iload_n 1, 1) := by decide +kernel
theorem dX5_moveRule_11 : decode cX5_moveRule 11 = .ok (.iload_n 3, 1) := by decide +kernel
theorem dX5_moveRule_12 : decode cX5_moveRule 12 = .ok (.invokevirtual 111, 3) := by decide +kernel
theorem dX5_moveRule_15 : decode cX5_moveRule 15 = .ok (.ifCond .ne 5, 3) := by decide +kernel
theorem dX5_moveRule_18 : decode cX5_moveRule 18 = .ok (.iconst (-1), 1) := by decide +kernel
theorem dX5_moveRule_19 : decode cX5_moveRule 19 = .ok (.ireturn, 1) := by decide +kernel
theorem dX5_moveRule_20 : decode cX5_moveRule 20 = .ok (.iload_n 2, 1) := by decide +kernel
theorem dX5_moveRule_21 : decode cX5_moveRule 21 = .ok (.iload_n 3, 1) := by decide +kernel
theorem dX5_moveRule_22 : decode cX5_moveRule 22 = .ok (.if_icmp .ne 6, 3) := by decide +kernel
theorem dX5_moveRule_25 : decode cX5_moveRule 25 = .ok (.bipush (-3), 2) := by decide +kernel
theorem dX5_moveRule_27 : decode cX5_moveRule 27 = .ok (.ireturn, 1) := by decide +kernel
theorem dX5_moveRule_28 : decode cX5_moveRule 28 = .ok (.aload_n 0, 1) := by decide +kernel
theorem dX5_moveRule_29 : decode cX5_moveRule 29 = .ok (.invokevirtual 104, 3) := by decide +kernel
theorem dX5_moveRule_32 : decode cX5_moveRule 32 = .ok (.bipush 42, 2) := by decide +kernel
theorem dX5_moveRule_34 : decode cX5_moveRule 34 = .ok (.iload_n 1, 1) := by decide +kernel
theorem dX5_moveRule_35 : decode cX5_moveRule 35 = .ok (.imul, 1) := by decide +kernel
theorem dX5_moveRule_36 : decode cX5_moveRule 36 = .ok (.iconst 2, 1) := by decide +kernel
theorem dX5_moveRule_37 : decode cX5_moveRule 37 = .ok (.iadd, 1) := by decide +kernel
theorem dX5_moveRule_38 : decode cX5_moveRule 38 = .ok (.istore 4, 2) := by decide +kernel
theorem dX5_moveRule_40 : decode cX5_moveRule 40 = .ok (.iconst 0, 1) := by decide +kernel
theorem dX5_moveRule_41 : decode cX5_moveRule 41 = .ok (.istore 5, 2) := by decide +kernel
theorem dX5_moveRule_43 : decode cX5_moveRule 43 = .ok (.iload 5, 2) := by decide +kernel
theorem dX5_moveRule_45 : decode cX5_moveRule 45 = .ok (.iconst 5, 1) := by decide +kernel
theorem dX5_moveRule_46 : decode cX5_moveRule 46 = .ok (.if_icmp .ge 30, 3) := by decide +kernel
theorem dX5_moveRule_49 : decode cX5_moveRule 49 = .ok (.aload_n 0, 1) := by decide +kernel
theorem dX5_moveRule_50 : decode cX5_moveRule 50 = .ok (.getfield 28, 3) := by decide +kernel
theorem dX5_moveRule_53 : decode cX5_moveRule 53 = .ok (.iload 5, 2) := by decide +kernel
theorem dX5_moveRule_55 : decode cX5_moveRule 55 = .ok (.aload_n 0, 1) := by decide +kernel
theorem dX5_moveRule_56 : decode cX5_moveRule 56 = .ok (.getfield 13, 3) := by decide +kernel
theorem dX5_moveRule_59 : decode cX5_moveRule 59 = .ok (.iload 4, 2) := by decide +kernel
theorem dX5_moveRule_61 : decode cX5_moveRule 61 = .ok (.iconst 5, 1) := by decide +kernel
theorem dX5_moveRule_62 : decode cX5_moveRule 62 = .ok (.iload_n 2, 1) := by decide +kernel
theorem dX5_moveRule_63 : decode cX5_moveRule 63 = .ok (.imul, 1) := by decide +kernel
theorem dX5_moveRule_64 : decode cX5_moveRule 64 = .ok (.iadd, 1) := by decide +kernel
theorem dX5_moveRule_65 : decode cX5_moveRule 65 = .ok (.iload 5, 2) := by decide +kernel
theorem dX5_moveRule_67 : decode cX5_moveRule 67 = .ok (.iadd, 1) := by decide +kernel
theorem dX5_moveRule_68 : decode cX5_moveRule 68 = .ok (.iaload, 1) := by decide +kernel
theorem dX5_moveRule_69 : decode cX5_moveRule 69 = .ok (.iastore, 1) := by decide +kernel
theorem dX5_moveRule_70 : decode cX5_moveRule 70 = .ok (.iinc 5 1, 3) := by decide +kernel
theorem dX5_moveRule_73 : decode cX5_moveRule 73 = .ok (.goto (-30), 3) := by decide +kernel
theorem dX5_moveRule_76 : decode cX5_moveRule 76 = .ok (.iload_n 2, 1) := by decide +kernel
theorem dX5_moveRule_77 : decode cX5_moveRule 77 = .ok (.iload_n 3, 1) := by decide +kernel
theorem dX5_moveRule_78 : decode cX5_moveRule 78 = .ok (.if_icmp .ge 7, 3) := by decide +kernel
theorem dX5_moveRule_81 : decode cX5_moveRule 81 = .ok (.iconst 1, 1) := by decide +kernel
theorem dX5_moveRule_82 : decode cX5_moveRule 82 = .ok (.goto 4, 3) := by decide +kernel
theorem dX5_moveRule_85 : decode cX5_moveRule 85 = .ok (.iconst (-1), 1) := by decide +kernel
theorem dX5_moveRule_86 : decode cX5_moveRule 86 = .ok (.istore 5, 2) := by decide +kernel
theorem dX5_moveRule_88 : decode cX5_moveRule 88 = .ok (.iload_n 2, 1) := by decide +kernel
theorem dX5_moveRule_89 : decode cX5_moveRule 89 = .ok (.istore 6, 2) := by decide +kernel
theorem dX5_moveRule_91 : decode cX5_moveRule 91 = .ok (.iload 6, 2) := by decide +kernel
theorem dX5_moveRule_93 : decode cX5_moveRule 93 = .ok (.iload_n 3, 1) := by decide +kernel
theorem dX5_moveRule_94 : decode cX5_moveRule 94 = .ok (.if_icmp .eq 25, 3) := by decide +kernel
theorem dX5_moveRule_97 : decode cX5_moveRule 97 = .ok (.aload_n 0, 1) := by decide +kernel
theorem dX5_moveRule_98 : decode cX5_moveRule 98 = .ok (.iload_n 1, 1) := by decide +kernel
theorem dX5_moveRule_99 : decode cX5_moveRule 99 = .ok (.iload 6, 2) := by decide +kernel
theorem dX5_moveRule_101 : decode cX5_moveRule 101 = .ok (.iload 5, 2) := by decide +kernel
theorem dX5_moveRule_103 : decode cX5_moveRule 103 = .ok (.iadd, 1) := by decide +kernel
theorem dX5_moveRule_104 : decode cX5_moveRule 104 = .ok (.iload 6, 2) := by decide +kernel
theorem dX5_moveRule_106 : decode cX5_moveRule 106 = .ok (.invokevirtual 107, 3) := by decide +kernel
theorem dX5_moveRule_109 : decode cX5_moveRule 109 = .ok (.iload 6, 2) := by decide +kernel
theorem dX5_moveRule_111 : decode cX5_moveRule 111 = .ok (.iload 5, 2) := by decide +kernel
theorem dX5_moveRule_113 : decode cX5_moveRule 113 = .ok (.iadd, 1) := by decide +kernel
theorem dX5_moveRule_114 : decode cX5_moveRule 114 = .ok (.istore 6, 2) := by decide +kernel
theorem dX5_moveRule_116 : decode cX5_moveRule 116 = .ok (.goto (-25), 3) := by decide +kernel
theorem dX5_moveRule_119 : decode cX5_moveRule 119 = .ok (.iconst 0, 1) := by decide +kernel
theorem dX5_moveRule_120 : decode cX5_moveRule 120 = .ok (.istore 6, 2) := by decide +kernel
theorem dX5_moveRule_122 : decode cX5_moveRule 122 = .ok (.iload 6, 2) := by decide +kernel
theorem dX5_moveRule_124 : decode cX5_moveRule 124 = .ok (.iconst 5, 1) := by decide +kernel
theorem dX5_moveRule_125 : decode cX5_moveRule 125 = .ok (.if_icmp .ge 30, 3) := by decide +kernel
theorem dX5_moveRule_128 : decode cX5_moveRule 128 = .ok (.aload_n 0, 1) := by decide +kernel
theorem dX5_moveRule_129 : decode cX5_moveRule 129 = .ok (.getfield 13, 3) := by decide +kernel
theorem dX5_moveRule_132 : decode cX5_moveRule 132 = .ok (.iload 4, 2) := by decide +kernel
theorem dX5_moveRule_134 : decode cX5_moveRule 134 = .ok (.iconst 5, 1) := by decide +kernel
theorem dX5_moveRule_135 : decode cX5_moveRule 135 = .ok (.iload_n 3, 1) := by decide +kernel
theorem dX5_moveRule_136 : decode cX5_moveRule 136 = .ok (.imul, 1) := by decide +kernel
theorem dX5_moveRule_137 : decode cX5_moveRule 137 = .ok (.iadd, 1) := by decide +kernel
theorem dX5_moveRule_138 : decode cX5_moveRule 138 = .ok (.iload 6, 2) := by decide +kernel
theorem dX5_moveRule_140 : decode cX5_moveRule 140 = .ok (.iadd, 1) := by decide +kernel
theorem dX5_moveRule_141 : decode cX5_moveRule 141 = .ok (.aload_n 0, 1) := by decide +kernel
theorem dX5_moveRule_142 : decode cX5_moveRule 142 = .ok (.getfield 28, 3) := by decide +kernel
theorem dX5_moveRule_145 : decode cX5_moveRule 145 = .ok (.iload 6, 2) := by decide +kernel
theorem dX5_moveRule_147 : decode cX5_moveRule 147 = .ok (.iaload, 1) := by decide +kernel
theorem dX5_moveRule_148 : decode cX5_moveRule 148 = .ok (.iastore, 1) := by decide +kernel
theorem dX5_moveRule_149 : decode cX5_moveRule 149 = .ok (.iinc 6 1, 3) := by decide +kernel
theorem dX5_moveRule_152 : decode cX5_moveRule 152 = .ok (.goto (-30), 3) := by decide +kernel
theorem dX5_moveRule_155 : decode cX5_moveRule 155 = .ok (.aload_n 0, 1) := by decide +kernel
theorem dX5_moveRule_156 : decode cX5_moveRule 156 = .ok (.getfield 28, 3) := by decide +kernel
theorem dX5_moveRule_159 : decode cX5_moveRule 159 = .ok (.iconst 0, 1) := by decide +kernel
theorem dX5_moveRule_160 : decode cX5_moveRule 160 = .ok (.iaload, 1) := by decide +kernel
theorem dX5_moveRule_161 : decode cX5_moveRule 161 = .ok (.ireturn, 1) := by decide +kernel
theorem dX5_setAlgorithm_0 : decode cX5_setAlgorithm 0 = .ok (.iload_n 1, 1) := by decide +kernel
theorem dX5_setAlgorithm_1 : decode cX5_setAlgorithm 1 = .ok (.invokestatic 101, 3) := by decide +kernel
theorem dX5_setAlgorithm_4 : decode cX5_setAlgorithm 4 = .ok (.ifCond .eq 12, 3) := by decide +kernel
theorem dX5_setAlgorithm_7 : decode cX5_setAlgorithm 7 = .ok (.iload_n 2, 1) := by decide +kernel
theorem dX5_setAlgorithm_8 : decode cX5_setAlgorithm 8 = .ok (.iconst 0, 1) := by decide +kernel
theorem dX5_setAlgorithm_9 : decode cX5_setAlgorithm 9 = .ok (.iconst 4, 1) := by decide +kernel
theorem dX5_setAlgorithm_10 : decode cX5_setAlgorithm 10 = .ok (.invokestatic 41, 3) := by decide +kernel
theorem dX5_setAlgorithm_13 : decode cX5_setAlgorithm 13 = .ok (.ifCond .ne 5, 3) := by decide +kernel
theorem dX5_setAlgorithm_16 : decode cX5_setAlgorithm 16 = .ok (.iconst (-1), 1) := by decide +kernel
theorem dX5_setAlgorithm_17 : decode cX5_setAlgorithm 17 = .ok (.ireturn, 1) := by decide +kernel
theorem dX5_setAlgorithm_18 : decode cX5_setAlgorithm 18 = .ok (.aload_n 0, 1) := by decide +kernel
theorem dX5_setAlgorithm_19 : decode cX5_setAlgorithm 19 = .ok (.getfield 13, 3) := by decide +kernel
theorem dX5_setAlgorithm_22 : decode cX5_setAlgorithm 22 = .ok (.bipush 42, 2) := by decide +kernel
theorem dX5_setAlgorithm_24 : decode cX5_setAlgorithm 24 = .ok (.iload_n 1, 1) := by decide +kernel
theorem dX5_setAlgorithm_25 : decode cX5_setAlgorithm 25 = .ok (.imul, 1) := by decide +kernel
theorem dX5_setAlgorithm_26 : decode cX5_setAlgorithm 26 = .ok (.iconst 1, 1) := by decide +kernel
theorem dX5_setAlgorithm_27 : decode cX5_setAlgorithm 27 = .ok (.iadd, 1) := by decide +kernel
theorem dX5_setAlgorithm_28 : decode cX5_setAlgorithm 28 = .ok (.iaload, 1) := by decide +kernel
theorem dX5_setAlgorithm_29 : decode cX5_setAlgorithm 29 = .ok (.istore_n 3, 1) := by decide +kernel
theorem dX5_setAlgorithm_30 : decode cX5_setAlgorithm 30 = .ok (.iload_n 3, 1) := by decide +kernel
theorem dX5_setAlgorithm_31 : decode cX5_setAlgorithm 31 = .ok (.iload_n 2, 1) := by decide +kernel
theorem dX5_setAlgorithm_32 : decode cX5_setAlgorithm 32 = .ok (.if_icmp .ne 6, 3) := by decide +kernel
theorem dX5_setAlgorithm_35 : decode cX5_setAlgorithm 35 = .ok (.bipush (-3), 2) := by decide +kernel
theorem dX5_setAlgorithm_37 : decode cX5_setAlgorithm 37 = .ok (.ireturn, 1) := by decide +kernel
theorem dX5_setAlgorithm_38 : decode cX5_setAlgorithm 38 = .ok (.aload_n 0, 1) := by decide +kernel
theorem dX5_setAlgorithm_39 : decode cX5_setAlgorithm 39 = .ok (.invokevirtual 104, 3) := by decide +kernel
theorem dX5_setAlgorithm_42 : decode cX5_setAlgorithm 42 = .ok (.aload_n 0, 1) := by decide +kernel
theorem dX5_setAlgorithm_43 : decode cX5_setAlgorithm 43 = .ok (.getfield 13, 3) := by decide +kernel
theorem dX5_setAlgorithm_46 : decode cX5_setAlgorithm 46 = .ok (.bipush 42, 2) := by decide +kernel
theorem dX5_setAlgorithm_48 : decode cX5_setAlgorithm 48 = .ok (.iload_n 1, 1) := by decide +kernel
theorem dX5_setAlgorithm_49 : decode cX5_setAlgorithm 49 = .ok (.imul, 1) := by decide +kernel
theorem dX5_setAlgorithm_50 : decode cX5_setAlgorithm 50 = .ok (.iconst 1, 1) := by decide +kernel
theorem dX5_setAlgorithm_51 : decode cX5_setAlgorithm 51 = .ok (.iadd, 1) := by decide +kernel
theorem dX5_setAlgorithm_52 : decode cX5_setAlgorithm 52 = .ok (.iload_n 2, 1) := by decide +kernel
theorem dX5_setAlgorithm_53 : decode cX5_setAlgorithm 53 = .ok (.iastore, 1) := by decide +kernel
theorem dX5_setAlgorithm_54 : decode cX5_setAlgorithm 54 = .ok (.iload_n 3, 1) := by decide +kernel
theorem dX5_setAlgorithm_55 : decode cX5_setAlgorithm 55 = .ok (.ireturn, 1) := by decide +kernel
theorem dX5_setTarget_0 : decode cX5_setTarget 0 = .ok (.aload_n 0, 1) := by decide +kernel
theorem dX5_setTarget_1 : decode cX5_setTarget 1 = .ok (.iload_n 1, 1) := by decide +kernel
theorem dX5_setTarget_2 : decode cX5_setTarget 2 = .ok (.iload_n 2, 1) := by decide +kernel
theorem dX5_setTarget_3 : decode cX5_setTarget 3 = .ok (.invokevirtual 111, 3) := by decide +kernel
theorem dX5_setTarget_6 : decode cX5_setTarget 6 = .ok (.ifCond .eq 29, 3) := by decide +kernel
theorem dX5_setTarget_9 : decode cX5_setTarget 9 = .ok (.iload_n 3, 1) := by decide +kernel
theorem dX5_setTarget_10 : decode cX5_setTarget 10 = .ok (.iconst 0, 1) := by decide +kernel
theorem dX5_setTarget_11 : decode cX5_setTarget 11 = .ok (.iconst 3, 1) := by decide +kernel
theorem dX5_setTarget_12 : decode cX5_setTarget 12 = .ok (.invokestatic 41, 3) := by decide +kernel
theorem dX5_setTarget_15 : decode cX5_setTarget 15 = .ok (.ifCond .eq 20, 3) := by decide +kernel
theorem dX5_setTarget_18 : decode cX5_setTarget 18 = .ok (.iload 4, 2) := by decide +kernel
theorem dX5_setTarget_20 : decode cX5_setTarget 20 = .ok (.iconst 1, 1) := by decide +kernel
theorem dX5_setTarget_21 : decode cX5_setTarget 21 = .ok (.iconst 1, 1) := by decide +kernel
theorem dX5_setTarget_22 : decode cX5_setTarget 22 = .ok (.iload_n 3, 1) := by decide +kernel
theorem dX5_setTarget_23 : decode cX5_setTarget 23 = .ok (.invokestatic 70, 3) := by decide +kernel
theorem dX5_setTarget_26 : decode cX5_setTarget 26 = .ok (.ishl, 1) := by decide +kernel
theorem dX5_setTarget_27 : decode cX5_setTarget 27 = .ok (.iconst 1, 1) := by decide +kernel
theorem dX5_setTarget_28 : decode cX5_setTarget 28 = .ok (.isub, 1) := by decide +kernel
theorem dX5_setTarget_29 : decode cX5_setTarget 29 = .ok (.invokestatic 41, 3) := by decide +kernel
theorem dX5_setTarget_32 : decode cX5_setTarget 32 = .ok (.ifCond .ne 5, 3) := by decide +kernel
theorem dX5_setTarget_35 : decode cX5_setTarget 35 = .ok (.iconst (-1), 1) := by decide +kernel
theorem dX5_setTarget_36 : decode cX5_setTarget 36 = .ok (.ireturn, 1) := by decide +kernel
theorem dX5_setTarget_37 : decode cX5_setTarget 37 = .ok (.bipush 42, 2) := by decide +kernel
theorem dX5_setTarget_39 : decode cX5_setTarget 39 = .ok (.iload_n 1, 1) := by decide +kernel
theorem dX5_setTarget_40 : decode cX5_setTarget 40 = .ok (.imul, 1) := by decide +kernel
theorem dX5_setTarget_41 : decode cX5_setTarget 41 = .ok (.iconst 2, 1) := by decide +kernel
theorem dX5_setTarget_42 : decode cX5_setTarget 42 = .ok (.iadd, 1) := by decide +kernel
theorem dX5_setTarget_43 : decode cX5_setTarget 43 = .ok (.iconst 5, 1) := by decide +kernel
theorem dX5_setTarget_44 : decode cX5_setTarget 44 = .ok (.iload_n 2, 1) := by decide +kernel
theorem dX5_setTarget_45 : decode cX5_setTarget 45 = .ok (.imul, 1) := by decide +kernel
theorem dX5_setTarget_46 : decode cX5_setTarget 46 = .ok (.iadd, 1) := by decide +kernel
theorem dX5_setTarget_47 : decode cX5_setTarget 47 = .ok (.iconst 1, 1) := by decide +kernel
theorem dX5_setTarget_48 : decode cX5_setTarget 48 = .ok (.iadd, 1) := by decide +kernel
theorem dX5_setTarget_49 : decode cX5_setTarget 49 = .ok (.iload_n 3, 1) := by decide +kernel
theorem dX5_setTarget_50 : decode cX5_setTarget 50 = .ok (.iadd, 1) := by decide +kernel
theorem dX5_setTarget_51 : decode cX5_setTarget 51 = .ok (.istore 5, 2) := by decide +kernel
theorem dX5_setTarget_53 : decode cX5_setTarget 53 = .ok (.aload_n 0, 1) := by decide +kernel
theorem dX5_setTarget_54 : decode cX5_setTarget 54 = .ok (.getfield 13, 3) := by decide +kernel
theorem dX5_setTarget_57 : decode cX5_setTarget 57 = .ok (.iload 5, 2) := by decide +kernel
theorem dX5_setTarget_59 : decode cX5_setTarget 59 = .ok (.iaload, 1) := by decide +kernel
theorem dX5_setTarget_60 : decode cX5_setTarget 60 = .ok (.istore 6, 2) := by decide +kernel
theorem dX5_setTarget_62 : decode cX5_setTarget 62 = .ok (.iload 6, 2) := by decide +kernel
theorem dX5_setTarget_64 : decode cX5_setTarget 64 = .ok (.iload 4, 2) := by decide +kernel
theorem dX5_setTarget_66 : decode cX5_setTarget 66 = .ok (.if_icmp .ne 6, 3) := by decide +kernel
theorem dX5_setTarget_69 : decode cX5_setTarget 69 = .ok (.bipush (-3), 2) := by decide +kernel
theorem dX5_setTarget_71 : decode cX5_setTarget 71 = .ok (.ireturn, 1) := by decide +kernel
theorem dX5_setTarget_72 : decode cX5_setTarget 72 = .ok (.aload_n 0, 1) := by decide +kernel
theorem dX5_setTarget_73 : decode cX5_setTarget 73 = .ok (.invokevirtual 104, 3) := by decide +kernel
theorem dX5_setTarget_76 : decode cX5_setTarget 76 = .ok (.aload_n 0, 1) := by decide +kernel
theorem dX5_setTarget_77 : decode cX5_setTarget 77 = .ok (.getfield 13, 3) := by decide +kernel
theorem dX5_setTarget_80 : decode cX5_setTarget 80 = .ok (.iload 5, 2) := by decide +kernel
theorem dX5_setTarget_82 : decode cX5_setTarget 82 = .ok (.iload 4, 2) := by decide +kernel
theorem dX5_setTarget_84 : decode cX5_setTarget 84 = .ok (.iastore, 1) := by decide +kernel
theorem dX5_setTarget_85 : decode cX5_setTarget 85 = .ok (.iload 6, 2) := by decide +kernel
theorem dX5_setTarget_87 : decode cX5_setTarget 87 = .ok (.ireturn, 1) := by decide +kernel
theorem dX5_flipEffect_0 : decode cX5_flipEffect 0 = .ok (.aload_n 0, 1) := by decide +kernel
theorem dX5_flipEffect_1 : decode cX5_flipEffect 1 = .ok (.iload_n 1, 1) := by decide +kernel
theorem dX5_flipEffect_2 : decode cX5_flipEffect 2 = .ok (.iload_n 2, 1) := by decide +kernel
theorem dX5_flipEffect_3 : decode cX5_flipEffect 3 = .ok (.invokevirtual 111, 3) := by decide +kernel
theorem dX5_flipEffect_6 : decode cX5_flipEffect 6 = .ok (.ifCond .ne 5, 3) := by decide +kernel
theorem dX5_flipEffect_9 : decode cX5_flipEffect 9 = .ok (.iconst (-1), 1) := by decide +kernel
theorem dX5_flipEffect_10 : decode cX5_flipEffect 10 = .ok (.ireturn, 1) := by decide +kernel
theorem dX5_flipEffect_11 : decode cX5_flipEffect 11 = .ok (.aload_n 0, 1) := by decide +kernel
theorem dX5_flipEffect_12 : decode cX5_flipEffect 12 = .ok (.invokevirtual 104, 3) := by decide +kernel
theorem dX5_flipEffect_15 : decode cX5_flipEffect 15 = .ok (.bipush 42, 2) := by decide +kernel
theorem dX5_flipEffect_17 : decode cX5_flipEffect 17 = .ok (.iload_n 1, 1) := by decide +kernel
theorem dX5_flipEffect_18 : decode cX5_flipEffect 18 = .ok (.imul, 1) := by decide +kernel
theorem dX5_flipEffect_19 : decode cX5_flipEffect 19 = .ok (.iconst 2, 1) := by decide +kernel
theorem dX5_flipEffect_20 : decode cX5_flipEffect 20 = .ok (.iadd, 1) := by decide +kernel
theorem dX5_flipEffect_21 : decode cX5_flipEffect 21 = .ok (.iconst 5, 1) := by decide +kernel
theorem dX5_flipEffect_22 : decode cX5_flipEffect 22 = .ok (.iload_n 2, 1) := by decide +kernel
theorem dX5_flipEffect_23 : decode cX5_flipEffect 23 = .ok (.imul, 1) := by decide +kernel
theorem dX5_flipEffect_24 : decode cX5_flipEffect 24 = .ok (.iadd, 1) := by decide +kernel
theorem dX5_flipEffect_25 : decode cX5_flipEffect 25 = .ok (.istore_n 3, 1) := by decide +kernel
theorem dX5_flipEffect_26 : decode cX5_flipEffect 26 = .ok (.aload_n 0, 1) := by decide +kernel
theorem dX5_flipEffect_27 : decode cX5_flipEffect 27 = .ok (.getfield 13, 3) := by decide +kernel
theorem dX5_flipEffect_30 : decode cX5_flipEffect 30 = .ok (.iload_n 3, 1) := by decide +kernel
theorem dX5_flipEffect_31 : decode cX5_flipEffect 31 = .ok (.iconst 1, 1) := by decide +kernel
theorem dX5_flipEffect_32 : decode cX5_flipEffect 32 = .ok (.aload_n 0, 1) := by decide +kernel
theorem dX5_flipEffect_33 : decode cX5_flipEffect 33 = .ok (.getfield 13, 3) := by decide +kernel
theorem dX5_flipEffect_36 : decode cX5_flipEffect 36 = .ok (.iload_n 3, 1) := by decide +kernel
theorem dX5_flipEffect_37 : decode cX5_flipEffect 37 = .ok (.iaload, 1) := by decide +kernel
theorem dX5_flipEffect_38 : decode cX5_flipEffect 38 = .ok (.isub, 1) := by decide +kernel
theorem dX5_flipEffect_39 : decode cX5_flipEffect 39 = .ok (.iastore, 1) := by decide +kernel
theorem dX5_flipEffect_40 : decode cX5_flipEffect 40 = .ok (.aload_n 0, 1) := by decide +kernel
theorem dX5_flipEffect_41 : decode cX5_flipEffect 41 = .ok (.getfield 13, 3) := by decide +kernel
theorem dX5_flipEffect_44 : decode cX5_flipEffect 44 = .ok (.iload_n 3, 1) := by decide +kernel
theorem dX5_flipEffect_45 : decode cX5_flipEffect 45 = .ok (.iaload, 1) := by decide +kernel
theorem dX5_flipEffect_46 : decode cX5_flipEffect 46 = .ok (.ireturn, 1) := by decide +kernel
theorem dX5_copyOldToNew_0 : decode cX5_copyOldToNew 0 = .ok (.aload_n 0, 1) := by decide +kernel
theorem dX5_copyOldToNew_1 : decode cX5_copyOldToNew 1 = .ok (.invokevirtual 104, 3) := by decide +kernel
theorem dX5_copyOldToNew_4 : decode cX5_copyOldToNew 4 = .ok (.iconst 0, 1) := by decide +kernel
theorem dX5_copyOldToNew_5 : decode cX5_copyOldToNew 5 = .ok (.istore_n 1, 1) := by decide +kernel
theorem dX5_copyOldToNew_6 : decode cX5_copyOldToNew 6 = .ok (.iload_n 1, 1) := by decide +kernel
theorem dX5_copyOldToNew_7 : decode cX5_copyOldToNew 7 = .ok (.bipush 42, 2) := by decide +kernel
theorem dX5_copyOldToNew_9 : decode cX5_copyOldToNew 9 = .ok (.if_icmp .ge 24, 3) := by decide +kernel
theorem dX5_copyOldToNew_12 : decode cX5_copyOldToNew 12 = .ok (.aload_n 0, 1) := by decide +kernel
theorem dX5_copyOldToNew_13 : decode cX5_copyOldToNew 13 = .ok (.getfield 13, 3) := by decide +kernel
theorem dX5_copyOldToNew_16 : decode cX5_copyOldToNew 16 = .ok (.bipush 42, 2) := by decide +kernel
theorem dX5_copyOldToNew_18 : decode cX5_copyOldToNew 18 = .ok (.iload_n 1, 1) := by decide +kernel
theorem dX5_copyOldToNew_19 : decode cX5_copyOldToNew 19 = .ok (.iadd, 1) := by decide +kernel
theorem dX5_copyOldToNew_20 : decode cX5_copyOldToNew 20 = .ok (.aload_n 0, 1) := by decide +kernel
theorem dX5_copyOldToNew_21 : decode cX5_copyOldToNew 21 = .ok (.getfield 13, 3) := by decide +kernel
theorem dX5_copyOldToNew_24 : decode cX5_copyOldToNew 24 = .ok (.iload_n 1, 1) := by decide +kernel
theorem dX5_copyOldToNew_25 : decode cX5_copyOldToNew 25 = .ok (.iaload, 1) := by decide +kernel
theorem dX5_copyOldToNew_26 : decode cX5_copyOldToNew 26 = .ok (.iastore, 1) := by decide +kernel
theorem dX5_copyOldToNew_27 : decode cX5_copyOldToNew 27 = .ok (.iinc 1 1, 3) := by decide +kernel
theorem dX5_copyOldToNew_30 : decode cX5_copyOldToNew 30 = .ok (.goto (-24), 3) := by decide +kernel
theorem dX5_copyOldToNew_33 : decode cX5_copyOldToNew 33 = .ok (.aload_n 0, 1) := by decide +kernel
theorem dX5_copyOldToNew_34 : decode cX5_copyOldToNew 34 = .ok (.getfield 13, 3) := by decide +kernel
theorem dX5_copyOldToNew_37 : decode cX5_copyOldToNew 37 = .ok (.iconst 0, 1) := by decide +kernel
theorem dX5_copyOldToNew_38 : decode cX5_copyOldToNew 38 = .ok (.iaload, 1) := by decide +kernel
theorem dX5_copyOldToNew_39 : decode cX5_copyOldToNew 39 = .ok (.ireturn, 1) := by decide +kernel
theorem dX5_ruleCount_0 : decode cX5_ruleCount 0 = .ok (.iload_n 1, 1) := by decide +kernel
theorem dX5_ruleCount_1 : decode cX5_ruleCount 1 = .ok (.invokestatic 101, 3) := by decide +kernel
theorem dX5_ruleCount_4 : decode cX5_ruleCount 4 = .ok (.ifCond .eq 15, 3) := by decide +kernel
theorem dX5_ruleCount_7 : decode cX5_ruleCount 7 = .ok (.aload_n 0, 1) := by decide +kernel
theorem dX5_ruleCount_8 : decode cX5_ruleCount 8 = .ok (.getfield 13, 3) := by decide +kernel
theorem dX5_ruleCount_11 : decode cX5_ruleCount 11 = .ok (.bipush 42, 2) := by decide +kernel
theorem dX5_ruleCount_13 : decode cX5_ruleCount 13 = .ok (.iload_n 1, 1) := by decide +kernel
theorem dX5_ruleCount_14 : decode cX5_ruleCount 14 = .ok (.imul, 1) := by decide +kernel
theorem dX5_ruleCount_15 : decode cX5_ruleCount 15 = .ok (.iaload, 1) := by decide +kernel
theorem dX5_ruleCount_16 : decode cX5_ruleCount 16 = .ok (.goto 4, 3) := by decide +kernel
theorem dX5_ruleCount_19 : decode cX5_ruleCount 19 = .ok (.iconst (-1), 1) := by decide +kernel
theorem dX5_ruleCount_20 : decode cX5_ruleCount 20 = .ok (.ireturn, 1) := by decide +kernel
theorem dX5_effectOf_0 : decode cX5_effectOf 0 = .ok (.aload_n 0, 1) := by decide +kernel
theorem dX5_effectOf_1 : decode cX5_effectOf 1 = .ok (.iload_n 1, 1) := by decide +kernel
theorem dX5_effectOf_2 : decode cX5_effectOf 2 = .ok (.iload_n 2, 1) := by decide +kernel
theorem dX5_effectOf_3 : decode cX5_effectOf 3 = .ok (.invokevirtual 111, 3) := by decide +kernel
theorem dX5_effectOf_6 : decode cX5_effectOf 6 = .ok (.ifCond .eq 21, 3) := by decide +kernel
theorem dX5_effectOf_9 : decode cX5_effectOf 9 = .ok (.aload_n 0, 1) := by decide +kernel
theorem dX5_effectOf_10 : decode cX5_effectOf 10 = .ok (.getfield 13, 3) := by decide +kernel
theorem dX5_effectOf_13 : decode cX5_effectOf 13 = .ok (.bipush 42, 2) := by decide +kernel
theorem dX5_effectOf_15 : decode cX5_effectOf 15 = .ok (.iload_n 1, 1) := by decide +kernel
theorem dX5_effectOf_16 : decode cX5_effectOf 16 = .ok (.imul, 1) := by decide +kernel
theorem dX5_effectOf_17 : decode cX5_effectOf 17 = .ok (.iconst 2, 1) := by decide +kernel
theorem dX5_effectOf_18 : decode cX5_effectOf 18 = .ok (.iadd, 1) := by decide +kernel
theorem dX5_effectOf_19 : decode cX5_effectOf 19 = .ok (.iconst 5, 1) := by decide +kernel
theorem dX5_effectOf_20 : decode cX5_effectOf 20 = .ok (.iload_n 2, 1) := by decide +kernel
theorem dX5_effectOf_21 : decode cX5_effectOf 21 = .ok (.imul, 1) := by decide +kernel
theorem dX5_effectOf_22 : decode cX5_effectOf 22 = .ok (.iadd, 1) := by decide +kernel
theorem dX5_effectOf_23 : decode cX5_effectOf 23 = .ok (.iaload, 1) := by decide +kernel
theorem dX5_effectOf_24 : decode cX5_effectOf 24 = .ok (.goto 4, 3) := by decide +kernel
theorem dX5_effectOf_27 : decode cX5_effectOf 27 = .ok (.iconst (-1), 1) := by decide +kernel
theorem dX5_effectOf_28 : decode cX5_effectOf 28 = .ok (.ireturn, 1) := by decide +kernel
theorem dX5_targetOf_0 : decode cX5_targetOf 0 = .ok (.aload_n 0, 1) := by decide +kernel
theorem dX5_targetOf_1 : decode cX5_targetOf 1 = .ok (.iload_n 1, 1) := by decide +kernel
theorem dX5_targetOf_2 : decode cX5_targetOf 2 = .ok (.iload_n 2, 1) := by decide +kernel
theorem dX5_targetOf_3 : decode cX5_targetOf 3 = .ok (.invokevirtual 111, 3) := by decide +kernel
theorem dX5_targetOf_6 : decode cX5_targetOf 6 = .ok (.ifCond .eq 34, 3) := by decide +kernel
theorem dX5_targetOf_9 : decode cX5_targetOf 9 = .ok (.iload_n 3, 1) := by decide +kernel
theorem dX5_targetOf_10 : decode cX5_targetOf 10 = .ok (.iconst 0, 1) := by decide +kernel
theorem dX5_targetOf_11 : decode cX5_targetOf 11 = .ok (.iconst 3, 1) := by decide +kernel
theorem dX5_targetOf_12 : decode cX5_targetOf 12 = .ok (.invokestatic 41, 3) := by decide +kernel
theorem dX5_targetOf_15 : decode cX5_targetOf 15 = .ok (.ifCond .eq 25, 3) := by decide +kernel
theorem dX5_targetOf_18 : decode cX5_targetOf 18 = .ok (.aload_n 0, 1) := by decide +kernel
theorem dX5_targetOf_19 : decode cX5_targetOf 19 = .ok (.getfield 13, 3) := by decide +kernel
theorem dX5_targetOf_22 : decode cX5_targetOf 22 = .ok (.bipush 42, 2) := by decide +kernel
theorem dX5_targetOf_24 : decode cX5_targetOf 24 = .ok (.iload_n 1, 1) := by decide +kernel
theorem dX5_targetOf_25 : decode cX5_targetOf 25 = .ok (.imul, 1) := by decide +kernel
theorem dX5_targetOf_26 : decode cX5_targetOf 26 = .ok (.iconst 2, 1) := by decide +kernel
theorem dX5_targetOf_27 : decode cX5_targetOf 27 = .ok (.iadd, 1) := by decide +kernel
theorem dX5_targetOf_28 : decode cX5_targetOf 28 = .ok (.iconst 5, 1) := by decide +kernel
theorem dX5_targetOf_29 : decode cX5_targetOf 29 = .ok (.iload_n 2, 1) := by decide +kernel
theorem dX5_targetOf_30 : decode cX5_targetOf 30 = .ok (.imul, 1) := by decide +kernel
theorem dX5_targetOf_31 : decode cX5_targetOf 31 = .ok (.iadd, 1) := by decide +kernel
theorem dX5_targetOf_32 : decode cX5_targetOf 32 = .ok (.iconst 1, 1) := by decide +kernel
theorem dX5_targetOf_33 : decode cX5_targetOf 33 = .ok (.iadd, 1) := by decide +kernel
theorem dX5_targetOf_34 : decode cX5_targetOf 34 = .ok (.iload_n 3, 1) := by decide +kernel
theorem dX5_targetOf_35 : decode cX5_targetOf 35 = .ok (.iadd, 1) := by decide +kernel
theorem dX5_targetOf_36 : decode cX5_targetOf 36 = .ok (.iaload, 1) := by decide +kernel
theorem dX5_targetOf_37 : decode cX5_targetOf 37 = .ok (.goto 4, 3) := by decide +kernel
theorem dX5_targetOf_40 : decode cX5_targetOf 40 = .ok (.iconst (-1), 1) := by decide +kernel
theorem dX5_targetOf_41 : decode cX5_targetOf 41 = .ok (.ireturn, 1) := by decide +kernel
theorem dX5_algorithmOf_0 : decode cX5_algorithmOf 0 = .ok (.iload_n 1, 1) := by decide +kernel
theorem dX5_algorithmOf_1 : decode cX5_algorithmOf 1 = .ok (.invokestatic 101, 3) := by decide +kernel
theorem dX5_algorithmOf_4 : decode cX5_algorithmOf 4 = .ok (.ifCond .eq 17, 3) := by decide +kernel
theorem dX5_algorithmOf_7 : decode cX5_algorithmOf 7 = .ok (.aload_n 0, 1) := by decide +kernel
theorem dX5_algorithmOf_8 : decode cX5_algorithmOf 8 = .ok (.getfield 13, 3) := by decide +kernel
theorem dX5_algorithmOf_11 : decode cX5_algorithmOf 11 = .ok (.bipush 42, 2) := by decide +kernel
theorem dX5_algorithmOf_13 : decode cX5_algorithmOf 13 = .ok (.iload_n 1, 1) := by decide +kernel
theorem dX5_algorithmOf_14 : decode cX5_algorithmOf 14 = .ok (.imul, 1) := by decide +kernel
theorem dX5_algorithmOf_15 : decode cX5_algorithmOf 15 = .ok (.iconst 1, 1) := by decide +kernel
theorem dX5_algorithmOf_16 : decode cX5_algorithmOf 16 = .ok (.iadd, 1) := by decide +kernel
theorem dX5_algorithmOf_17 : decode cX5_algorithmOf 17 = .ok (.iaload, 1) := by decide +kernel
theorem dX5_algorithmOf_18 : decode cX5_algorithmOf 18 = .ok (.goto 4, 3) := by decide +kernel
theorem dX5_algorithmOf_21 : decode cX5_algorithmOf 21 = .ok (.iconst (-1), 1) := by decide +kernel
theorem dX5_algorithmOf_22 : decode cX5_algorithmOf 22 = .ok (.ireturn, 1) := by decide +kernel
theorem dX5_partOf_0 : decode cX5_partOf 0 = .ok (.iload_n 1, 1) := by decide +kernel
theorem dX5_partOf_1 : decode cX5_partOf 1 = .ok (.tableswitch 47 0 2 #[27, 33, 40], 27) := by decide +kernel
theorem dX5_partOf_28 : decode cX5_partOf 28 = .ok (.iload_n 0, 1) := by decide +kernel
theorem dX5_partOf_29 : decode cX5_partOf 29 = .ok (.sipush 128, 3) := by decide +kernel
theorem dX5_partOf_32 : decode cX5_partOf 32 = .ok (.idiv, 1) := by decide +kernel
theorem dX5_partOf_33 : decode cX5_partOf 33 = .ok (.ireturn, 1) := by decide +kernel
theorem dX5_partOf_34 : decode cX5_partOf 34 = .ok (.iload_n 0, 1) := by decide +kernel
theorem dX5_partOf_35 : decode cX5_partOf 35 = .ok (.bipush 32, 2) := by decide +kernel
theorem dX5_partOf_37 : decode cX5_partOf 37 = .ok (.idiv, 1) := by decide +kernel
theorem dX5_partOf_38 : decode cX5_partOf 38 = .ok (.iconst 4, 1) := by decide +kernel
theorem dX5_partOf_39 : decode cX5_partOf 39 = .ok (.irem, 1) := by decide +kernel
theorem dX5_partOf_40 : decode cX5_partOf 40 = .ok (.ireturn, 1) := by decide +kernel
theorem dX5_partOf_41 : decode cX5_partOf 41 = .ok (.iload_n 0, 1) := by decide +kernel
theorem dX5_partOf_42 : decode cX5_partOf 42 = .ok (.iconst 4, 1) := by decide +kernel
theorem dX5_partOf_43 : decode cX5_partOf 43 = .ok (.idiv, 1) := by decide +kernel
theorem dX5_partOf_44 : decode cX5_partOf 44 = .ok (.bipush 8, 2) := by decide +kernel
theorem dX5_partOf_46 : decode cX5_partOf 46 = .ok (.irem, 1) := by decide +kernel
theorem dX5_partOf_47 : decode cX5_partOf 47 = .ok (.ireturn, 1) := by decide +kernel
theorem dX5_partOf_48 : decode cX5_partOf 48 = .ok (.iload_n 0, 1) := by decide +kernel
theorem dX5_partOf_49 : decode cX5_partOf 49 = .ok (.iconst 4, 1) := by decide +kernel
theorem dX5_partOf_50 : decode cX5_partOf 50 = .ok (.irem, 1) := by decide +kernel
theorem dX5_partOf_51 : decode cX5_partOf 51 = .ok (.ireturn, 1) := by decide +kernel
theorem dX5_rulesFor_0 : decode cX5_rulesFor 0 = .ok (.iconst 0, 1) := by decide +kernel
theorem dX5_rulesFor_1 : decode cX5_rulesFor 1 = .ok (.istore_n 3, 1) := by decide +kernel
theorem dX5_rulesFor_2 : decode cX5_rulesFor 2 = .ok (.iconst 0, 1) := by decide +kernel
theorem dX5_rulesFor_3 : decode cX5_rulesFor 3 = .ok (.istore 4, 2) := by decide +kernel
theorem dX5_rulesFor_5 : decode cX5_rulesFor 5 = .ok (.iload 4, 2) := by decide +kernel
theorem dX5_rulesFor_7 : decode cX5_rulesFor 7 = .ok (.aload_n 0, 1) := by decide +kernel
theorem dX5_rulesFor_8 : decode cX5_rulesFor 8 = .ok (.getfield 13, 3) := by decide +kernel
theorem dX5_rulesFor_11 : decode cX5_rulesFor 11 = .ok (.bipush 42, 2) := by decide +kernel
theorem dX5_rulesFor_13 : decode cX5_rulesFor 13 = .ok (.iload_n 1, 1) := by decide +kernel
theorem dX5_rulesFor_14 : decode cX5_rulesFor 14 = .ok (.imul, 1) := by decide +kernel
theorem dX5_rulesFor_15 : decode cX5_rulesFor 15 = .ok (.iaload, 1) := by decide +kernel
theorem dX5_rulesFor_16 : decode cX5_rulesFor 16 = .ok (.if_icmp .ge 92, 3) := by decide +kernel
theorem dX5_rulesFor_19 : decode cX5_rulesFor 19 = .ok (.bipush 42, 2) := by decide +kernel
theorem dX5_rulesFor_21 : decode cX5_rulesFor 21 = .ok (.iload_n 1, 1) := by decide +kernel
theorem dX5_rulesFor_22 : decode cX5_rulesFor 22 = .ok (.imul, 1) := by decide +kernel
theorem dX5_rulesFor_23 : decode cX5_rulesFor 23 = .ok (.iconst 2, 1) := by decide +kernel
theorem dX5_rulesFor_24 : decode cX5_rulesFor 24 = .ok (.iadd, 1) := by decide +kernel
theorem dX5_rulesFor_25 : decode cX5_rulesFor 25 = .ok (.iconst 5, 1) := by decide +kernel
theorem dX5_rulesFor_26 : decode cX5_rulesFor 26 = .ok (.iload 4, 2) := by decide +kernel
theorem dX5_rulesFor_28 : decode cX5_rulesFor 28 = .ok (.imul, 1) := by decide +kernel
theorem dX5_rulesFor_29 : decode cX5_rulesFor 29 = .ok (.iadd, 1) := by decide +kernel
theorem dX5_rulesFor_30 : decode cX5_rulesFor 30 = .ok (.iconst 1, 1) := by decide +kernel
theorem dX5_rulesFor_31 : decode cX5_rulesFor 31 = .ok (.iadd, 1) := by decide +kernel
theorem dX5_rulesFor_32 : decode cX5_rulesFor 32 = .ok (.istore 5, 2) := by decide +kernel
theorem dX5_rulesFor_34 : decode cX5_rulesFor 34 = .ok (.iconst 1, 1) := by decide +kernel
theorem dX5_rulesFor_35 : decode cX5_rulesFor 35 = .ok (.istore 6, 2) := by decide +kernel
theorem dX5_rulesFor_37 : decode cX5_rulesFor 37 = .ok (.iconst 0, 1) := by decide +kernel
theorem dX5_rulesFor_38 : decode cX5_rulesFor 38 = .ok (.istore 7, 2) := by decide +kernel
theorem dX5_rulesFor_40 : decode cX5_rulesFor 40 = .ok (.iload 7, 2) := by decide +kernel
theorem dX5_rulesFor_42 : decode cX5_rulesFor 42 = .ok (.iconst 4, 1) := by decide +kernel
theorem dX5_rulesFor_43 : decode cX5_rulesFor 43 = .ok (.if_icmp .ge 43, 3) := by decide +kernel
theorem dX5_rulesFor_46 : decode cX5_rulesFor 46 = .ok (.iload 6, 2) := by decide +kernel
theorem dX5_rulesFor_48 : decode cX5_rulesFor 48 = .ok (.ifCond .eq 29, 3) := by decide +kernel
theorem dX5_rulesFor_51 : decode cX5_rulesFor 51 = .ok (.aload_n 0, 1) := by decide +kernel
theorem dX5_rulesFor_52 : decode cX5_rulesFor 52 = .ok (.getfield 13, 3) := by decide +kernel
theorem dX5_rulesFor_55 : decode cX5_rulesFor 55 = .ok (.iload 5, 2) := by decide +kernel
theorem dX5_rulesFor_57 : decode cX5_rulesFor 57 = .ok (.iload 7, 2) := by decide +kernel
theorem dX5_rulesFor_59 : decode cX5_rulesFor 59 = .ok (.iadd, 1) := by decide +kernel
theorem dX5_rulesFor_60 : decode cX5_rulesFor 60 = .ok (.iaload, 1) := by decide +kernel
theorem dX5_rulesFor_61 : decode cX5_rulesFor 61 = .ok (.iload_n 2, 1) := by decide +kernel
theorem dX5_rulesFor_62 : decode cX5_rulesFor 62 = .ok (.iload 7, 2) := by decide +kernel
theorem dX5_rulesFor_64 : decode cX5_rulesFor 64 = .ok (.invokestatic 118, 3) := by decide +kernel
theorem dX5_rulesFor_67 : decode cX5_rulesFor 67 = .ok (.invokestatic 67, 3) := by decide +kernel
theorem dX5_rulesFor_70 : decode cX5_rulesFor 70 = .ok (.ifCond .eq 7, 3) := by decide +kernel
theorem dX5_rulesFor_73 : decode cX5_rulesFor 73 = .ok (.iconst 1, 1) := by decide +kernel
theorem dX5_rulesFor_74 : decode cX5_rulesFor 74 = .ok (.goto 4, 3) := by decide +kernel
theorem dX5_rulesFor_77 : decode cX5_rulesFor 77 = .ok (.iconst 0, 1) := by decide +kernel
theorem dX5_rulesFor_78 : decode cX5_rulesFor 78 = .ok (.istore 6, 2) := by decide +kernel
theorem dX5_rulesFor_80 : decode cX5_rulesFor 80 = .ok (.iinc 7 1, 3) := by decide +kernel
theorem dX5_rulesFor_83 : decode cX5_rulesFor 83 = .ok (.goto (-43), 3) := by decide +kernel
theorem dX5_rulesFor_86 : decode cX5_rulesFor 86 = .ok (.iload_n 3, 1) := by decide +kernel
theorem dX5_rulesFor_87 : decode cX5_rulesFor 87 = .ok (.iload 6, 2) := by decide +kernel
theorem dX5_rulesFor_89 : decode cX5_rulesFor 89 = .ok (.ifCond .eq 10, 3) := by decide +kernel
theorem dX5_rulesFor_92 : decode cX5_rulesFor 92 = .ok (.iconst 1, 1) := by decide +kernel
theorem dX5_rulesFor_93 : decode cX5_rulesFor 93 = .ok (.iload 4, 2) := by decide +kernel
theorem dX5_rulesFor_95 : decode cX5_rulesFor 95 = .ok (.ishl, 1) := by decide +kernel
theorem dX5_rulesFor_96 : decode cX5_rulesFor 96 = .ok (.goto 4, 3) := by decide +kernel
theorem dX5_rulesFor_99 : decode cX5_rulesFor 99 = .ok (.iconst 0, 1) := by decide +kernel
theorem dX5_rulesFor_100 : decode cX5_rulesFor 100 = .ok (.ior, 1) := by decide +kernel
theorem dX5_rulesFor_101 : decode cX5_rulesFor 101 = .ok (.istore_n 3, 1) := by decide +kernel
theorem dX5_rulesFor_102 : decode cX5_rulesFor 102 = .ok (.iinc 4 1, 3) := by decide +kernel
theorem dX5_rulesFor_105 : decode cX5_rulesFor 105 = .ok (.goto (-100), 3) := by decide +kernel
theorem dX5_rulesFor_108 : decode cX5_rulesFor 108 = .ok (.iload_n 3, 1) := by decide +kernel
theorem dX5_rulesFor_109 : decode cX5_rulesFor 109 = .ok (.ireturn, 1) := by decide +kernel
theorem dX5_bits_0 : decode cX5_bits 0 = .ok (.iconst 0, 1) := by decide +kernel
theorem dX5_bits_1 : decode cX5_bits 1 = .ok (.istore_n 1, 1) := by decide +kernel
theorem dX5_bits_2 : decode cX5_bits 2 = .ok (.iconst 0, 1) := by decide +kernel
theorem dX5_bits_3 : decode cX5_bits 3 = .ok (.istore_n 2, 1) := by decide +kernel
theorem dX5_bits_4 : decode cX5_bits 4 = .ok (.iload_n 2, 1) := by decide +kernel
theorem dX5_bits_5 : decode cX5_bits 5 = .ok (.bipush 8, 2) := by decide +kernel
theorem dX5_bits_7 : decode cX5_bits 7 = .ok (.if_icmp .ge 17, 3) := by decide +kernel
theorem dX5_bits_10 : decode cX5_bits 10 = .ok (.iload_n 1, 1) := by decide +kernel
theorem dX5_bits_11 : decode cX5_bits 11 = .ok (.iload_n 0, 1) := by decide +kernel
theorem dX5_bits_12 : decode cX5_bits 12 = .ok (.iload_n 2, 1) := by decide +kernel
theorem dX5_bits_13 : decode cX5_bits 13 = .ok (.ishr, 1) := by decide +kernel
theorem dX5_bits_14 : decode cX5_bits 14 = .ok (.iconst 1, 1) := by decide +kernel
theorem dX5_bits_15 : decode cX5_bits 15 = .ok (.iand, 1) := by decide +kernel
theorem dX5_bits_16 : decode cX5_bits 16 = .ok (.iadd, 1) := by decide +kernel
theorem dX5_bits_17 : decode cX5_bits 17 = .ok (.istore_n 1, 1) := by decide +kernel
theorem dX5_bits_18 : decode cX5_bits 18 = .ok (.iinc 2 1, 3) := by decide +kernel
theorem dX5_bits_21 : decode cX5_bits 21 = .ok (.goto (-17), 3) := by decide +kernel
theorem dX5_bits_24 : decode cX5_bits 24 = .ok (.iload_n 1, 1) := by decide +kernel
theorem dX5_bits_25 : decode cX5_bits 25 = .ok (.ireturn, 1) := by decide +kernel
theorem dX5_permits_0 : decode cX5_permits 0 = .ok (.iconst 0, 1) := by decide +kernel
theorem dX5_permits_1 : decode cX5_permits 1 = .ok (.istore_n 2, 1) := by decide +kernel
theorem dX5_permits_2 : decode cX5_permits 2 = .ok (.iconst 0, 1) := by decide +kernel
theorem dX5_permits_3 : decode cX5_permits 3 = .ok (.istore_n 3, 1) := by decide +kernel
theorem dX5_permits_4 : decode cX5_permits 4 = .ok (.iload_n 3, 1) := by decide +kernel
theorem dX5_permits_5 : decode cX5_permits 5 = .ok (.aload_n 0, 1) := by decide +kernel
theorem dX5_permits_6 : decode cX5_permits 6 = .ok (.getfield 13, 3) := by decide +kernel
theorem dX5_permits_9 : decode cX5_permits 9 = .ok (.bipush 42, 2) := by decide +kernel
theorem dX5_permits_11 : decode cX5_permits 11 = .ok (.iload_n 1, 1) := by decide +kernel
theorem dX5_permits_12 : decode cX5_permits 12 = .ok (.imul, 1) := by decide +kernel
theorem dX5_permits_13 : decode cX5_permits 13 = .ok (.iaload, 1) := by decide +kernel
theorem dX5_permits_14 : decode cX5_permits 14 = .ok (.if_icmp .ge 37, 3) := by decide +kernel
theorem dX5_permits_17 : decode cX5_permits 17 = .ok (.iload_n 2, 1) := by decide +kernel
theorem dX5_permits_18 : decode cX5_permits 18 = .ok (.aload_n 0, 1) := by decide +kernel
theorem dX5_permits_19 : decode cX5_permits 19 = .ok (.getfield 13, 3) := by decide +kernel
theorem dX5_permits_22 : decode cX5_permits 22 = .ok (.bipush 42, 2) := by decide +kernel
theorem dX5_permits_24 : decode cX5_permits 24 = .ok (.iload_n 1, 1) := by decide +kernel
theorem dX5_permits_25 : decode cX5_permits 25 = .ok (.imul, 1) := by decide +kernel
theorem dX5_permits_26 : decode cX5_permits 26 = .ok (.iconst 2, 1) := by decide +kernel
theorem dX5_permits_27 : decode cX5_permits 27 = .ok (.iadd, 1) := by decide +kernel
theorem dX5_permits_28 : decode cX5_permits 28 = .ok (.iconst 5, 1) := by decide +kernel
theorem dX5_permits_29 : decode cX5_permits 29 = .ok (.iload_n 3, 1) := by decide +kernel
theorem dX5_permits_30 : decode cX5_permits 30 = .ok (.imul, 1) := by decide +kernel
theorem dX5_permits_31 : decode cX5_permits 31 = .ok (.iadd, 1) := by decide +kernel
theorem dX5_permits_32 : decode cX5_permits 32 = .ok (.iaload, 1) := by decide +kernel
theorem dX5_permits_33 : decode cX5_permits 33 = .ok (.ifCond .ne 9, 3) := by decide +kernel
theorem dX5_permits_36 : decode cX5_permits 36 = .ok (.iconst 1, 1) := by decide +kernel
theorem dX5_permits_37 : decode cX5_permits 37 = .ok (.iload_n 3, 1) := by decide +kernel
theorem dX5_permits_38 : decode cX5_permits 38 = .ok (.ishl, 1) := by decide +kernel
theorem dX5_permits_39 : decode cX5_permits 39 = .ok (.goto 4, 3) := by decide +kernel
theorem dX5_permits_42 : decode cX5_permits 42 = .ok (.iconst 0, 1) := by decide +kernel
theorem dX5_permits_43 : decode cX5_permits 43 = .ok (.ior, 1) := by decide +kernel
theorem dX5_permits_44 : decode cX5_permits 44 = .ok (.istore_n 2, 1) := by decide +kernel
theorem dX5_permits_45 : decode cX5_permits 45 = .ok (.iinc 3 1, 3) := by decide +kernel
theorem dX5_permits_48 : decode cX5_permits 48 = .ok (.goto (-44), 3) := by decide +kernel
theorem dX5_permits_51 : decode cX5_permits 51 = .ok (.iload_n 2, 1) := by decide +kernel
theorem dX5_permits_52 : decode cX5_permits 52 = .ok (.ireturn, 1) := by decide +kernel
theorem dX5_decided_0 : decode cX5_decided 0 = .ok (.iload_n 1, 1) := by decide +kernel
theorem dX5_decided_1 : decode cX5_decided 1 = .ok (.ifCond .ne 5, 3) := by decide +kernel
theorem dX5_decided_4 : decode cX5_decided 4 = .ok (.iconst 2, 1) := by decide +kernel
theorem dX5_decided_5 : decode cX5_decided 5 = .ok (.ireturn, 1) := by decide +kernel
theorem dX5_decided_6 : decode cX5_decided 6 = .ok (.iload_n 1, 1) := by decide +kernel
theorem dX5_decided_7 : decode cX5_decided 7 = .ok (.iload_n 2, 1) := by decide +kernel
theorem dX5_decided_8 : decode cX5_decided 8 = .ok (.iand, 1) := by decide +kernel
theorem dX5_decided_9 : decode cX5_decided 9 = .ok (.invokestatic 122, 3) := by decide +kernel
theorem dX5_decided_12 : decode cX5_decided 12 = .ok (.istore_n 3, 1) := by decide +kernel
theorem dX5_decided_13 : decode cX5_decided 13 = .ok (.iload_n 1, 1) := by decide +kernel
theorem dX5_decided_14 : decode cX5_decided 14 = .ok (.invokestatic 122, 3) := by decide +kernel
theorem dX5_decided_17 : decode cX5_decided 17 = .ok (.iload_n 3, 1) := by decide +kernel
theorem dX5_decided_18 : decode cX5_decided 18 = .ok (.isub, 1) := by decide +kernel
theorem dX5_decided_19 : decode cX5_decided 19 = .ok (.istore 4, 2) := by decide +kernel
theorem dX5_decided_21 : decode cX5_decided 21 = .ok (.iload_n 0, 1) := by decide +kernel
theorem dX5_decided_22 : decode cX5_decided 22 = .ok (.tableswitch 93 0 3 #[30, 49, 60, 70], 30) := by decide +kernel
theorem dX5_decided_52 : decode cX5_decided 52 = .ok (.iload_n 1, 1) := by decide +kernel
theorem dX5_decided_53 : decode cX5_decided 53 = .ok (.iload_n 1, 1) := by decide +kernel
theorem dX5_decided_54 : decode cX5_decided 54 = .ok (.ineg, 1) := by decide +kernel
theorem dX5_decided_55 : decode cX5_decided 55 = .ok (.iand, 1) := by decide +kernel
theorem dX5_decided_56 : decode cX5_decided 56 = .ok (.istore 5, 2) := by decide +kernel
theorem dX5_decided_58 : decode cX5_decided 58 = .ok (.iload 5, 2) := by decide +kernel
theorem dX5_decided_60 : decode cX5_decided 60 = .ok (.iload_n 2, 1) := by decide +kernel
theorem dX5_decided_61 : decode cX5_decided 61 = .ok (.iand, 1) := by decide +kernel
theorem dX5_decided_62 : decode cX5_decided 62 = .ok (.ifCond .eq 7, 3) := by decide +kernel
theorem dX5_decided_65 : decode cX5_decided 65 = .ok (.iconst 0, 1) := by decide +kernel
theorem dX5_decided_66 : decode cX5_decided 66 = .ok (.goto 4, 3) := by decide +kernel
theorem dX5_decided_69 : decode cX5_decided 69 = .ok (.iconst 1, 1) := by decide +kernel
theorem dX5_decided_70 : decode cX5_decided 70 = .ok (.ireturn, 1) := by decide +kernel
theorem dX5_decided_71 : decode cX5_decided 71 = .ok (.iload 4, 2) := by decide +kernel
theorem dX5_decided_73 : decode cX5_decided 73 = .ok (.ifCond .le 7, 3) := by decide +kernel
theorem dX5_decided_76 : decode cX5_decided 76 = .ok (.iconst 1, 1) := by decide +kernel
theorem dX5_decided_77 : decode cX5_decided 77 = .ok (.goto 4, 3) := by decide +kernel
theorem dX5_decided_80 : decode cX5_decided 80 = .ok (.iconst 0, 1) := by decide +kernel
theorem dX5_decided_81 : decode cX5_decided 81 = .ok (.ireturn, 1) := by decide +kernel
theorem dX5_decided_82 : decode cX5_decided 82 = .ok (.iload_n 3, 1) := by decide +kernel
theorem dX5_decided_83 : decode cX5_decided 83 = .ok (.ifCond .le 7, 3) := by decide +kernel
theorem dX5_decided_86 : decode cX5_decided 86 = .ok (.iconst 0, 1) := by decide +kernel
theorem dX5_decided_87 : decode cX5_decided 87 = .ok (.goto 4, 3) := by decide +kernel
theorem dX5_decided_90 : decode cX5_decided 90 = .ok (.iconst 1, 1) := by decide +kernel
theorem dX5_decided_91 : decode cX5_decided 91 = .ok (.ireturn, 1) := by decide +kernel
theorem dX5_decided_92 : decode cX5_decided 92 = .ok (.iload_n 3, 1) := by decide +kernel
theorem dX5_decided_93 : decode cX5_decided 93 = .ok (.iload 4, 2) := by decide +kernel
theorem dX5_decided_95 : decode cX5_decided 95 = .ok (.iadd, 1) := by decide +kernel
theorem dX5_decided_96 : decode cX5_decided 96 = .ok (.iconst 1, 1) := by decide +kernel
theorem dX5_decided_97 : decode cX5_decided 97 = .ok (.if_icmp .le 7, 3) := by decide +kernel
theorem dX5_decided_100 : decode cX5_decided 100 = .ok (.iconst 3, 1) := by decide +kernel
theorem dX5_decided_101 : decode cX5_decided 101 = .ok (.goto 13, 3) := by decide +kernel
theorem dX5_decided_104 : decode cX5_decided 104 = .ok (.iload_n 3, 1) := by decide +kernel
theorem dX5_decided_105 : decode cX5_decided 105 = .ok (.iconst 1, 1) := by decide +kernel
theorem dX5_decided_106 : decode cX5_decided 106 = .ok (.if_icmp .ne 7, 3) := by decide +kernel
theorem dX5_decided_109 : decode cX5_decided 109 = .ok (.iconst 0, 1) := by decide +kernel
theorem dX5_decided_110 : decode cX5_decided 110 = .ok (.goto 4, 3) := by decide +kernel
theorem dX5_decided_113 : decode cX5_decided 113 = .ok (.iconst 1, 1) := by decide +kernel
theorem dX5_decided_114 : decode cX5_decided 114 = .ok (.ireturn, 1) := by decide +kernel
theorem dX5_decided_115 : decode cX5_decided 115 = .ok (.iload_n 3, 1) := by decide +kernel
theorem dX5_decided_116 : decode cX5_decided 116 = .ok (.iload 4, 2) := by decide +kernel
theorem dX5_decided_118 : decode cX5_decided 118 = .ok (.if_icmp .le 7, 3) := by decide +kernel
theorem dX5_decided_121 : decode cX5_decided 121 = .ok (.iconst 0, 1) := by decide +kernel
theorem dX5_decided_122 : decode cX5_decided 122 = .ok (.goto 14, 3) := by decide +kernel
theorem dX5_decided_125 : decode cX5_decided 125 = .ok (.iload_n 3, 1) := by decide +kernel
theorem dX5_decided_126 : decode cX5_decided 126 = .ok (.iload 4, 2) := by decide +kernel
theorem dX5_decided_128 : decode cX5_decided 128 = .ok (.if_icmp .ge 7, 3) := by decide +kernel
theorem dX5_decided_131 : decode cX5_decided 131 = .ok (.iconst 1, 1) := by decide +kernel
theorem dX5_decided_132 : decode cX5_decided 132 = .ok (.goto 4, 3) := by decide +kernel
theorem dX5_decided_135 : decode cX5_decided 135 = .ok (.iconst 3, 1) := by decide +kernel
theorem dX5_decided_136 : decode cX5_decided 136 = .ok (.ireturn, 1) := by decide +kernel
theorem dX5_decision_0 : decode cX5_decision 0 = .ok (.aload_n 0, 1) := by decide +kernel
theorem dX5_decision_1 : decode cX5_decision 1 = .ok (.getfield 13, 3) := by decide +kernel
theorem dX5_decision_4 : decode cX5_decision 4 = .ok (.bipush 42, 2) := by decide +kernel
theorem dX5_decision_6 : decode cX5_decision 6 = .ok (.iload_n 1, 1) := by decide +kernel
theorem dX5_decision_7 : decode cX5_decision 7 = .ok (.imul, 1) := by decide +kernel
theorem dX5_decision_8 : decode cX5_decision 8 = .ok (.iconst 1, 1) := by decide +kernel
theorem dX5_decision_9 : decode cX5_decision 9 = .ok (.iadd, 1) := by decide +kernel
theorem dX5_decision_10 : decode cX5_decision 10 = .ok (.iaload, 1) := by decide +kernel
theorem dX5_decision_11 : decode cX5_decision 11 = .ok (.aload_n 0, 1) := by decide +kernel
theorem dX5_decision_12 : decode cX5_decision 12 = .ok (.iload_n 1, 1) := by decide +kernel
theorem dX5_decision_13 : decode cX5_decision 13 = .ok (.iload_n 2, 1) := by decide +kernel
theorem dX5_decision_14 : decode cX5_decision 14 = .ok (.invokevirtual 125, 3) := by decide +kernel
theorem dX5_decision_17 : decode cX5_decision 17 = .ok (.aload_n 0, 1) := by decide +kernel
theorem dX5_decision_18 : decode cX5_decision 18 = .ok (.iload_n 1, 1) := by decide +kernel
theorem dX5_decision_19 : decode cX5_decision 19 = .ok (.invokevirtual 128, 3) := by decide +kernel
theorem dX5_decision_22 : decode cX5_decision 22 = .ok (.invokestatic 131, 3) := by decide +kernel
theorem dX5_decision_25 : decode cX5_decision 25 = .ok (.ireturn, 1) := by decide +kernel
theorem dX5_isRequest_0 : decode cX5_isRequest 0 = .ok (.iload_n 0, 1) := by decide +kernel
theorem dX5_isRequest_1 : decode cX5_isRequest 1 = .ok (.iconst 0, 1) := by decide +kernel
theorem dX5_isRequest_2 : decode cX5_isRequest 2 = .ok (.sipush 1023, 3) := by decide +kernel
theorem dX5_isRequest_5 : decode cX5_isRequest 5 = .ok (.invokestatic 41, 3) := by decide +kernel
theorem dX5_isRequest_8 : decode cX5_isRequest 8 = .ok (.ireturn, 1) := by decide +kernel
theorem dX5_decide_0 : decode cX5_decide 0 = .ok (.iload_n 1, 1) := by decide +kernel
theorem dX5_decide_1 : decode cX5_decide 1 = .ok (.invokestatic 101, 3) := by decide +kernel
theorem dX5_decide_4 : decode cX5_decide 4 = .ok (.ifCond .eq 19, 3) := by decide +kernel
theorem dX5_decide_7 : decode cX5_decide 7 = .ok (.iload_n 2, 1) := by decide +kernel
theorem dX5_decide_8 : decode cX5_decide 8 = .ok (.invokestatic 135, 3) := by decide +kernel
theorem dX5_decide_11 : decode cX5_decide 11 = .ok (.ifCond .eq 12, 3) := by decide +kernel
theorem dX5_decide_14 : decode cX5_decide 14 = .ok (.aload_n 0, 1) := by decide +kernel
theorem dX5_decide_15 : decode cX5_decide 15 = .ok (.iload_n 1, 1) := by decide +kernel
theorem dX5_decide_16 : decode cX5_decide 16 = .ok (.iload_n 2, 1) := by decide +kernel
theorem dX5_decide_17 : decode cX5_decide 17 = .ok (.invokevirtual 138, 3) := by decide +kernel
theorem dX5_decide_20 : decode cX5_decide 20 = .ok (.goto 4, 3) := by decide +kernel
theorem dX5_decide_23 : decode cX5_decide 23 = .ok (.iconst (-1), 1) := by decide +kernel
theorem dX5_decide_24 : decode cX5_decide 24 = .ok (.ireturn, 1) := by decide +kernel
theorem dX5_decisionCount_0 : decode cX5_decisionCount 0 = .ok (.iload_n 1, 1) := by decide +kernel
theorem dX5_decisionCount_1 : decode cX5_decisionCount 1 = .ok (.invokestatic 101, 3) := by decide +kernel
theorem dX5_decisionCount_4 : decode cX5_decisionCount 4 = .ok (.ifCond .eq 12, 3) := by decide +kernel
theorem dX5_decisionCount_7 : decode cX5_decisionCount 7 = .ok (.iload_n 2, 1) := by decide +kernel
theorem dX5_decisionCount_8 : decode cX5_decisionCount 8 = .ok (.iconst 0, 1) := by decide +kernel
theorem dX5_decisionCount_9 : decode cX5_decisionCount 9 = .ok (.iconst 3, 1) := by decide +kernel
theorem dX5_decisionCount_10 : decode cX5_decisionCount 10 = .ok (.invokestatic 41, 3) := by decide +kernel
theorem dX5_decisionCount_13 : decode cX5_decisionCount 13 = .ok (.ifCond .ne 5, 3) := by decide +kernel
theorem dX5_decisionCount_16 : decode cX5_decisionCount 16 = .ok (.iconst (-1), 1) := by decide +kernel
theorem dX5_decisionCount_17 : decode cX5_decisionCount 17 = .ok (.ireturn, 1) := by decide +kernel
theorem dX5_decisionCount_18 : decode cX5_decisionCount 18 = .ok (.iconst 0, 1) := by decide +kernel
theorem dX5_decisionCount_19 : decode cX5_decisionCount 19 = .ok (.istore_n 3, 1) := by decide +kernel
theorem dX5_decisionCount_20 : decode cX5_decisionCount 20 = .ok (.iconst 0, 1) := by decide +kernel
theorem dX5_decisionCount_21 : decode cX5_decisionCount 21 = .ok (.istore 4, 2) := by decide +kernel
theorem dX5_decisionCount_23 : decode cX5_decisionCount 23 = .ok (.iload 4, 2) := by decide +kernel
theorem dX5_decisionCount_25 : decode cX5_decisionCount 25 = .ok (.sipush 1024, 3) := by decide +kernel
theorem dX5_decisionCount_28 : decode cX5_decisionCount 28 = .ok (.if_icmp .ge 28, 3) := by decide +kernel
theorem dX5_decisionCount_31 : decode cX5_decisionCount 31 = .ok (.iload_n 3, 1) := by decide +kernel
theorem dX5_decisionCount_32 : decode cX5_decisionCount 32 = .ok (.aload_n 0, 1) := by decide +kernel
theorem dX5_decisionCount_33 : decode cX5_decisionCount 33 = .ok (.iload_n 1, 1) := by decide +kernel
theorem dX5_decisionCount_34 : decode cX5_decisionCount 34 = .ok (.iload 4, 2) := by decide +kernel
theorem dX5_decisionCount_36 : decode cX5_decisionCount 36 = .ok (.invokevirtual 138, 3) := by decide +kernel
theorem dX5_decisionCount_39 : decode cX5_decisionCount 39 = .ok (.iload_n 2, 1) := by decide +kernel
theorem dX5_decisionCount_40 : decode cX5_decisionCount 40 = .ok (.if_icmp .ne 7, 3) := by decide +kernel
theorem dX5_decisionCount_43 : decode cX5_decisionCount 43 = .ok (.iconst 1, 1) := by decide +kernel
theorem dX5_decisionCount_44 : decode cX5_decisionCount 44 = .ok (.goto 4, 3) := by decide +kernel
theorem dX5_decisionCount_47 : decode cX5_decisionCount 47 = .ok (.iconst 0, 1) := by decide +kernel
theorem dX5_decisionCount_48 : decode cX5_decisionCount 48 = .ok (.iadd, 1) := by decide +kernel
theorem dX5_decisionCount_49 : decode cX5_decisionCount 49 = .ok (.istore_n 3, 1) := by decide +kernel
theorem dX5_decisionCount_50 : decode cX5_decisionCount 50 = .ok (.iinc 4 1, 3) := by decide +kernel
theorem dX5_decisionCount_53 : decode cX5_decisionCount 53 = .ok (.goto (-30), 3) := by decide +kernel
theorem dX5_decisionCount_56 : decode cX5_decisionCount 56 = .ok (.iload_n 3, 1) := by decide +kernel
theorem dX5_decisionCount_57 : decode cX5_decisionCount 57 = .ok (.ireturn, 1) := by decide +kernel
theorem dX5_applicableRules_0 : decode cX5_applicableRules 0 = .ok (.iload_n 1, 1) := by decide +kernel
theorem dX5_applicableRules_1 : decode cX5_applicableRules 1 = .ok (.invokestatic 101, 3) := by decide +kernel
theorem dX5_applicableRules_4 : decode cX5_applicableRules 4 = .ok (.ifCond .eq 22, 3) := by decide +kernel
theorem dX5_applicableRules_7 : decode cX5_applicableRules 7 = .ok (.iload_n 2, 1) := by decide +kernel
theorem dX5_applicableRules_8 : decode cX5_applicableRules 8 = .ok (.invokestatic 135, 3) := by decide +kernel
theorem dX5_applicableRules_11 : decode cX5_applicableRules 11 = .ok (.ifCond .eq 15, 3) := by decide +kernel
theorem dX5_applicableRules_14 : decode cX5_applicableRules 14 = .ok (.aload_n 0, 1) := by decide +kernel
theorem dX5_applicableRules_15 : decode cX5_applicableRules 15 = .ok (.iload_n 1, 1) := by decide +kernel
theorem dX5_applicableRules_16 : decode cX5_applicableRules 16 = .ok (.iload_n 2, 1) := by decide +kernel
theorem dX5_applicableRules_17 : decode cX5_applicableRules 17 = .ok (.invokevirtual 125, 3) := by decide +kernel
theorem dX5_applicableRules_20 : decode cX5_applicableRules 20 = .ok (.invokestatic 122, 3) := by decide +kernel
theorem dX5_applicableRules_23 : decode cX5_applicableRules 23 = .ok (.goto 4, 3) := by decide +kernel
theorem dX5_applicableRules_26 : decode cX5_applicableRules 26 = .ok (.iconst (-1), 1) := by decide +kernel
theorem dX5_applicableRules_27 : decode cX5_applicableRules 27 = .ok (.ireturn, 1) := by decide +kernel
theorem dX5_gains_0 : decode cX5_gains 0 = .ok (.aload_n 0, 1) := by decide +kernel
theorem dX5_gains_1 : decode cX5_gains 1 = .ok (.iconst 1, 1) := by decide +kernel
theorem dX5_gains_2 : decode cX5_gains 2 = .ok (.iload_n 1, 1) := by decide +kernel
theorem dX5_gains_3 : decode cX5_gains 3 = .ok (.invokevirtual 138, 3) := by decide +kernel
theorem dX5_gains_6 : decode cX5_gains 6 = .ok (.ifCond .ne 16, 3) := by decide +kernel
theorem dX5_gains_9 : decode cX5_gains 9 = .ok (.aload_n 0, 1) := by decide +kernel
theorem dX5_gains_10 : decode cX5_gains 10 = .ok (.iconst 0, 1) := by decide +kernel
theorem dX5_gains_11 : decode cX5_gains 11 = .ok (.iload_n 1, 1) := by decide +kernel
theorem dX5_gains_12 : decode cX5_gains 12 = .ok (.invokevirtual 138, 3) := by decide +kernel
theorem dX5_gains_15 : decode cX5_gains 15 = .ok (.ifCond .eq 7, 3) := by decide +kernel
theorem dX5_gains_18 : decode cX5_gains 18 = .ok (.iconst 1, 1) := by decide +kernel
theorem dX5_gains_19 : decode cX5_gains 19 = .ok (.goto 4, 3) := by decide +kernel
theorem dX5_gains_22 : decode cX5_gains 22 = .ok (.iconst 0, 1) := by decide +kernel
theorem dX5_gains_23 : decode cX5_gains 23 = .ok (.ireturn, 1) := by decide +kernel
theorem dX5_loses_0 : decode cX5_loses 0 = .ok (.aload_n 0, 1) := by decide +kernel
theorem dX5_loses_1 : decode cX5_loses 1 = .ok (.iconst 0, 1) := by decide +kernel
theorem dX5_loses_2 : decode cX5_loses 2 = .ok (.iload_n 1, 1) := by decide +kernel
theorem dX5_loses_3 : decode cX5_loses 3 = .ok (.invokevirtual 138, 3) := by decide +kernel
theorem dX5_loses_6 : decode cX5_loses 6 = .ok (.ifCond .ne 16, 3) := by decide +kernel
theorem dX5_loses_9 : decode cX5_loses 9 = .ok (.aload_n 0, 1) := by decide +kernel
theorem dX5_loses_10 : decode cX5_loses 10 = .ok (.iconst 1, 1) := by decide +kernel
theorem dX5_loses_11 : decode cX5_loses 11 = .ok (.iload_n 1, 1) := by decide +kernel
theorem dX5_loses_12 : decode cX5_loses 12 = .ok (.invokevirtual 138, 3) := by decide +kernel
theorem dX5_loses_15 : decode cX5_loses 15 = .ok (.ifCond .eq 7, 3) := by decide +kernel
theorem dX5_loses_18 : decode cX5_loses 18 = .ok (.iconst 1, 1) := by decide +kernel
theorem dX5_loses_19 : decode cX5_loses 19 = .ok (.goto 4, 3) := by decide +kernel
theorem dX5_loses_22 : decode cX5_loses 22 = .ok (.iconst 0, 1) := by decide +kernel
theorem dX5_loses_23 : decode cX5_loses 23 = .ok (.ireturn, 1) := by decide +kernel
theorem dX5_gainCount_0 : decode cX5_gainCount 0 = .ok (.iconst 0, 1) := by decide +kernel
theorem dX5_gainCount_1 : decode cX5_gainCount 1 = .ok (.istore_n 1, 1) := by decide +kernel
theorem dX5_gainCount_2 : decode cX5_gainCount 2 = .ok (.iconst 0, 1) := by decide +kernel
theorem dX5_gainCount_3 : decode cX5_gainCount 3 = .ok (.istore_n 2, 1) := by decide +kernel
theorem dX5_gainCount_4 : decode cX5_gainCount 4 = .ok (.iload_n 2, 1) := by decide +kernel
theorem dX5_gainCount_5 : decode cX5_gainCount 5 = .ok (.sipush 1024, 3) := by decide +kernel
theorem dX5_gainCount_8 : decode cX5_gainCount 8 = .ok (.if_icmp .ge 25, 3) := by decide +kernel
theorem dX5_gainCount_11 : decode cX5_gainCount 11 = .ok (.iload_n 1, 1) := by decide +kernel
theorem dX5_gainCount_12 : decode cX5_gainCount 12 = .ok (.aload_n 0, 1) := by decide +kernel
theorem dX5_gainCount_13 : decode cX5_gainCount 13 = .ok (.iload_n 2, 1) := by decide +kernel
theorem dX5_gainCount_14 : decode cX5_gainCount 14 = .ok (.invokevirtual 141, 3) := by decide +kernel
theorem dX5_gainCount_17 : decode cX5_gainCount 17 = .ok (.ifCond .eq 7, 3) := by decide +kernel
theorem dX5_gainCount_20 : decode cX5_gainCount 20 = .ok (.iconst 1, 1) := by decide +kernel
theorem dX5_gainCount_21 : decode cX5_gainCount 21 = .ok (.goto 4, 3) := by decide +kernel
theorem dX5_gainCount_24 : decode cX5_gainCount 24 = .ok (.iconst 0, 1) := by decide +kernel
theorem dX5_gainCount_25 : decode cX5_gainCount 25 = .ok (.iadd, 1) := by decide +kernel
theorem dX5_gainCount_26 : decode cX5_gainCount 26 = .ok (.istore_n 1, 1) := by decide +kernel
theorem dX5_gainCount_27 : decode cX5_gainCount 27 = .ok (.iinc 2 1, 3) := by decide +kernel
theorem dX5_gainCount_30 : decode cX5_gainCount 30 = .ok (.goto (-26), 3) := by decide +kernel
theorem dX5_gainCount_33 : decode cX5_gainCount 33 = .ok (.iload_n 1, 1) := by decide +kernel
theorem dX5_gainCount_34 : decode cX5_gainCount 34 = .ok (.ireturn, 1) := by decide +kernel
theorem dX5_lossCount_0 : decode cX5_lossCount 0 = .ok (.iconst 0, 1) := by decide +kernel
theorem dX5_lossCount_1 : decode cX5_lossCount 1 = .ok (.istore_n 1, 1) := by decide +kernel
theorem dX5_lossCount_2 : decode cX5_lossCount 2 = .ok (.iconst 0, 1) := by decide +kernel
theorem dX5_lossCount_3 : decode cX5_lossCount 3 = .ok (.istore_n 2, 1) := by decide +kernel
theorem dX5_lossCount_4 : decode cX5_lossCount 4 = .ok (.iload_n 2, 1) := by decide +kernel
theorem dX5_lossCount_5 : decode cX5_lossCount 5 = .ok (.sipush 1024, 3) := by decide +kernel
theorem dX5_lossCount_8 : decode cX5_lossCount 8 = .ok (.if_icmp .ge 25, 3) := by decide +kernel
theorem dX5_lossCount_11 : decode cX5_lossCount 11 = .ok (.iload_n 1, 1) := by decide +kernel
theorem dX5_lossCount_12 : decode cX5_lossCount 12 = .ok (.aload_n 0, 1) := by decide +kernel
theorem dX5_lossCount_13 : decode cX5_lossCount 13 = .ok (.iload_n 2, 1) := by decide +kernel
theorem dX5_lossCount_14 : decode cX5_lossCount 14 = .ok (.invokevirtual 144, 3) := by decide +kernel
theorem dX5_lossCount_17 : decode cX5_lossCount 17 = .ok (.ifCond .eq 7, 3) := by decide +kernel
theorem dX5_lossCount_20 : decode cX5_lossCount 20 = .ok (.iconst 1, 1) := by decide +kernel
theorem dX5_lossCount_21 : decode cX5_lossCount 21 = .ok (.goto 4, 3) := by decide +kernel
theorem dX5_lossCount_24 : decode cX5_lossCount 24 = .ok (.iconst 0, 1) := by decide +kernel
theorem dX5_lossCount_25 : decode cX5_lossCount 25 = .ok (.iadd, 1) := by decide +kernel
theorem dX5_lossCount_26 : decode cX5_lossCount 26 = .ok (.istore_n 1, 1) := by decide +kernel
theorem dX5_lossCount_27 : decode cX5_lossCount 27 = .ok (.iinc 2 1, 3) := by decide +kernel
theorem dX5_lossCount_30 : decode cX5_lossCount 30 = .ok (.goto (-26), 3) := by decide +kernel
theorem dX5_lossCount_33 : decode cX5_lossCount 33 = .ok (.iload_n 1, 1) := by decide +kernel
theorem dX5_lossCount_34 : decode cX5_lossCount 34 = .ok (.ireturn, 1) := by decide +kernel
theorem dX5_gainCountOf_0 : decode cX5_gainCountOf 0 = .ok (.iload_n 1, 1) := by decide +kernel
theorem dX5_gainCountOf_1 : decode cX5_gainCountOf 1 = .ok (.iconst 0, 1) := by decide +kernel
theorem dX5_gainCountOf_2 : decode cX5_gainCountOf 2 = .ok (.iconst 3, 1) := by decide +kernel
theorem dX5_gainCountOf_3 : decode cX5_gainCountOf 3 = .ok (.invokestatic 41, 3) := by decide +kernel
theorem dX5_gainCountOf_6 : decode cX5_gainCountOf 6 = .ok (.ifCond .eq 17, 3) := by decide +kernel
theorem dX5_gainCountOf_9 : decode cX5_gainCountOf 9 = .ok (.iload_n 2, 1) := by decide +kernel
theorem dX5_gainCountOf_10 : decode cX5_gainCountOf 10 = .ok (.iconst 0, 1) := by decide +kernel
theorem dX5_gainCountOf_11 : decode cX5_gainCountOf 11 = .ok (.iload_n 1, 1) := by decide +kernel
theorem dX5_gainCountOf_12 : decode cX5_gainCountOf 12 = .ok (.invokestatic 70, 3) := by decide +kernel
theorem dX5_gainCountOf_15 : decode cX5_gainCountOf 15 = .ok (.iconst 1, 1) := by decide +kernel
theorem dX5_gainCountOf_16 : decode cX5_gainCountOf 16 = .ok (.isub, 1) := by decide +kernel
theorem dX5_gainCountOf_17 : decode cX5_gainCountOf 17 = .ok (.invokestatic 41, 3) := by decide +kernel
theorem dX5_gainCountOf_20 : decode cX5_gainCountOf 20 = .ok (.ifCond .ne 5, 3) := by decide +kernel
theorem dX5_gainCountOf_23 : decode cX5_gainCountOf 23 = .ok (.iconst (-1), 1) := by decide +kernel
theorem dX5_gainCountOf_24 : decode cX5_gainCountOf 24 = .ok (.ireturn, 1) := by decide +kernel
theorem dX5_gainCountOf_25 : decode cX5_gainCountOf 25 = .ok (.iconst 0, 1) := by decide +kernel
theorem dX5_gainCountOf_26 : decode cX5_gainCountOf 26 = .ok (.istore_n 3, 1) := by decide +kernel
theorem dX5_gainCountOf_27 : decode cX5_gainCountOf 27 = .ok (.iconst 0, 1) := by decide +kernel
theorem dX5_gainCountOf_28 : decode cX5_gainCountOf 28 = .ok (.istore 4, 2) := by decide +kernel
theorem dX5_gainCountOf_30 : decode cX5_gainCountOf 30 = .ok (.iload 4, 2) := by decide +kernel
theorem dX5_gainCountOf_32 : decode cX5_gainCountOf 32 = .ok (.sipush 1024, 3) := by decide +kernel
theorem dX5_gainCountOf_35 : decode cX5_gainCountOf 35 = .ok (.if_icmp .ge 36, 3) := by decide +kernel
theorem dX5_gainCountOf_38 : decode cX5_gainCountOf 38 = .ok (.iload_n 3, 1) := by decide +kernel
theorem dX5_gainCountOf_39 : decode cX5_gainCountOf 39 = .ok (.iload 4, 2) := by decide +kernel
theorem dX5_gainCountOf_41 : decode cX5_gainCountOf 41 = .ok (.iload_n 1, 1) := by decide +kernel
theorem dX5_gainCountOf_42 : decode cX5_gainCountOf 42 = .ok (.invokestatic 118, 3) := by decide +kernel
theorem dX5_gainCountOf_45 : decode cX5_gainCountOf 45 = .ok (.iload_n 2, 1) := by decide +kernel
theorem dX5_gainCountOf_46 : decode cX5_gainCountOf 46 = .ok (.if_icmp .ne 16, 3) := by decide +kernel
theorem dX5_gainCountOf_49 : decode cX5_gainCountOf 49 = .ok (.aload_n 0, 1) := by decide +kernel
theorem dX5_gainCountOf_50 : decode cX5_gainCountOf 50 = .ok (.iload 4, 2) := by decide +kernel
theorem dX5_gainCountOf_52 : decode cX5_gainCountOf 52 = .ok (.invokevirtual 141, 3) := by decide +kernel
theorem dX5_gainCountOf_55 : decode cX5_gainCountOf 55 = .ok (.ifCond .eq 7, 3) := by decide +kernel
theorem dX5_gainCountOf_58 : decode cX5_gainCountOf 58 = .ok (.iconst 1, 1) := by decide +kernel
theorem dX5_gainCountOf_59 : decode cX5_gainCountOf 59 = .ok (.goto 4, 3) := by decide +kernel
theorem dX5_gainCountOf_62 : decode cX5_gainCountOf 62 = .ok (.iconst 0, 1) := by decide +kernel
theorem dX5_gainCountOf_63 : decode cX5_gainCountOf 63 = .ok (.iadd, 1) := by decide +kernel
theorem dX5_gainCountOf_64 : decode cX5_gainCountOf 64 = .ok (.istore_n 3, 1) := by decide +kernel
theorem dX5_gainCountOf_65 : decode cX5_gainCountOf 65 = .ok (.iinc 4 1, 3) := by decide +kernel
theorem dX5_gainCountOf_68 : decode cX5_gainCountOf 68 = .ok (.goto (-38), 3) := by decide +kernel
theorem dX5_gainCountOf_71 : decode cX5_gainCountOf 71 = .ok (.iload_n 3, 1) := by decide +kernel
theorem dX5_gainCountOf_72 : decode cX5_gainCountOf 72 = .ok (.ireturn, 1) := by decide +kernel
theorem dX5_nextGain_0 : decode cX5_nextGain 0 = .ok (.iload_n 1, 1) := by decide +kernel
theorem dX5_nextGain_1 : decode cX5_nextGain 1 = .ok (.invokestatic 135, 3) := by decide +kernel
theorem dX5_nextGain_4 : decode cX5_nextGain 4 = .ok (.ifCond .ne 5, 3) := by decide +kernel
theorem dX5_nextGain_7 : decode cX5_nextGain 7 = .ok (.iconst (-1), 1) := by decide +kernel
theorem dX5_nextGain_8 : decode cX5_nextGain 8 = .ok (.ireturn, 1) := by decide +kernel
theorem dX5_nextGain_9 : decode cX5_nextGain 9 = .ok (.iload_n 1, 1) := by decide +kernel
theorem dX5_nextGain_10 : decode cX5_nextGain 10 = .ok (.istore_n 2, 1) := by decide +kernel
theorem dX5_nextGain_11 : decode cX5_nextGain 11 = .ok (.iload_n 2, 1) := by decide +kernel
theorem dX5_nextGain_12 : decode cX5_nextGain 12 = .ok (.sipush 1024, 3) := by decide +kernel
theorem dX5_nextGain_15 : decode cX5_nextGain 15 = .ok (.if_icmp .ge 17, 3) := by decide +kernel
theorem dX5_nextGain_18 : decode cX5_nextGain 18 = .ok (.aload_n 0, 1) := by decide +kernel
theorem dX5_nextGain_19 : decode cX5_nextGain 19 = .ok (.iload_n 2, 1) := by decide +kernel
theorem dX5_nextGain_20 : decode cX5_nextGain 20 = .ok (.invokevirtual 141, 3) := by decide +kernel
theorem dX5_nextGain_23 : decode cX5_nextGain 23 = .ok (.ifCond .ne 9, 3) := by decide +kernel
theorem dX5_nextGain_26 : decode cX5_nextGain 26 = .ok (.iinc 2 1, 3) := by decide +kernel
theorem dX5_nextGain_29 : decode cX5_nextGain 29 = .ok (.goto (-18), 3) := by decide +kernel
theorem dX5_nextGain_32 : decode cX5_nextGain 32 = .ok (.iload_n 2, 1) := by decide +kernel
theorem dX5_nextGain_33 : decode cX5_nextGain 33 = .ok (.sipush 1024, 3) := by decide +kernel
theorem dX5_nextGain_36 : decode cX5_nextGain 36 = .ok (.if_icmp .ge 7, 3) := by decide +kernel
theorem dX5_nextGain_39 : decode cX5_nextGain 39 = .ok (.iload_n 2, 1) := by decide +kernel
theorem dX5_nextGain_40 : decode cX5_nextGain 40 = .ok (.goto 5, 3) := by decide +kernel
theorem dX5_nextGain_43 : decode cX5_nextGain 43 = .ok (.bipush (-4), 2) := by decide +kernel
theorem dX5_nextGain_45 : decode cX5_nextGain 45 = .ok (.ireturn, 1) := by decide +kernel
theorem dX5_nextLoss_0 : decode cX5_nextLoss 0 = .ok (.iload_n 1, 1) := by decide +kernel
theorem dX5_nextLoss_1 : decode cX5_nextLoss 1 = .ok (.invokestatic 135, 3) := by decide +kernel
theorem dX5_nextLoss_4 : decode cX5_nextLoss 4 = .ok (.ifCond .ne 5, 3) := by decide +kernel
theorem dX5_nextLoss_7 : decode cX5_nextLoss 7 = .ok (.iconst (-1), 1) := by decide +kernel
theorem dX5_nextLoss_8 : decode cX5_nextLoss 8 = .ok (.ireturn, 1) := by decide +kernel
theorem dX5_nextLoss_9 : decode cX5_nextLoss 9 = .ok (.iload_n 1, 1) := by decide +kernel
theorem dX5_nextLoss_10 : decode cX5_nextLoss 10 = .ok (.istore_n 2, 1) := by decide +kernel
theorem dX5_nextLoss_11 : decode cX5_nextLoss 11 = .ok (.iload_n 2, 1) := by decide +kernel
theorem dX5_nextLoss_12 : decode cX5_nextLoss 12 = .ok (.sipush 1024, 3) := by decide +kernel
theorem dX5_nextLoss_15 : decode cX5_nextLoss 15 = .ok (.if_icmp .ge 17, 3) := by decide +kernel
theorem dX5_nextLoss_18 : decode cX5_nextLoss 18 = .ok (.aload_n 0, 1) := by decide +kernel
theorem dX5_nextLoss_19 : decode cX5_nextLoss 19 = .ok (.iload_n 2, 1) := by decide +kernel
theorem dX5_nextLoss_20 : decode cX5_nextLoss 20 = .ok (.invokevirtual 144, 3) := by decide +kernel
theorem dX5_nextLoss_23 : decode cX5_nextLoss 23 = .ok (.ifCond .ne 9, 3) := by decide +kernel
theorem dX5_nextLoss_26 : decode cX5_nextLoss 26 = .ok (.iinc 2 1, 3) := by decide +kernel
theorem dX5_nextLoss_29 : decode cX5_nextLoss 29 = .ok (.goto (-18), 3) := by decide +kernel
theorem dX5_nextLoss_32 : decode cX5_nextLoss 32 = .ok (.iload_n 2, 1) := by decide +kernel
theorem dX5_nextLoss_33 : decode cX5_nextLoss 33 = .ok (.sipush 1024, 3) := by decide +kernel
theorem dX5_nextLoss_36 : decode cX5_nextLoss 36 = .ok (.if_icmp .ge 7, 3) := by decide +kernel
theorem dX5_nextLoss_39 : decode cX5_nextLoss 39 = .ok (.iload_n 2, 1) := by decide +kernel
theorem dX5_nextLoss_40 : decode cX5_nextLoss 40 = .ok (.goto 5, 3) := by decide +kernel
theorem dX5_nextLoss_43 : decode cX5_nextLoss 43 = .ok (.bipush (-4), 2) := by decide +kernel
theorem dX5_nextLoss_45 : decode cX5_nextLoss 45 = .ok (.ireturn, 1) := by decide +kernel
theorem dX5_transitionCount_0 : decode cX5_transitionCount 0 = .ok (.iload_n 1, 1) := by decide +kernel
theorem dX5_transitionCount_1 : decode cX5_transitionCount 1 = .ok (.iconst 0, 1) := by decide +kernel
theorem dX5_transitionCount_2 : decode cX5_transitionCount 2 = .ok (.iconst 3, 1) := by decide +kernel
theorem dX5_transitionCount_3 : decode cX5_transitionCount 3 = .ok (.invokestatic 41, 3) := by decide +kernel
theorem dX5_transitionCount_6 : decode cX5_transitionCount 6 = .ok (.ifCond .eq 12, 3) := by decide +kernel
theorem dX5_transitionCount_9 : decode cX5_transitionCount 9 = .ok (.iload_n 2, 1) := by decide +kernel
theorem dX5_transitionCount_10 : decode cX5_transitionCount 10 = .ok (.iconst 0, 1) := by decide +kernel
theorem dX5_transitionCount_11 : decode cX5_transitionCount 11 = .ok (.iconst 3, 1) := by decide +kernel
theorem dX5_transitionCount_12 : decode cX5_transitionCount 12 = .ok (.invokestatic 41, 3) := by decide +kernel
theorem dX5_transitionCount_15 : decode cX5_transitionCount 15 = .ok (.ifCond .ne 5, 3) := by decide +kernel
theorem dX5_transitionCount_18 : decode cX5_transitionCount 18 = .ok (.iconst (-1), 1) := by decide +kernel
theorem dX5_transitionCount_19 : decode cX5_transitionCount 19 = .ok (.ireturn, 1) := by decide +kernel
theorem dX5_transitionCount_20 : decode cX5_transitionCount 20 = .ok (.iconst 0, 1) := by decide +kernel
theorem dX5_transitionCount_21 : decode cX5_transitionCount 21 = .ok (.istore_n 3, 1) := by decide +kernel
theorem dX5_transitionCount_22 : decode cX5_transitionCount 22 = .ok (.iconst 0, 1) := by decide +kernel
theorem dX5_transitionCount_23 : decode cX5_transitionCount 23 = .ok (.istore 4, 2) := by decide +kernel
theorem dX5_transitionCount_25 : decode cX5_transitionCount 25 = .ok (.iload 4, 2) := by decide +kernel
theorem dX5_transitionCount_27 : decode cX5_transitionCount 27 = .ok (.sipush 1024, 3) := by decide +kernel
theorem dX5_transitionCount_30 : decode cX5_transitionCount 30 = .ok (.if_icmp .ge 39, 3) := by decide +kernel
theorem dX5_transitionCount_33 : decode cX5_transitionCount 33 = .ok (.iload_n 3, 1) := by decide +kernel
theorem dX5_transitionCount_34 : decode cX5_transitionCount 34 = .ok (.aload_n 0, 1) := by decide +kernel
theorem dX5_transitionCount_35 : decode cX5_transitionCount 35 = .ok (.iconst 0, 1) := by decide +kernel
theorem dX5_transitionCount_36 : decode cX5_transitionCount 36 = .ok (.iload 4, 2) := by decide +kernel
theorem dX5_transitionCount_38 : decode cX5_transitionCount 38 = .ok (.invokevirtual 138, 3) := by decide +kernel
theorem dX5_transitionCount_41 : decode cX5_transitionCount 41 = .ok (.iload_n 1, 1) := by decide +kernel
theorem dX5_transitionCount_42 : decode cX5_transitionCount 42 = .ok (.if_icmp .ne 18, 3) := by decide +kernel
theorem dX5_transitionCount_45 : decode cX5_transitionCount 45 = .ok (.aload_n 0, 1) := by decide +kernel
theorem dX5_transitionCount_46 : decode cX5_transitionCount 46 = .ok (.iconst 1, 1) := by decide +kernel
theorem dX5_transitionCount_47 : decode cX5_transitionCount 47 = .ok (.iload 4, 2) := by decide +kernel
theorem dX5_transitionCount_49 : decode cX5_transitionCount 49 = .ok (.invokevirtual 138, 3) := by decide +kernel
theorem dX5_transitionCount_52 : decode cX5_transitionCount 52 = .ok (.iload_n 2, 1) := by decide +kernel
theorem dX5_transitionCount_53 : decode cX5_transitionCount 53 = .ok (.if_icmp .ne 7, 3) := by decide +kernel
theorem dX5_transitionCount_56 : decode cX5_transitionCount 56 = .ok (.iconst 1, 1) := by decide +kernel
theorem dX5_transitionCount_57 : decode cX5_transitionCount 57 = .ok (.goto 4, 3) := by decide +kernel
theorem dX5_transitionCount_60 : decode cX5_transitionCount 60 = .ok (.iconst 0, 1) := by decide +kernel
theorem dX5_transitionCount_61 : decode cX5_transitionCount 61 = .ok (.iadd, 1) := by decide +kernel
theorem dX5_transitionCount_62 : decode cX5_transitionCount 62 = .ok (.istore_n 3, 1) := by decide +kernel
theorem dX5_transitionCount_63 : decode cX5_transitionCount 63 = .ok (.iinc 4 1, 3) := by decide +kernel
theorem dX5_transitionCount_66 : decode cX5_transitionCount 66 = .ok (.goto (-41), 3) := by decide +kernel
theorem dX5_transitionCount_69 : decode cX5_transitionCount 69 = .ok (.iload_n 3, 1) := by decide +kernel
theorem dX5_transitionCount_70 : decode cX5_transitionCount 70 = .ok (.ireturn, 1) := by decide +kernel
theorem dX5_grantedShareBits_0 : decode cX5_grantedShareBits 0 = .ok (.iload_n 1, 1) := by decide +kernel
theorem dX5_grantedShareBits_1 : decode cX5_grantedShareBits 1 = .ok (.invokestatic 101, 3) := by decide +kernel
theorem dX5_grantedShareBits_4 : decode cX5_grantedShareBits 4 = .ok (.ifCond .ne 5, 3) := by decide +kernel
theorem dX5_grantedShareBits_7 : decode cX5_grantedShareBits 7 = .ok (.iconst (-1), 1) := by decide +kernel
theorem dX5_grantedShareBits_8 : decode cX5_grantedShareBits 8 = .ok (.ireturn, 1) := by decide +kernel
theorem dX5_grantedShareBits_9 : decode cX5_grantedShareBits 9 = .ok (.aload_n 0, 1) := by decide +kernel
theorem dX5_grantedShareBits_10 : decode cX5_grantedShareBits 10 = .ok (.iload_n 1, 1) := by decide +kernel
theorem dX5_grantedShareBits_11 : decode cX5_grantedShareBits 11 = .ok (.iconst 0, 1) := by decide +kernel
theorem dX5_grantedShareBits_12 : decode cX5_grantedShareBits 12 = .ok (.invokevirtual 147, 3) := by decide +kernel
theorem dX5_grantedShareBits_15 : decode cX5_grantedShareBits 15 = .ok (.istore_n 2, 1) := by decide +kernel
theorem dX5_grantedShareBits_16 : decode cX5_grantedShareBits 16 = .ok (.iload_n 2, 1) := by decide +kernel
theorem dX5_grantedShareBits_17 : decode cX5_grantedShareBits 17 = .ok (.ifCond .ne 5, 3) := by decide +kernel
theorem dX5_grantedShareBits_20 : decode cX5_grantedShareBits 20 = .ok (.iconst 0, 1) := by decide +kernel
theorem dX5_grantedShareBits_21 : decode cX5_grantedShareBits 21 = .ok (.ireturn, 1) := by decide +kernel
theorem dX5_grantedShareBits_22 : decode cX5_grantedShareBits 22 = .ok (.iconst 0, 1) := by decide +kernel
theorem dX5_grantedShareBits_23 : decode cX5_grantedShareBits 23 = .ok (.istore_n 3, 1) := by decide +kernel
theorem dX5_grantedShareBits_24 : decode cX5_grantedShareBits 24 = .ok (.iload_n 2, 1) := by decide +kernel
theorem dX5_grantedShareBits_25 : decode cX5_grantedShareBits 25 = .ok (.iload_n 3, 1) := by decide +kernel
theorem dX5_grantedShareBits_26 : decode cX5_grantedShareBits 26 = .ok (.ishr, 1) := by decide +kernel
theorem dX5_grantedShareBits_27 : decode cX5_grantedShareBits 27 = .ok (.iconst 1, 1) := by decide +kernel
theorem dX5_grantedShareBits_28 : decode cX5_grantedShareBits 28 = .ok (.if_icmp .le 9, 3) := by decide +kernel
theorem dX5_grantedShareBits_31 : decode cX5_grantedShareBits 31 = .ok (.iinc 3 1, 3) := by decide +kernel
theorem dX5_grantedShareBits_34 : decode cX5_grantedShareBits 34 = .ok (.goto (-10), 3) := by decide +kernel
theorem dX5_grantedShareBits_37 : decode cX5_grantedShareBits 37 = .ok (.bipush 127, 2) := by decide +kernel
theorem dX5_grantedShareBits_39 : decode cX5_grantedShareBits 39 = .ok (.iload_n 3, 1) := by decide +kernel
theorem dX5_grantedShareBits_40 : decode cX5_grantedShareBits 40 = .ok (.iadd, 1) := by decide +kernel
theorem dX5_grantedShareBits_41 : decode cX5_grantedShareBits 41 = .ok (.bipush 10, 2) := by decide +kernel
theorem dX5_grantedShareBits_43 : decode cX5_grantedShareBits 43 = .ok (.isub, 1) := by decide +kernel
theorem dX5_grantedShareBits_44 : decode cX5_grantedShareBits 44 = .ok (.bipush 23, 2) := by decide +kernel
theorem dX5_grantedShareBits_46 : decode cX5_grantedShareBits 46 = .ok (.ishl, 1) := by decide +kernel
theorem dX5_grantedShareBits_47 : decode cX5_grantedShareBits 47 = .ok (.iload_n 2, 1) := by decide +kernel
theorem dX5_grantedShareBits_48 : decode cX5_grantedShareBits 48 = .ok (.iconst 1, 1) := by decide +kernel
theorem dX5_grantedShareBits_49 : decode cX5_grantedShareBits 49 = .ok (.iload_n 3, 1) := by decide +kernel
theorem dX5_grantedShareBits_50 : decode cX5_grantedShareBits 50 = .ok (.ishl, 1) := by decide +kernel
theorem dX5_grantedShareBits_51 : decode cX5_grantedShareBits 51 = .ok (.ixor, 1) := by decide +kernel
theorem dX5_grantedShareBits_52 : decode cX5_grantedShareBits 52 = .ok (.bipush 23, 2) := by decide +kernel
theorem dX5_grantedShareBits_54 : decode cX5_grantedShareBits 54 = .ok (.iload_n 3, 1) := by decide +kernel
theorem dX5_grantedShareBits_55 : decode cX5_grantedShareBits 55 = .ok (.isub, 1) := by decide +kernel
theorem dX5_grantedShareBits_56 : decode cX5_grantedShareBits 56 = .ok (.ishl, 1) := by decide +kernel
theorem dX5_grantedShareBits_57 : decode cX5_grantedShareBits 57 = .ok (.ior, 1) := by decide +kernel
theorem dX5_grantedShareBits_58 : decode cX5_grantedShareBits 58 = .ok (.ireturn, 1) := by decide +kernel
theorem dX5_looks_0 : decode cX5_looks 0 = .ok (.iconst 0, 1) := by decide +kernel
theorem dX5_looks_1 : decode cX5_looks 1 = .ok (.istore_n 2, 1) := by decide +kernel
theorem dX5_looks_2 : decode cX5_looks 2 = .ok (.iload_n 2, 1) := by decide +kernel
theorem dX5_looks_3 : decode cX5_looks 3 = .ok (.sipush 1024, 3) := by decide +kernel
theorem dX5_looks_6 : decode cX5_looks 6 = .ok (.if_icmp .ge 21, 3) := by decide +kernel
theorem dX5_looks_9 : decode cX5_looks 9 = .ok (.aload_n 0, 1) := by decide +kernel
theorem dX5_looks_10 : decode cX5_looks 10 = .ok (.getfield 22, 3) := by decide +kernel
theorem dX5_looks_13 : decode cX5_looks 13 = .ok (.iload_n 2, 1) := by decide +kernel
theorem dX5_looks_14 : decode cX5_looks 14 = .ok (.aload_n 0, 1) := by decide +kernel
theorem dX5_looks_15 : decode cX5_looks 15 = .ok (.iload_n 1, 1) := by decide +kernel
theorem dX5_looks_16 : decode cX5_looks 16 = .ok (.iload_n 2, 1) := by decide +kernel
theorem dX5_looks_17 : decode cX5_looks 17 = .ok (.invokevirtual 125, 3) := by decide +kernel
theorem dX5_looks_20 : decode cX5_looks 20 = .ok (.iastore, 1) := by decide +kernel
theorem dX5_looks_21 : decode cX5_looks 21 = .ok (.iinc 2 1, 3) := by decide +kernel
theorem dX5_looks_24 : decode cX5_looks 24 = .ok (.goto (-22), 3) := by decide +kernel
theorem dX5_looks_27 : decode cX5_looks 27 = .ok (.return_, 1) := by decide +kernel
theorem dX5_shows_0 : decode cX5_shows 0 = .ok (.aload_n 0, 1) := by decide +kernel
theorem dX5_shows_1 : decode cX5_shows 1 = .ok (.iload_n 1, 1) := by decide +kernel
theorem dX5_shows_2 : decode cX5_shows 2 = .ok (.invokevirtual 128, 3) := by decide +kernel
theorem dX5_shows_5 : decode cX5_shows 5 = .ok (.istore 4, 2) := by decide +kernel
theorem dX5_shows_7 : decode cX5_shows 7 = .ok (.aload_n 0, 1) := by decide +kernel
theorem dX5_shows_8 : decode cX5_shows 8 = .ok (.getfield 13, 3) := by decide +kernel
theorem dX5_shows_11 : decode cX5_shows 11 = .ok (.bipush 42, 2) := by decide +kernel
theorem dX5_shows_13 : decode cX5_shows 13 = .ok (.iload_n 1, 1) := by decide +kernel
theorem dX5_shows_14 : decode cX5_shows 14 = .ok (.imul, 1) := by decide +kernel
theorem dX5_shows_15 : decode cX5_shows 15 = .ok (.iconst 1, 1) := by decide +kernel
theorem dX5_shows_16 : decode cX5_shows 16 = .ok (.iadd, 1) := by decide +kernel
theorem dX5_shows_17 : decode cX5_shows 17 = .ok (.iaload, 1) := by decide +kernel
theorem dX5_shows_18 : decode cX5_shows 18 = .ok (.istore 5, 2) := by decide +kernel
theorem dX5_shows_20 : decode cX5_shows 20 = .ok (.iconst 0, 1) := by decide +kernel
theorem dX5_shows_21 : decode cX5_shows 21 = .ok (.istore 6, 2) := by decide +kernel
theorem dX5_shows_23 : decode cX5_shows 23 = .ok (.iload 6, 2) := by decide +kernel
theorem dX5_shows_25 : decode cX5_shows 25 = .ok (.sipush 1024, 3) := by decide +kernel
theorem dX5_shows_28 : decode cX5_shows 28 = .ok (.if_icmp .ge 59, 3) := by decide +kernel
theorem dX5_shows_31 : decode cX5_shows 31 = .ok (.aload_n 0, 1) := by decide +kernel
theorem dX5_shows_32 : decode cX5_shows 32 = .ok (.getfield 22, 3) := by decide +kernel
theorem dX5_shows_35 : decode cX5_shows 35 = .ok (.iload 6, 2) := by decide +kernel
theorem dX5_shows_37 : decode cX5_shows 37 = .ok (.iaload, 1) := by decide +kernel
theorem dX5_shows_38 : decode cX5_shows 38 = .ok (.iload_n 2, 1) := by decide +kernel
theorem dX5_shows_39 : decode cX5_shows 39 = .ok (.iand, 1) := by decide +kernel
theorem dX5_shows_40 : decode cX5_shows 40 = .ok (.istore 7, 2) := by decide +kernel
theorem dX5_shows_42 : decode cX5_shows 42 = .ok (.iload 7, 2) := by decide +kernel
theorem dX5_shows_44 : decode cX5_shows 44 = .ok (.iload_n 3, 1) := by decide +kernel
theorem dX5_shows_45 : decode cX5_shows 45 = .ok (.invokestatic 67, 3) := by decide +kernel
theorem dX5_shows_48 : decode cX5_shows 48 = .ok (.ifCond .eq 33, 3) := by decide +kernel
theorem dX5_shows_51 : decode cX5_shows 51 = .ok (.iload 5, 2) := by decide +kernel
theorem dX5_shows_53 : decode cX5_shows 53 = .ok (.iload 7, 2) := by decide +kernel
theorem dX5_shows_55 : decode cX5_shows 55 = .ok (.iload 4, 2) := by decide +kernel
theorem dX5_shows_57 : decode cX5_shows 57 = .ok (.invokestatic 131, 3) := by decide +kernel
theorem dX5_shows_60 : decode cX5_shows 60 = .ok (.iload 5, 2) := by decide +kernel
theorem dX5_shows_62 : decode cX5_shows 62 = .ok (.iload 7, 2) := by decide +kernel
theorem dX5_shows_64 : decode cX5_shows 64 = .ok (.iconst 1, 1) := by decide +kernel
theorem dX5_shows_65 : decode cX5_shows 65 = .ok (.iload_n 3, 1) := by decide +kernel
theorem dX5_shows_66 : decode cX5_shows 66 = .ok (.ishl, 1) := by decide +kernel
theorem dX5_shows_67 : decode cX5_shows 67 = .ok (.iconst (-1), 1) := by decide +kernel
theorem dX5_shows_68 : decode cX5_shows 68 = .ok (.ixor, 1) := by decide +kernel
theorem dX5_shows_69 : decode cX5_shows 69 = .ok (.iand, 1) := by decide +kernel
theorem dX5_shows_70 : decode cX5_shows 70 = .ok (.iload 4, 2) := by decide +kernel
theorem dX5_shows_72 : decode cX5_shows 72 = .ok (.invokestatic 131, 3) := by decide +kernel
theorem dX5_shows_75 : decode cX5_shows 75 = .ok (.if_icmp .eq 6, 3) := by decide +kernel
theorem dX5_shows_78 : decode cX5_shows 78 = .ok (.iload 6, 2) := by decide +kernel
theorem dX5_shows_80 : decode cX5_shows 80 = .ok (.ireturn, 1) := by decide +kernel
theorem dX5_shows_81 : decode cX5_shows 81 = .ok (.iinc 6 1, 3) := by decide +kernel
theorem dX5_shows_84 : decode cX5_shows 84 = .ok (.goto (-61), 3) := by decide +kernel
theorem dX5_shows_87 : decode cX5_shows 87 = .ok (.bipush (-4), 2) := by decide +kernel
theorem dX5_shows_89 : decode cX5_shows 89 = .ok (.ireturn, 1) := by decide +kernel
theorem dX5_witness_0 : decode cX5_witness 0 = .ok (.aload_n 0, 1) := by decide +kernel
theorem dX5_witness_1 : decode cX5_witness 1 = .ok (.iload_n 1, 1) := by decide +kernel
theorem dX5_witness_2 : decode cX5_witness 2 = .ok (.iload_n 2, 1) := by decide +kernel
theorem dX5_witness_3 : decode cX5_witness 3 = .ok (.invokevirtual 111, 3) := by decide +kernel
theorem dX5_witness_6 : decode cX5_witness 6 = .ok (.ifCond .ne 5, 3) := by decide +kernel
theorem dX5_witness_9 : decode cX5_witness 9 = .ok (.iconst (-1), 1) := by decide +kernel
theorem dX5_witness_10 : decode cX5_witness 10 = .ok (.ireturn, 1) := by decide +kernel
theorem dX5_witness_11 : decode cX5_witness 11 = .ok (.aload_n 0, 1) := by decide +kernel
theorem dX5_witness_12 : decode cX5_witness 12 = .ok (.iload_n 1, 1) := by decide +kernel
theorem dX5_witness_13 : decode cX5_witness 13 = .ok (.invokevirtual 150, 3) := by decide +kernel
theorem dX5_witness_16 : decode cX5_witness 16 = .ok (.aload_n 0, 1) := by decide +kernel
theorem dX5_witness_17 : decode cX5_witness 17 = .ok (.iload_n 1, 1) := by decide +kernel
theorem dX5_witness_18 : decode cX5_witness 18 = .ok (.sipush 255, 3) := by decide +kernel
theorem dX5_witness_21 : decode cX5_witness 21 = .ok (.iload_n 2, 1) := by decide +kernel
theorem dX5_witness_22 : decode cX5_witness 22 = .ok (.invokevirtual 154, 3) := by decide +kernel
theorem dX5_witness_25 : decode cX5_witness 25 = .ok (.ireturn, 1) := by decide +kernel
theorem dX5_isRedundant_0 : decode cX5_isRedundant 0 = .ok (.aload_n 0, 1) := by decide +kernel
theorem dX5_isRedundant_1 : decode cX5_isRedundant 1 = .ok (.iload_n 1, 1) := by decide +kernel
theorem dX5_isRedundant_2 : decode cX5_isRedundant 2 = .ok (.iload_n 2, 1) := by decide +kernel
theorem dX5_isRedundant_3 : decode cX5_isRedundant 3 = .ok (.invokevirtual 157, 3) := by decide +kernel
theorem dX5_isRedundant_6 : decode cX5_isRedundant 6 = .ok (.istore_n 3, 1) := by decide +kernel
theorem dX5_isRedundant_7 : decode cX5_isRedundant 7 = .ok (.iload_n 3, 1) := by decide +kernel
theorem dX5_isRedundant_8 : decode cX5_isRedundant 8 = .ok (.iconst (-1), 1) := by decide +kernel
theorem dX5_isRedundant_9 : decode cX5_isRedundant 9 = .ok (.if_icmp .ne 7, 3) := by decide +kernel
theorem dX5_isRedundant_12 : decode cX5_isRedundant 12 = .ok (.iload_n 3, 1) := by decide +kernel
theorem dX5_isRedundant_13 : decode cX5_isRedundant 13 = .ok (.goto 14, 3) := by decide +kernel
theorem dX5_isRedundant_16 : decode cX5_isRedundant 16 = .ok (.iload_n 3, 1) := by decide +kernel
theorem dX5_isRedundant_17 : decode cX5_isRedundant 17 = .ok (.bipush (-4), 2) := by decide +kernel
theorem dX5_isRedundant_19 : decode cX5_isRedundant 19 = .ok (.if_icmp .ne 7, 3) := by decide +kernel
theorem dX5_isRedundant_22 : decode cX5_isRedundant 22 = .ok (.iconst 1, 1) := by decide +kernel
theorem dX5_isRedundant_23 : decode cX5_isRedundant 23 = .ok (.goto 4, 3) := by decide +kernel
theorem dX5_isRedundant_26 : decode cX5_isRedundant 26 = .ok (.iconst 0, 1) := by decide +kernel
theorem dX5_isRedundant_27 : decode cX5_isRedundant 27 = .ok (.ireturn, 1) := by decide +kernel
theorem dX5_irredundantCore_0 : decode cX5_irredundantCore 0 = .ok (.iload_n 1, 1) := by decide +kernel
theorem dX5_irredundantCore_1 : decode cX5_irredundantCore 1 = .ok (.invokestatic 101, 3) := by decide +kernel
theorem dX5_irredundantCore_4 : decode cX5_irredundantCore 4 = .ok (.ifCond .ne 5, 3) := by decide +kernel
theorem dX5_irredundantCore_7 : decode cX5_irredundantCore 7 = .ok (.iconst (-1), 1) := by decide +kernel
theorem dX5_irredundantCore_8 : decode cX5_irredundantCore 8 = .ok (.ireturn, 1) := by decide +kernel
theorem dX5_irredundantCore_9 : decode cX5_irredundantCore 9 = .ok (.aload_n 0, 1) := by decide +kernel
theorem dX5_irredundantCore_10 : decode cX5_irredundantCore 10 = .ok (.iload_n 1, 1) := by decide +kernel
theorem dX5_irredundantCore_11 : decode cX5_irredundantCore 11 = .ok (.invokevirtual 150, 3) := by decide +kernel
theorem dX5_irredundantCore_14 : decode cX5_irredundantCore 14 = .ok (.iconst 1, 1) := by decide +kernel
theorem dX5_irredundantCore_15 : decode cX5_irredundantCore 15 = .ok (.aload_n 0, 1) := by decide +kernel
theorem dX5_irredundantCore_16 : decode cX5_irredundantCore 16 = .ok (.getfield 13, 3) := by decide +kernel
theorem dX5_irredundantCore_19 : decode cX5_irredundantCore 19 = .ok (.bipush 42, 2) := by decide +kernel
theorem dX5_irredundantCore_21 : decode cX5_irredundantCore 21 = .ok (.iload_n 1, 1) := by decide +kernel
theorem dX5_irredundantCore_22 : decode cX5_irredundantCore 22 = .ok (.imul, 1) := by decide +kernel
theorem dX5_irredundantCore_23 : decode cX5_irredundantCore 23 = .ok (.iaload, 1) := by decide +kernel
theorem dX5_irredundantCore_24 : decode cX5_irredundantCore 24 = .ok (.ishl, 1) := by decide +kernel
theorem dX5_irredundantCore_25 : decode cX5_irredundantCore 25 = .ok (.iconst 1, 1) := by decide +kernel
theorem dX5_irredundantCore_26 : decode cX5_irredundantCore 26 = .ok (.isub, 1) := by decide +kernel
theorem dX5_irredundantCore_27 : decode cX5_irredundantCore 27 = .ok (.istore_n 2, 1) := by decide +kernel
theorem dX5_irredundantCore_28 : decode cX5_irredundantCore 28 = .ok (.iconst 0, 1) := by decide +kernel
theorem dX5_irredundantCore_29 : decode cX5_irredundantCore 29 = .ok (.istore_n 3, 1) := by decide +kernel
theorem dX5_irredundantCore_30 : decode cX5_irredundantCore 30 = .ok (.iload_n 3, 1) := by decide +kernel
theorem dX5_irredundantCore_31 : decode cX5_irredundantCore 31 = .ok (.aload_n 0, 1) := by decide +kernel
theorem dX5_irredundantCore_32 : decode cX5_irredundantCore 32 = .ok (.getfield 13, 3) := by decide +kernel
theorem dX5_irredundantCore_35 : decode cX5_irredundantCore 35 = .ok (.bipush 42, 2) := by decide +kernel
theorem dX5_irredundantCore_37 : decode cX5_irredundantCore 37 = .ok (.iload_n 1, 1) := by decide +kernel
theorem dX5_irredundantCore_38 : decode cX5_irredundantCore 38 = .ok (.imul, 1) := by decide +kernel
theorem dX5_irredundantCore_39 : decode cX5_irredundantCore 39 = .ok (.iaload, 1) := by decide +kernel
theorem dX5_irredundantCore_40 : decode cX5_irredundantCore 40 = .ok (.if_icmp .ge 42, 3) := by decide +kernel
theorem dX5_irredundantCore_43 : decode cX5_irredundantCore 43 = .ok (.iload_n 2, 1) := by decide +kernel
theorem dX5_irredundantCore_44 : decode cX5_irredundantCore 44 = .ok (.iload_n 3, 1) := by decide +kernel
theorem dX5_irredundantCore_45 : decode cX5_irredundantCore 45 = .ok (.invokestatic 67, 3) := by decide +kernel
theorem dX5_irredundantCore_48 : decode cX5_irredundantCore 48 = .ok (.ifCond .eq 28, 3) := by decide +kernel
theorem dX5_irredundantCore_51 : decode cX5_irredundantCore 51 = .ok (.aload_n 0, 1) := by decide +kernel
theorem dX5_irredundantCore_52 : decode cX5_irredundantCore 52 = .ok (.iload_n 1, 1) := by decide +kernel
theorem dX5_irredundantCore_53 : decode cX5_irredundantCore 53 = .ok (.iload_n 2, 1) := by decide +kernel
theorem dX5_irredundantCore_54 : decode cX5_irredundantCore 54 = .ok (.iload_n 3, 1) := by decide +kernel
theorem dX5_irredundantCore_55 : decode cX5_irredundantCore 55 = .ok (.invokevirtual 154, 3) := by decide +kernel
theorem dX5_irredundantCore_58 : decode cX5_irredundantCore 58 = .ok (.bipush (-4), 2) := by decide +kernel
theorem dX5_irredundantCore_60 : decode cX5_irredundantCore 60 = .ok (.if_icmp .ne 16, 3) := by decide +kernel
theorem dX5_irredundantCore_63 : decode cX5_irredundantCore 63 = .ok (.iload_n 2, 1) := by decide +kernel
theorem dX5_irredundantCore_64 : decode cX5_irredundantCore 64 = .ok (.iconst 1, 1) := by decide +kernel
theorem dX5_irredundantCore_65 : decode cX5_irredundantCore 65 = .ok (.iload_n 3, 1) := by decide +kernel
theorem dX5_irredundantCore_66 : decode cX5_irredundantCore 66 = .ok (.ishl, 1) := by decide +kernel
theorem dX5_irredundantCore_67 : decode cX5_irredundantCore 67 = .ok (.iconst (-1), 1) := by decide +kernel
theorem dX5_irredundantCore_68 : decode cX5_irredundantCore 68 = .ok (.ixor, 1) := by decide +kernel
theorem dX5_irredundantCore_69 : decode cX5_irredundantCore 69 = .ok (.iand, 1) := by decide +kernel
theorem dX5_irredundantCore_70 : decode cX5_irredundantCore 70 = .ok (.istore_n 2, 1) := by decide +kernel
theorem dX5_irredundantCore_71 : decode cX5_irredundantCore 71 = .ok (.iconst 0, 1) := by decide +kernel
theorem dX5_irredundantCore_72 : decode cX5_irredundantCore 72 = .ok (.istore_n 3, 1) := by decide +kernel
theorem dX5_irredundantCore_73 : decode cX5_irredundantCore 73 = .ok (.goto (-43), 3) := by decide +kernel
theorem dX5_irredundantCore_76 : decode cX5_irredundantCore 76 = .ok (.iinc 3 1, 3) := by decide +kernel
theorem dX5_irredundantCore_79 : decode cX5_irredundantCore 79 = .ok (.goto (-49), 3) := by decide +kernel
theorem dX5_irredundantCore_82 : decode cX5_irredundantCore 82 = .ok (.iload_n 2, 1) := by decide +kernel
theorem dX5_irredundantCore_83 : decode cX5_irredundantCore 83 = .ok (.ireturn, 1) := by decide +kernel
theorem dX5_isWithoutGain_0 : decode cX5_isWithoutGain 0 = .ok (.aload_n 0, 1) := by decide +kernel
theorem dX5_isWithoutGain_1 : decode cX5_isWithoutGain 1 = .ok (.iconst 1, 1) := by decide +kernel
theorem dX5_isWithoutGain_2 : decode cX5_isWithoutGain 2 = .ok (.invokevirtual 128, 3) := by decide +kernel
theorem dX5_isWithoutGain_5 : decode cX5_isWithoutGain 5 = .ok (.istore_n 2, 1) := by decide +kernel
theorem dX5_isWithoutGain_6 : decode cX5_isWithoutGain 6 = .ok (.aload_n 0, 1) := by decide +kernel
theorem dX5_isWithoutGain_7 : decode cX5_isWithoutGain 7 = .ok (.getfield 13, 3) := by decide +kernel
theorem dX5_isWithoutGain_10 : decode cX5_isWithoutGain 10 = .ok (.bipush 43, 2) := by decide +kernel
theorem dX5_isWithoutGain_12 : decode cX5_isWithoutGain 12 = .ok (.iaload, 1) := by decide +kernel
theorem dX5_isWithoutGain_13 : decode cX5_isWithoutGain 13 = .ok (.istore_n 3, 1) := by decide +kernel
theorem dX5_isWithoutGain_14 : decode cX5_isWithoutGain 14 = .ok (.iconst 0, 1) := by decide +kernel
theorem dX5_isWithoutGain_15 : decode cX5_isWithoutGain 15 = .ok (.istore 4, 2) := by decide +kernel
theorem dX5_isWithoutGain_17 : decode cX5_isWithoutGain 17 = .ok (.iload 4, 2) := by decide +kernel
theorem dX5_isWithoutGain_19 : decode cX5_isWithoutGain 19 = .ok (.sipush 1024, 3) := by decide +kernel
theorem dX5_isWithoutGain_22 : decode cX5_isWithoutGain 22 = .ok (.if_icmp .ge 38, 3) := by decide +kernel
theorem dX5_isWithoutGain_25 : decode cX5_isWithoutGain 25 = .ok (.aload_n 0, 1) := by decide +kernel
theorem dX5_isWithoutGain_26 : decode cX5_isWithoutGain 26 = .ok (.getfield 25, 3) := by decide +kernel
theorem dX5_isWithoutGain_29 : decode cX5_isWithoutGain 29 = .ok (.iload 4, 2) := by decide +kernel
theorem dX5_isWithoutGain_31 : decode cX5_isWithoutGain 31 = .ok (.iaload, 1) := by decide +kernel
theorem dX5_isWithoutGain_32 : decode cX5_isWithoutGain 32 = .ok (.ifCond .ne 22, 3) := by decide +kernel
theorem dX5_isWithoutGain_35 : decode cX5_isWithoutGain 35 = .ok (.iload_n 3, 1) := by decide +kernel
theorem dX5_isWithoutGain_36 : decode cX5_isWithoutGain 36 = .ok (.aload_n 0, 1) := by decide +kernel
theorem dX5_isWithoutGain_37 : decode cX5_isWithoutGain 37 = .ok (.getfield 22, 3) := by decide +kernel
theorem dX5_isWithoutGain_40 : decode cX5_isWithoutGain 40 = .ok (.iload 4, 2) := by decide +kernel
theorem dX5_isWithoutGain_42 : decode cX5_isWithoutGain 42 = .ok (.iaload, 1) := by decide +kernel
theorem dX5_isWithoutGain_43 : decode cX5_isWithoutGain 43 = .ok (.iload_n 1, 1) := by decide +kernel
theorem dX5_isWithoutGain_44 : decode cX5_isWithoutGain 44 = .ok (.iand, 1) := by decide +kernel
theorem dX5_isWithoutGain_45 : decode cX5_isWithoutGain 45 = .ok (.iload_n 2, 1) := by decide +kernel
theorem dX5_isWithoutGain_46 : decode cX5_isWithoutGain 46 = .ok (.invokestatic 131, 3) := by decide +kernel
theorem dX5_isWithoutGain_49 : decode cX5_isWithoutGain 49 = .ok (.ifCond .ne 5, 3) := by decide +kernel
theorem dX5_isWithoutGain_52 : decode cX5_isWithoutGain 52 = .ok (.iconst 0, 1) := by decide +kernel
theorem dX5_isWithoutGain_53 : decode cX5_isWithoutGain 53 = .ok (.ireturn, 1) := by decide +kernel
theorem dX5_isWithoutGain_54 : decode cX5_isWithoutGain 54 = .ok (.iinc 4 1, 3) := by decide +kernel
theorem dX5_isWithoutGain_57 : decode cX5_isWithoutGain 57 = .ok (.goto (-40), 3) := by decide +kernel
theorem dX5_isWithoutGain_60 : decode cX5_isWithoutGain 60 = .ok (.iconst 1, 1) := by decide +kernel
theorem dX5_isWithoutGain_61 : decode cX5_isWithoutGain 61 = .ok (.ireturn, 1) := by decide +kernel
theorem dX5_leastRemoval_0 : decode cX5_leastRemoval 0 = .ok (.aload_n 0, 1) := by decide +kernel
theorem dX5_leastRemoval_1 : decode cX5_leastRemoval 1 = .ok (.iconst 1, 1) := by decide +kernel
theorem dX5_leastRemoval_2 : decode cX5_leastRemoval 2 = .ok (.invokevirtual 150, 3) := by decide +kernel
theorem dX5_leastRemoval_5 : decode cX5_leastRemoval 5 = .ok (.iconst 0, 1) := by decide +kernel
theorem dX5_leastRemoval_6 : decode cX5_leastRemoval 6 = .ok (.istore_n 1, 1) := by decide +kernel
theorem dX5_leastRemoval_7 : decode cX5_leastRemoval 7 = .ok (.iload_n 1, 1) := by decide +kernel
theorem dX5_leastRemoval_8 : decode cX5_leastRemoval 8 = .ok (.sipush 1024, 3) := by decide +kernel
theorem dX5_leastRemoval_11 : decode cX5_leastRemoval 11 = .ok (.if_icmp .ge 29, 3) := by decide +kernel
theorem dX5_leastRemoval_14 : decode cX5_leastRemoval 14 = .ok (.aload_n 0, 1) := by decide +kernel
theorem dX5_leastRemoval_15 : decode cX5_leastRemoval 15 = .ok (.getfield 25, 3) := by decide +kernel
theorem dX5_leastRemoval_18 : decode cX5_leastRemoval 18 = .ok (.iload_n 1, 1) := by decide +kernel
theorem dX5_leastRemoval_19 : decode cX5_leastRemoval 19 = .ok (.aload_n 0, 1) := by decide +kernel
theorem dX5_leastRemoval_20 : decode cX5_leastRemoval 20 = .ok (.iconst 0, 1) := by decide +kernel
theorem dX5_leastRemoval_21 : decode cX5_leastRemoval 21 = .ok (.iload_n 1, 1) := by decide +kernel
theorem dX5_leastRemoval_22 : decode cX5_leastRemoval 22 = .ok (.invokevirtual 138, 3) := by decide +kernel
theorem dX5_leastRemoval_25 : decode cX5_leastRemoval 25 = .ok (.ifCond .ne 7, 3) := by decide +kernel
theorem dX5_leastRemoval_28 : decode cX5_leastRemoval 28 = .ok (.iconst 1, 1) := by decide +kernel
theorem dX5_leastRemoval_29 : decode cX5_leastRemoval 29 = .ok (.goto 4, 3) := by decide +kernel
theorem dX5_leastRemoval_32 : decode cX5_leastRemoval 32 = .ok (.iconst 0, 1) := by decide +kernel
theorem dX5_leastRemoval_33 : decode cX5_leastRemoval 33 = .ok (.iastore, 1) := by decide +kernel
theorem dX5_leastRemoval_34 : decode cX5_leastRemoval 34 = .ok (.iinc 1 1, 3) := by decide +kernel
theorem dX5_leastRemoval_37 : decode cX5_leastRemoval 37 = .ok (.goto (-30), 3) := by decide +kernel
theorem dX5_leastRemoval_40 : decode cX5_leastRemoval 40 = .ok (.iconst 1, 1) := by decide +kernel
theorem dX5_leastRemoval_41 : decode cX5_leastRemoval 41 = .ok (.aload_n 0, 1) := by decide +kernel
theorem dX5_leastRemoval_42 : decode cX5_leastRemoval 42 = .ok (.getfield 13, 3) := by decide +kernel
theorem dX5_leastRemoval_45 : decode cX5_leastRemoval 45 = .ok (.bipush 42, 2) := by decide +kernel
theorem dX5_leastRemoval_47 : decode cX5_leastRemoval 47 = .ok (.iaload, 1) := by decide +kernel
theorem dX5_leastRemoval_48 : decode cX5_leastRemoval 48 = .ok (.ishl, 1) := by decide +kernel
theorem dX5_leastRemoval_49 : decode cX5_leastRemoval 49 = .ok (.iconst 1, 1) := by decide +kernel
theorem dX5_leastRemoval_50 : decode cX5_leastRemoval 50 = .ok (.isub, 1) := by decide +kernel
theorem dX5_leastRemoval_51 : decode cX5_leastRemoval 51 = .ok (.istore_n 1, 1) := by decide +kernel
theorem dX5_leastRemoval_52 : decode cX5_leastRemoval 52 = .ok (.iconst 0, 1) := by decide +kernel
theorem dX5_leastRemoval_53 : decode cX5_leastRemoval 53 = .ok (.istore_n 2, 1) := by decide +kernel
theorem dX5_leastRemoval_54 : decode cX5_leastRemoval 54 = .ok (.iload_n 2, 1) := by decide +kernel
theorem dX5_leastRemoval_55 : decode cX5_leastRemoval 55 = .ok (.aload_n 0, 1) := by decide +kernel
theorem dX5_leastRemoval_56 : decode cX5_leastRemoval 56 = .ok (.getfield 13, 3) := by decide +kernel
theorem dX5_leastRemoval_59 : decode cX5_leastRemoval 59 = .ok (.bipush 42, 2) := by decide +kernel
theorem dX5_leastRemoval_61 : decode cX5_leastRemoval 61 = .ok (.iaload, 1) := by decide +kernel
theorem dX5_leastRemoval_62 : decode cX5_leastRemoval 62 = .ok (.if_icmp .gt 44, 3) := by decide +kernel
theorem dX5_leastRemoval_65 : decode cX5_leastRemoval 65 = .ok (.iconst 0, 1) := by decide +kernel
theorem dX5_leastRemoval_66 : decode cX5_leastRemoval 66 = .ok (.istore_n 3, 1) := by decide +kernel
theorem dX5_leastRemoval_67 : decode cX5_leastRemoval 67 = .ok (.iload_n 3, 1) := by decide +kernel
theorem dX5_leastRemoval_68 : decode cX5_leastRemoval 68 = .ok (.iload_n 1, 1) := by decide +kernel
theorem dX5_leastRemoval_69 : decode cX5_leastRemoval 69 = .ok (.if_icmp .gt 31, 3) := by decide +kernel
theorem dX5_leastRemoval_72 : decode cX5_leastRemoval 72 = .ok (.iload_n 3, 1) := by decide +kernel
theorem dX5_leastRemoval_73 : decode cX5_leastRemoval 73 = .ok (.invokestatic 122, 3) := by decide +kernel
theorem dX5_leastRemoval_76 : decode cX5_leastRemoval 76 = .ok (.iload_n 2, 1) := by decide +kernel
theorem dX5_leastRemoval_77 : decode cX5_leastRemoval 77 = .ok (.if_icmp .ne 17, 3) := by decide +kernel
theorem dX5_leastRemoval_80 : decode cX5_leastRemoval 80 = .ok (.aload_n 0, 1) := by decide +kernel
theorem dX5_leastRemoval_81 : decode cX5_leastRemoval 81 = .ok (.iload_n 1, 1) := by decide +kernel
theorem dX5_leastRemoval_82 : decode cX5_leastRemoval 82 = .ok (.iload_n 3, 1) := by decide +kernel
theorem dX5_leastRemoval_83 : decode cX5_leastRemoval 83 = .ok (.iconst (-1), 1) := by decide +kernel
theorem dX5_leastRemoval_84 : decode cX5_leastRemoval 84 = .ok (.ixor, 1) := by decide +kernel
theorem dX5_leastRemoval_85 : decode cX5_leastRemoval 85 = .ok (.iand, 1) := by decide +kernel
theorem dX5_leastRemoval_86 : decode cX5_leastRemoval 86 = .ok (.invokevirtual 160, 3) := by decide +kernel
theorem dX5_leastRemoval_89 : decode cX5_leastRemoval 89 = .ok (.ifCond .eq 5, 3) := by decide +kernel
theorem dX5_leastRemoval_92 : decode cX5_leastRemoval 92 = .ok (.iload_n 3, 1) := by decide +kernel
theorem dX5_leastRemoval_93 : decode cX5_leastRemoval 93 = .ok (.ireturn, 1) := by decide +kernel
theorem dX5_leastRemoval_94 : decode cX5_leastRemoval 94 = .ok (.iinc 3 1, 3) := by decide +kernel
theorem dX5_leastRemoval_97 : decode cX5_leastRemoval 97 = .ok (.goto (-30), 3) := by decide +kernel
theorem dX5_leastRemoval_100 : decode cX5_leastRemoval 100 = .ok (.iinc 2 1, 3) := by decide +kernel
theorem dX5_leastRemoval_103 : decode cX5_leastRemoval 103 = .ok (.goto (-49), 3) := by decide +kernel
theorem dX5_leastRemoval_106 : decode cX5_leastRemoval 106 = .ok (.bipush (-4), 2) := by decide +kernel
theorem dX5_leastRemoval_108 : decode cX5_leastRemoval 108 = .ok (.ireturn, 1) := by decide +kernel
theorem dX5_historySize_0 : decode cX5_historySize 0 = .ok (.aload_n 0, 1) := by decide +kernel
theorem dX5_historySize_1 : decode cX5_historySize 1 = .ok (.getfield 56, 3) := by decide +kernel
theorem dX5_historySize_4 : decode cX5_historySize 4 = .ok (.ireturn, 1) := by decide +kernel
theorem dJ6_lowestOneBit_0f7a4_0 : decode cJ6_lowestOneBit_0f7a4 0 = .ok (.iload_n 0, 1) := by decide +kernel
theorem dJ6_lowestOneBit_0f7a4_1 : decode cJ6_lowestOneBit_0f7a4 1 = .ok (.iload_n 0, 1) := by decide +kernel
theorem dJ6_lowestOneBit_0f7a4_2 : decode cJ6_lowestOneBit_0f7a4 2 = .ok (.ineg, 1) := by decide +kernel
theorem dJ6_lowestOneBit_0f7a4_3 : decode cJ6_lowestOneBit_0f7a4 3 = .ok (.iand, 1) := by decide +kernel
theorem dJ6_lowestOneBit_0f7a4_4 : decode cJ6_lowestOneBit_0f7a4 4 = .ok (.ireturn, 1) := by decide +kernel
theorem dJ6_numberOfLeadingZeros_0f7a4_0 : decode cJ6_numberOfLeadingZeros_0f7a4 0 = .ok (.iload_n 0, 1) := by decide +kernel
theorem dJ6_numberOfLeadingZeros_0f7a4_1 : decode cJ6_numberOfLeadingZeros_0f7a4 1 = .ok (.ifCond .gt 14, 3) := by decide +kernel
theorem dJ6_numberOfLeadingZeros_0f7a4_4 : decode cJ6_numberOfLeadingZeros_0f7a4 4 = .ok (.iload_n 0, 1) := by decide +kernel
theorem dJ6_numberOfLeadingZeros_0f7a4_5 : decode cJ6_numberOfLeadingZeros_0f7a4 5 = .ok (.ifCond .ne 8, 3) := by decide +kernel
theorem dJ6_numberOfLeadingZeros_0f7a4_8 : decode cJ6_numberOfLeadingZeros_0f7a4 8 = .ok (.bipush 32, 2) := by decide +kernel
theorem dJ6_numberOfLeadingZeros_0f7a4_10 : decode cJ6_numberOfLeadingZeros_0f7a4 10 = .ok (.goto 4, 3) := by decide +kernel
theorem dJ6_numberOfLeadingZeros_0f7a4_13 : decode cJ6_numberOfLeadingZeros_0f7a4 13 = .ok (.iconst 0, 1) := by decide +kernel
theorem dJ6_numberOfLeadingZeros_0f7a4_14 : decode cJ6_numberOfLeadingZeros_0f7a4 14 = .ok (.ireturn, 1) := by decide +kernel
theorem dJ6_numberOfLeadingZeros_0f7a4_15 : decode cJ6_numberOfLeadingZeros_0f7a4 15 = .ok (.bipush 31, 2) := by decide +kernel
theorem dJ6_numberOfLeadingZeros_0f7a4_17 : decode cJ6_numberOfLeadingZeros_0f7a4 17 = .ok (.istore_n 1, 1) := by decide +kernel
theorem dJ6_numberOfLeadingZeros_0f7a4_18 : decode cJ6_numberOfLeadingZeros_0f7a4 18 = .ok (.iload_n 0, 1) := by decide +kernel
theorem dJ6_numberOfLeadingZeros_0f7a4_19 : decode cJ6_numberOfLeadingZeros_0f7a4 19 = .ok (.ldc_w 264, 3) := by decide +kernel
theorem dJ6_numberOfLeadingZeros_0f7a4_22 : decode cJ6_numberOfLeadingZeros_0f7a4 22 = .ok (.if_icmp .lt 11, 3) := by decide +kernel
theorem dJ6_numberOfLeadingZeros_0f7a4_25 : decode cJ6_numberOfLeadingZeros_0f7a4 25 = .ok (.iinc 1 (-16), 3) := by decide +kernel
theorem dJ6_numberOfLeadingZeros_0f7a4_28 : decode cJ6_numberOfLeadingZeros_0f7a4 28 = .ok (.iload_n 0, 1) := by decide +kernel
theorem dJ6_numberOfLeadingZeros_0f7a4_29 : decode cJ6_numberOfLeadingZeros_0f7a4 29 = .ok (.bipush 16, 2) := by decide +kernel
theorem dJ6_numberOfLeadingZeros_0f7a4_31 : decode cJ6_numberOfLeadingZeros_0f7a4 31 = .ok (.iushr, 1) := by decide +kernel
theorem dJ6_numberOfLeadingZeros_0f7a4_32 : decode cJ6_numberOfLeadingZeros_0f7a4 32 = .ok (.istore_n 0, 1) := by decide +kernel
theorem dJ6_numberOfLeadingZeros_0f7a4_33 : decode cJ6_numberOfLeadingZeros_0f7a4 33 = .ok (.iload_n 0, 1) := by decide +kernel
theorem dJ6_numberOfLeadingZeros_0f7a4_34 : decode cJ6_numberOfLeadingZeros_0f7a4 34 = .ok (.sipush 256, 3) := by decide +kernel
theorem dJ6_numberOfLeadingZeros_0f7a4_37 : decode cJ6_numberOfLeadingZeros_0f7a4 37 = .ok (.if_icmp .lt 11, 3) := by decide +kernel
theorem dJ6_numberOfLeadingZeros_0f7a4_40 : decode cJ6_numberOfLeadingZeros_0f7a4 40 = .ok (.iinc 1 (-8), 3) := by decide +kernel
theorem dJ6_numberOfLeadingZeros_0f7a4_43 : decode cJ6_numberOfLeadingZeros_0f7a4 43 = .ok (.iload_n 0, 1) := by decide +kernel
theorem dJ6_numberOfLeadingZeros_0f7a4_44 : decode cJ6_numberOfLeadingZeros_0f7a4 44 = .ok (.bipush 8, 2) := by decide +kernel
theorem dJ6_numberOfLeadingZeros_0f7a4_46 : decode cJ6_numberOfLeadingZeros_0f7a4 46 = .ok (.iushr, 1) := by decide +kernel
theorem dJ6_numberOfLeadingZeros_0f7a4_47 : decode cJ6_numberOfLeadingZeros_0f7a4 47 = .ok (.istore_n 0, 1) := by decide +kernel
theorem dJ6_numberOfLeadingZeros_0f7a4_48 : decode cJ6_numberOfLeadingZeros_0f7a4 48 = .ok (.iload_n 0, 1) := by decide +kernel
theorem dJ6_numberOfLeadingZeros_0f7a4_49 : decode cJ6_numberOfLeadingZeros_0f7a4 49 = .ok (.bipush 16, 2) := by decide +kernel
theorem dJ6_numberOfLeadingZeros_0f7a4_51 : decode cJ6_numberOfLeadingZeros_0f7a4 51 = .ok (.if_icmp .lt 10, 3) := by decide +kernel
theorem dJ6_numberOfLeadingZeros_0f7a4_54 : decode cJ6_numberOfLeadingZeros_0f7a4 54 = .ok (.iinc 1 (-4), 3) := by decide +kernel
theorem dJ6_numberOfLeadingZeros_0f7a4_57 : decode cJ6_numberOfLeadingZeros_0f7a4 57 = .ok (.iload_n 0, 1) := by decide +kernel
theorem dJ6_numberOfLeadingZeros_0f7a4_58 : decode cJ6_numberOfLeadingZeros_0f7a4 58 = .ok (.iconst 4, 1) := by decide +kernel
theorem dJ6_numberOfLeadingZeros_0f7a4_59 : decode cJ6_numberOfLeadingZeros_0f7a4 59 = .ok (.iushr, 1) := by decide +kernel
theorem dJ6_numberOfLeadingZeros_0f7a4_60 : decode cJ6_numberOfLeadingZeros_0f7a4 60 = .ok (.istore_n 0, 1) := by decide +kernel
theorem dJ6_numberOfLeadingZeros_0f7a4_61 : decode cJ6_numberOfLeadingZeros_0f7a4 61 = .ok (.iload_n 0, 1) := by decide +kernel
theorem dJ6_numberOfLeadingZeros_0f7a4_62 : decode cJ6_numberOfLeadingZeros_0f7a4 62 = .ok (.iconst 4, 1) := by decide +kernel
theorem dJ6_numberOfLeadingZeros_0f7a4_63 : decode cJ6_numberOfLeadingZeros_0f7a4 63 = .ok (.if_icmp .lt 10, 3) := by decide +kernel
theorem dJ6_numberOfLeadingZeros_0f7a4_66 : decode cJ6_numberOfLeadingZeros_0f7a4 66 = .ok (.iinc 1 (-2), 3) := by decide +kernel
theorem dJ6_numberOfLeadingZeros_0f7a4_69 : decode cJ6_numberOfLeadingZeros_0f7a4 69 = .ok (.iload_n 0, 1) := by decide +kernel
theorem dJ6_numberOfLeadingZeros_0f7a4_70 : decode cJ6_numberOfLeadingZeros_0f7a4 70 = .ok (.iconst 2, 1) := by decide +kernel
theorem dJ6_numberOfLeadingZeros_0f7a4_71 : decode cJ6_numberOfLeadingZeros_0f7a4 71 = .ok (.iushr, 1) := by decide +kernel
theorem dJ6_numberOfLeadingZeros_0f7a4_72 : decode cJ6_numberOfLeadingZeros_0f7a4 72 = .ok (.istore_n 0, 1) := by decide +kernel
theorem dJ6_numberOfLeadingZeros_0f7a4_73 : decode cJ6_numberOfLeadingZeros_0f7a4 73 = .ok (.iload_n 1, 1) := by decide +kernel
theorem dJ6_numberOfLeadingZeros_0f7a4_74 : decode cJ6_numberOfLeadingZeros_0f7a4 74 = .ok (.iload_n 0, 1) := by decide +kernel
theorem dJ6_numberOfLeadingZeros_0f7a4_75 : decode cJ6_numberOfLeadingZeros_0f7a4 75 = .ok (.iconst 1, 1) := by decide +kernel
theorem dJ6_numberOfLeadingZeros_0f7a4_76 : decode cJ6_numberOfLeadingZeros_0f7a4 76 = .ok (.iushr, 1) := by decide +kernel
theorem dJ6_numberOfLeadingZeros_0f7a4_77 : decode cJ6_numberOfLeadingZeros_0f7a4 77 = .ok (.isub, 1) := by decide +kernel
theorem dJ6_numberOfLeadingZeros_0f7a4_78 : decode cJ6_numberOfLeadingZeros_0f7a4 78 = .ok (.ireturn, 1) := by decide +kernel
theorem dJ6_bitCount_0f7a4_0 : decode cJ6_bitCount_0f7a4 0 = .ok (.iload_n 0, 1) := by decide +kernel
theorem dJ6_bitCount_0f7a4_1 : decode cJ6_bitCount_0f7a4 1 = .ok (.iload_n 0, 1) := by decide +kernel
theorem dJ6_bitCount_0f7a4_2 : decode cJ6_bitCount_0f7a4 2 = .ok (.iconst 1, 1) := by decide +kernel
theorem dJ6_bitCount_0f7a4_3 : decode cJ6_bitCount_0f7a4 3 = .ok (.iushr, 1) := by decide +kernel
theorem dJ6_bitCount_0f7a4_4 : decode cJ6_bitCount_0f7a4 4 = .ok (.ldc_w 265, 3) := by decide +kernel
theorem dJ6_bitCount_0f7a4_7 : decode cJ6_bitCount_0f7a4 7 = .ok (.iand, 1) := by decide +kernel
theorem dJ6_bitCount_0f7a4_8 : decode cJ6_bitCount_0f7a4 8 = .ok (.isub, 1) := by decide +kernel
theorem dJ6_bitCount_0f7a4_9 : decode cJ6_bitCount_0f7a4 9 = .ok (.istore_n 0, 1) := by decide +kernel
theorem dJ6_bitCount_0f7a4_10 : decode cJ6_bitCount_0f7a4 10 = .ok (.iload_n 0, 1) := by decide +kernel
theorem dJ6_bitCount_0f7a4_11 : decode cJ6_bitCount_0f7a4 11 = .ok (.ldc_w 266, 3) := by decide +kernel
theorem dJ6_bitCount_0f7a4_14 : decode cJ6_bitCount_0f7a4 14 = .ok (.iand, 1) := by decide +kernel
theorem dJ6_bitCount_0f7a4_15 : decode cJ6_bitCount_0f7a4 15 = .ok (.iload_n 0, 1) := by decide +kernel
theorem dJ6_bitCount_0f7a4_16 : decode cJ6_bitCount_0f7a4 16 = .ok (.iconst 2, 1) := by decide +kernel
theorem dJ6_bitCount_0f7a4_17 : decode cJ6_bitCount_0f7a4 17 = .ok (.iushr, 1) := by decide +kernel
theorem dJ6_bitCount_0f7a4_18 : decode cJ6_bitCount_0f7a4 18 = .ok (.ldc_w 266, 3) := by decide +kernel
theorem dJ6_bitCount_0f7a4_21 : decode cJ6_bitCount_0f7a4 21 = .ok (.iand, 1) := by decide +kernel
theorem dJ6_bitCount_0f7a4_22 : decode cJ6_bitCount_0f7a4 22 = .ok (.iadd, 1) := by decide +kernel
theorem dJ6_bitCount_0f7a4_23 : decode cJ6_bitCount_0f7a4 23 = .ok (.istore_n 0, 1) := by decide +kernel
theorem dJ6_bitCount_0f7a4_24 : decode cJ6_bitCount_0f7a4 24 = .ok (.iload_n 0, 1) := by decide +kernel
theorem dJ6_bitCount_0f7a4_25 : decode cJ6_bitCount_0f7a4 25 = .ok (.iload_n 0, 1) := by decide +kernel
theorem dJ6_bitCount_0f7a4_26 : decode cJ6_bitCount_0f7a4 26 = .ok (.iconst 4, 1) := by decide +kernel
theorem dJ6_bitCount_0f7a4_27 : decode cJ6_bitCount_0f7a4 27 = .ok (.iushr, 1) := by decide +kernel
theorem dJ6_bitCount_0f7a4_28 : decode cJ6_bitCount_0f7a4 28 = .ok (.iadd, 1) := by decide +kernel
theorem dJ6_bitCount_0f7a4_29 : decode cJ6_bitCount_0f7a4 29 = .ok (.ldc_w 267, 3) := by decide +kernel
theorem dJ6_bitCount_0f7a4_32 : decode cJ6_bitCount_0f7a4 32 = .ok (.iand, 1) := by decide +kernel
theorem dJ6_bitCount_0f7a4_33 : decode cJ6_bitCount_0f7a4 33 = .ok (.istore_n 0, 1) := by decide +kernel
theorem dJ6_bitCount_0f7a4_34 : decode cJ6_bitCount_0f7a4 34 = .ok (.iload_n 0, 1) := by decide +kernel
theorem dJ6_bitCount_0f7a4_35 : decode cJ6_bitCount_0f7a4 35 = .ok (.iload_n 0, 1) := by decide +kernel
theorem dJ6_bitCount_0f7a4_36 : decode cJ6_bitCount_0f7a4 36 = .ok (.bipush 8, 2) := by decide +kernel
theorem dJ6_bitCount_0f7a4_38 : decode cJ6_bitCount_0f7a4 38 = .ok (.iushr, 1) := by decide +kernel
theorem dJ6_bitCount_0f7a4_39 : decode cJ6_bitCount_0f7a4 39 = .ok (.iadd, 1) := by decide +kernel
theorem dJ6_bitCount_0f7a4_40 : decode cJ6_bitCount_0f7a4 40 = .ok (.istore_n 0, 1) := by decide +kernel
theorem dJ6_bitCount_0f7a4_41 : decode cJ6_bitCount_0f7a4 41 = .ok (.iload_n 0, 1) := by decide +kernel
theorem dJ6_bitCount_0f7a4_42 : decode cJ6_bitCount_0f7a4 42 = .ok (.iload_n 0, 1) := by decide +kernel
theorem dJ6_bitCount_0f7a4_43 : decode cJ6_bitCount_0f7a4 43 = .ok (.bipush 16, 2) := by decide +kernel
theorem dJ6_bitCount_0f7a4_45 : decode cJ6_bitCount_0f7a4 45 = .ok (.iushr, 1) := by decide +kernel
theorem dJ6_bitCount_0f7a4_46 : decode cJ6_bitCount_0f7a4 46 = .ok (.iadd, 1) := by decide +kernel
theorem dJ6_bitCount_0f7a4_47 : decode cJ6_bitCount_0f7a4 47 = .ok (.istore_n 0, 1) := by decide +kernel
theorem dJ6_bitCount_0f7a4_48 : decode cJ6_bitCount_0f7a4 48 = .ok (.iload_n 0, 1) := by decide +kernel
theorem dJ6_bitCount_0f7a4_49 : decode cJ6_bitCount_0f7a4 49 = .ok (.bipush 63, 2) := by decide +kernel
theorem dJ6_bitCount_0f7a4_51 : decode cJ6_bitCount_0f7a4 51 = .ok (.iand, 1) := by decide +kernel
theorem dJ6_bitCount_0f7a4_52 : decode cJ6_bitCount_0f7a4 52 = .ok (.ireturn, 1) := by decide +kernel
theorem dJ0_length_8abf5_0 : decode cJ0_length_8abf5 0 = .ok (.aload_n 0, 1) := by decide +kernel
theorem dJ0_length_8abf5_1 : decode cJ0_length_8abf5 1 = .ok (.getfield 9, 3) := by decide +kernel
theorem dJ0_length_8abf5_4 : decode cJ0_length_8abf5 4 = .ok (.arraylength, 1) := by decide +kernel
theorem dJ0_length_8abf5_5 : decode cJ0_length_8abf5 5 = .ok (.aload_n 0, 1) := by decide +kernel
theorem dJ0_length_8abf5_6 : decode cJ0_length_8abf5 6 = .ok (.invokevirtual 335, 3) := by decide +kernel
theorem dJ0_length_8abf5_9 : decode cJ0_length_8abf5 9 = .ok (.ishr, 1) := by decide +kernel
theorem dJ0_length_8abf5_10 : decode cJ0_length_8abf5 10 = .ok (.ireturn, 1) := by decide +kernel
theorem dJ0_charAt_5068e_0 : decode cJ0_charAt_5068e 0 = .ok (.aload_n 0, 1) := by decide +kernel
theorem dJ0_charAt_5068e_1 : decode cJ0_charAt_5068e 1 = .ok (.invokevirtual 492, 3) := by decide +kernel
theorem dJ0_charAt_5068e_4 : decode cJ0_charAt_5068e 4 = .ok (.ifCond .eq 12, 3) := by decide +kernel
theorem dJ0_charAt_5068e_7 : decode cJ0_charAt_5068e 7 = .ok (.aload_n 0, 1) := by decide +kernel
theorem dJ0_charAt_5068e_8 : decode cJ0_charAt_5068e 8 = .ok (.getfield 9, 3) := by decide +kernel
theorem dJ0_charAt_5068e_11 : decode cJ0_charAt_5068e 11 = .ok (.iload_n 1, 1) := by decide +kernel
theorem dJ0_charAt_5068e_12 : decode cJ0_charAt_5068e 12 = .ok (.invokestatic 495, 3) := by decide +kernel
theorem dJ0_charAt_5068e_15 : decode cJ0_charAt_5068e 15 = .ok (.ireturn, 1) := by decide +kernel
theorem dJ0_charAt_5068e_16 : decode cJ0_charAt_5068e 16 = .ok (.aload_n 0, 1) := by decide +kernel
theorem dJ0_charAt_5068e_17 : decode cJ0_charAt_5068e 17 = .ok (.getfield 9, 3) := by decide +kernel
theorem dJ0_charAt_5068e_20 : decode cJ0_charAt_5068e 20 = .ok (.iload_n 1, 1) := by decide +kernel
theorem dJ0_charAt_5068e_21 : decode cJ0_charAt_5068e 21 = .ok (.invokestatic 498, 3) := by decide +kernel
theorem dJ0_charAt_5068e_24 : decode cJ0_charAt_5068e 24 = .ok (.ireturn, 1) := by decide +kernel
theorem dJ0_coder_7d493_0 : decode cJ0_coder_7d493 0 = .ok (.getstatic 38, 3) := by decide +kernel
theorem dJ0_coder_7d493_3 : decode cJ0_coder_7d493 3 = .ok (.ifCond .eq 10, 3) := by decide +kernel
theorem dJ0_coder_7d493_6 : decode cJ0_coder_7d493 6 = .ok (.aload_n 0, 1) := by decide +kernel
theorem dJ0_coder_7d493_7 : decode cJ0_coder_7d493 7 = .ok (.getfield 15, 3) := by decide +kernel
theorem dJ0_coder_7d493_10 : decode cJ0_coder_7d493 10 = .ok (.goto 4, 3) := by decide +kernel
theorem dJ0_coder_7d493_13 : decode cJ0_coder_7d493 13 = .ok (.iconst 1, 1) := by decide +kernel
theorem dJ0_coder_7d493_14 : decode cJ0_coder_7d493 14 = .ok (.ireturn, 1) := by decide +kernel
theorem dJ0_isLatin1_aae02_0 : decode cJ0_isLatin1_aae02 0 = .ok (.getstatic 38, 3) := by decide +kernel
theorem dJ0_isLatin1_aae02_3 : decode cJ0_isLatin1_aae02 3 = .ok (.ifCond .eq 14, 3) := by decide +kernel
theorem dJ0_isLatin1_aae02_6 : decode cJ0_isLatin1_aae02 6 = .ok (.aload_n 0, 1) := by decide +kernel
theorem dJ0_isLatin1_aae02_7 : decode cJ0_isLatin1_aae02 7 = .ok (.getfield 15, 3) := by decide +kernel
theorem dJ0_isLatin1_aae02_10 : decode cJ0_isLatin1_aae02 10 = .ok (.ifCond .ne 7, 3) := by decide +kernel
theorem dJ0_isLatin1_aae02_13 : decode cJ0_isLatin1_aae02 13 = .ok (.iconst 1, 1) := by decide +kernel
theorem dJ0_isLatin1_aae02_14 : decode cJ0_isLatin1_aae02 14 = .ok (.goto 4, 3) := by decide +kernel
theorem dJ0_isLatin1_aae02_17 : decode cJ0_isLatin1_aae02 17 = .ok (.iconst 0, 1) := by decide +kernel
theorem dJ0_isLatin1_aae02_18 : decode cJ0_isLatin1_aae02 18 = .ok (.ireturn, 1) := by decide +kernel
theorem dJ0_checkIndex_df160_0 : decode cJ0_checkIndex_df160 0 = .ok (.iload_n 0, 1) := by decide +kernel
theorem dJ0_checkIndex_df160_1 : decode cJ0_checkIndex_df160 1 = .ok (.iload_n 1, 1) := by decide +kernel
theorem dJ0_checkIndex_df160_2 : decode cJ0_checkIndex_df160 2 = .ok (.getstatic 1053, 3) := by decide +kernel
theorem dJ0_checkIndex_df160_5 : decode cJ0_checkIndex_df160 5 = .ok (.invokestatic 1059, 3) := by decide +kernel
theorem dJ0_checkIndex_df160_8 : decode cJ0_checkIndex_df160 8 = .ok (.pop, 1) := by decide +kernel
theorem dJ0_checkIndex_df160_9 : decode cJ0_checkIndex_df160 9 = .ok (.return_, 1) := by decide +kernel
theorem dJ1_charAt_3b067_0 : decode cJ1_charAt_3b067 0 = .ok (.iload_n 1, 1) := by decide +kernel
theorem dJ1_charAt_3b067_1 : decode cJ1_charAt_3b067 1 = .ok (.aload_n 0, 1) := by decide +kernel
theorem dJ1_charAt_3b067_2 : decode cJ1_charAt_3b067 2 = .ok (.arraylength, 1) := by decide +kernel
theorem dJ1_charAt_3b067_3 : decode cJ1_charAt_3b067 3 = .ok (.invokestatic 9, 3) := by decide +kernel
theorem dJ1_charAt_3b067_6 : decode cJ1_charAt_3b067 6 = .ok (.aload_n 0, 1) := by decide +kernel
theorem dJ1_charAt_3b067_7 : decode cJ1_charAt_3b067 7 = .ok (.iload_n 1, 1) := by decide +kernel
theorem dJ1_charAt_3b067_8 : decode cJ1_charAt_3b067 8 = .ok (.baload, 1) := by decide +kernel
theorem dJ1_charAt_3b067_9 : decode cJ1_charAt_3b067 9 = .ok (.sipush 255, 3) := by decide +kernel
theorem dJ1_charAt_3b067_12 : decode cJ1_charAt_3b067 12 = .ok (.iand, 1) := by decide +kernel
theorem dJ1_charAt_3b067_13 : decode cJ1_charAt_3b067 13 = .ok (.i2c, 1) := by decide +kernel
theorem dJ1_charAt_3b067_14 : decode cJ1_charAt_3b067 14 = .ok (.ireturn, 1) := by decide +kernel
theorem dJ7_fill_53178_0 : decode cJ7_fill_53178 0 = .ok (.iconst 0, 1) := by decide +kernel
theorem dJ7_fill_53178_1 : decode cJ7_fill_53178 1 = .ok (.istore_n 2, 1) := by decide +kernel
theorem dJ7_fill_53178_2 : decode cJ7_fill_53178 2 = .ok (.aload_n 0, 1) := by decide +kernel
theorem dJ7_fill_53178_3 : decode cJ7_fill_53178 3 = .ok (.arraylength, 1) := by decide +kernel
theorem dJ7_fill_53178_4 : decode cJ7_fill_53178 4 = .ok (.istore_n 3, 1) := by decide +kernel
theorem dJ7_fill_53178_5 : decode cJ7_fill_53178 5 = .ok (.iload_n 2, 1) := by decide +kernel
theorem dJ7_fill_53178_6 : decode cJ7_fill_53178 6 = .ok (.iload_n 3, 1) := by decide +kernel
theorem dJ7_fill_53178_7 : decode cJ7_fill_53178 7 = .ok (.if_icmp .ge 13, 3) := by decide +kernel
theorem dJ7_fill_53178_10 : decode cJ7_fill_53178 10 = .ok (.aload_n 0, 1) := by decide +kernel
theorem dJ7_fill_53178_11 : decode cJ7_fill_53178 11 = .ok (.iload_n 2, 1) := by decide +kernel
theorem dJ7_fill_53178_12 : decode cJ7_fill_53178 12 = .ok (.iload_n 1, 1) := by decide +kernel
theorem dJ7_fill_53178_13 : decode cJ7_fill_53178 13 = .ok (.iastore, 1) := by decide +kernel
theorem dJ7_fill_53178_14 : decode cJ7_fill_53178 14 = .ok (.iinc 2 1, 3) := by decide +kernel
theorem dJ7_fill_53178_17 : decode cJ7_fill_53178 17 = .ok (.goto (-12), 3) := by decide +kernel
theorem dJ7_fill_53178_20 : decode cJ7_fill_53178 20 = .ok (.return_, 1) := by decide +kernel
theorem dJ3_checkIndex_8e157_0 : decode cJ3_checkIndex_8e157 0 = .ok (.iload_n 0, 1) := by decide +kernel
theorem dJ3_checkIndex_8e157_1 : decode cJ3_checkIndex_8e157 1 = .ok (.ifCond .lt 8, 3) := by decide +kernel
theorem dJ3_checkIndex_8e157_4 : decode cJ3_checkIndex_8e157 4 = .ok (.iload_n 0, 1) := by decide +kernel
theorem dJ3_checkIndex_8e157_5 : decode cJ3_checkIndex_8e157 5 = .ok (.iload_n 1, 1) := by decide +kernel
theorem dJ3_checkIndex_8e157_6 : decode cJ3_checkIndex_8e157 6 = .ok (.if_icmp .lt 10, 3) := by decide +kernel
theorem dJ3_checkIndex_8e157_9 : decode cJ3_checkIndex_8e157 9 = .ok (.aload_n 2, 1) := by decide +kernel
theorem dJ3_checkIndex_8e157_10 : decode cJ3_checkIndex_8e157 10 = .ok (.iload_n 0, 1) := by decide +kernel
theorem dJ3_checkIndex_8e157_11 : decode cJ3_checkIndex_8e157 11 = .ok (.iload_n 1, 1) := by decide +kernel
theorem dJ3_checkIndex_8e157_12 : decode cJ3_checkIndex_8e157 12 = .ok (.invokestatic 95, 3) := by decide +kernel
theorem dJ3_checkIndex_8e157_15 : decode cJ3_checkIndex_8e157 15 = .ok (.athrow, 1) := by decide +kernel
theorem dJ3_checkIndex_8e157_16 : decode cJ3_checkIndex_8e157 16 = .ok (.iload_n 0, 1) := by decide +kernel
theorem dJ3_checkIndex_8e157_17 : decode cJ3_checkIndex_8e157 17 = .ok (.ireturn, 1) := by decide +kernel
