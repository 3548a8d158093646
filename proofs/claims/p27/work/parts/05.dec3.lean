theorem dL_cell_0 : decode cL_cell 0 = .ok (.iload_n 1, 1) := by decide +kernel
theorem dL_cell_1 : decode cL_cell 1 = .ok (.aload_n 0, 1) := by decide +kernel
theorem dL_cell_2 : decode cL_cell 2 = .ok (.arraylength, 1) := by decide +kernel
theorem dL_cell_3 : decode cL_cell 3 = .ok (.if_icmp .ge 9, 3) := by decide +kernel
theorem dL_cell_6 : decode cL_cell 6 = .ok (.aload_n 0, 1) := by decide +kernel
theorem dL_cell_7 : decode cL_cell 7 = .ok (.iload_n 1, 1) := by decide +kernel
theorem dL_cell_8 : decode cL_cell 8 = .ok (.iaload, 1) := by decide +kernel
theorem dL_cell_9 : decode cL_cell 9 = .ok (.goto 15, 3) := by decide +kernel
theorem dL_cell_12 : decode cL_cell 12 = .ok (.sipush 7919, 3) := by decide +kernel
theorem dL_cell_15 : decode cL_cell 15 = .ok (.iload_n 1, 1) := by decide +kernel
theorem dL_cell_16 : decode cL_cell 16 = .ok (.iconst 3, 1) := by decide +kernel
theorem dL_cell_17 : decode cL_cell 17 = .ok (.iadd, 1) := by decide +kernel
theorem dL_cell_18 : decode cL_cell 18 = .ok (.imul, 1) := by decide +kernel
theorem dL_cell_19 : decode cL_cell 19 = .ok (.iload_n 1, 1) := by decide +kernel
theorem dL_cell_20 : decode cL_cell 20 = .ok (.bipush 11, 2) := by decide +kernel
theorem dL_cell_22 : decode cL_cell 22 = .ok (.iadd, 1) := by decide +kernel
theorem dL_cell_23 : decode cL_cell 23 = .ok (.imul, 1) := by decide +kernel
theorem dL_cell_24 : decode cL_cell 24 = .ok (.ireturn, 1) := by decide +kernel
theorem dL_low_0 : decode cL_low 0 = .ok (.iload_n 0, 1) := by decide +kernel
theorem dL_low_1 : decode cL_low 1 = .ok (.ldc 7, 2) := by decide +kernel
theorem dL_low_3 : decode cL_low 3 = .ok (.iand, 1) := by decide +kernel
theorem dL_low_4 : decode cL_low 4 = .ok (.iload_n 1, 1) := by decide +kernel
theorem dL_low_5 : decode cL_low 5 = .ok (.irem, 1) := by decide +kernel
theorem dL_low_6 : decode cL_low 6 = .ok (.ireturn, 1) := by decide +kernel
theorem dL_writes_0 : decode cL_writes 0 = .ok (.aload_n 0, 1) := by decide +kernel
theorem dL_writes_1 : decode cL_writes 1 = .ok (.invokevirtual 8, 3) := by decide +kernel
theorem dL_writes_4 : decode cL_writes 4 = .ok (.pop, 1) := by decide +kernel
theorem dL_writes_5 : decode cL_writes 5 = .ok (.iload_n 1, 1) := by decide +kernel
theorem dL_writes_6 : decode cL_writes 6 = .ok (.iconst 5, 1) := by decide +kernel
theorem dL_writes_7 : decode cL_writes 7 = .ok (.invokestatic 14, 3) := by decide +kernel
theorem dL_writes_10 : decode cL_writes 10 = .ok (.istore_n 2, 1) := by decide +kernel
theorem dL_writes_11 : decode cL_writes 11 = .ok (.iconst 0, 1) := by decide +kernel
theorem dL_writes_12 : decode cL_writes 12 = .ok (.istore_n 3, 1) := by decide +kernel
theorem dL_writes_13 : decode cL_writes 13 = .ok (.iload_n 3, 1) := by decide +kernel
theorem dL_writes_14 : decode cL_writes 14 = .ok (.iload_n 2, 1) := by decide +kernel
theorem dL_writes_15 : decode cL_writes 15 = .ok (.if_icmp .ge 25, 3) := by decide +kernel
theorem dL_writes_18 : decode cL_writes 18 = .ok (.aload_n 0, 1) := by decide +kernel
theorem dL_writes_19 : decode cL_writes 19 = .ok (.iload_n 1, 1) := by decide +kernel
theorem dL_writes_20 : decode cL_writes 20 = .ok (.iconst 3, 1) := by decide +kernel
theorem dL_writes_21 : decode cL_writes 21 = .ok (.iconst 4, 1) := by decide +kernel
theorem dL_writes_22 : decode cL_writes 22 = .ok (.iload_n 3, 1) := by decide +kernel
theorem dL_writes_23 : decode cL_writes 23 = .ok (.imul, 1) := by decide +kernel
theorem dL_writes_24 : decode cL_writes 24 = .ok (.iadd, 1) := by decide +kernel
theorem dL_writes_25 : decode cL_writes 25 = .ok (.ishr, 1) := by decide +kernel
theorem dL_writes_26 : decode cL_writes 26 = .ok (.iconst 3, 1) := by decide +kernel
theorem dL_writes_27 : decode cL_writes 27 = .ok (.invokestatic 14, 3) := by decide +kernel
theorem dL_writes_30 : decode cL_writes 30 = .ok (.invokevirtual 20, 3) := by decide +kernel
theorem dL_writes_33 : decode cL_writes 33 = .ok (.pop, 1) := by decide +kernel
theorem dL_writes_34 : decode cL_writes 34 = .ok (.iinc 3 1, 3) := by decide +kernel
theorem dL_writes_37 : decode cL_writes 37 = .ok (.goto (-24), 3) := by decide +kernel
theorem dL_writes_40 : decode cL_writes 40 = .ok (.return_, 1) := by decide +kernel
theorem dL_order_0 : decode cL_order 0 = .ok (.iconst 0, 1) := by decide +kernel
theorem dL_order_1 : decode cL_order 1 = .ok (.istore_n 1, 1) := by decide +kernel
theorem dL_order_2 : decode cL_order 2 = .ok (.iconst 0, 1) := by decide +kernel
theorem dL_order_3 : decode cL_order 3 = .ok (.istore_n 2, 1) := by decide +kernel
theorem dL_order_4 : decode cL_order 4 = .ok (.iload_n 2, 1) := by decide +kernel
theorem dL_order_5 : decode cL_order 5 = .ok (.iconst 4, 1) := by decide +kernel
theorem dL_order_6 : decode cL_order 6 = .ok (.if_icmp .ge 22, 3) := by decide +kernel
theorem dL_order_9 : decode cL_order 9 = .ok (.bipush 11, 2) := by decide +kernel
theorem dL_order_11 : decode cL_order 11 = .ok (.iload_n 1, 1) := by decide +kernel
theorem dL_order_12 : decode cL_order 12 = .ok (.imul, 1) := by decide +kernel
theorem dL_order_13 : decode cL_order 13 = .ok (.aload_n 0, 1) := by decide +kernel
theorem dL_order_14 : decode cL_order 14 = .ok (.iload_n 2, 1) := by decide +kernel
theorem dL_order_15 : decode cL_order 15 = .ok (.invokevirtual 24, 3) := by decide +kernel
theorem dL_order_18 : decode cL_order 18 = .ok (.iadd, 1) := by decide +kernel
theorem dL_order_19 : decode cL_order 19 = .ok (.iconst 1, 1) := by decide +kernel
theorem dL_order_20 : decode cL_order 20 = .ok (.iadd, 1) := by decide +kernel
theorem dL_order_21 : decode cL_order 21 = .ok (.istore_n 1, 1) := by decide +kernel
theorem dL_order_22 : decode cL_order 22 = .ok (.iinc 2 1, 3) := by decide +kernel
theorem dL_order_25 : decode cL_order 25 = .ok (.goto (-21), 3) := by decide +kernel
theorem dL_order_28 : decode cL_order 28 = .ok (.iload_n 1, 1) := by decide +kernel
theorem dL_order_29 : decode cL_order 29 = .ok (.ireturn, 1) := by decide +kernel
theorem dL_isWalk_0 : decode cL_isWalk 0 = .ok (.aload_n 0, 1) := by decide +kernel
theorem dL_isWalk_1 : decode cL_isWalk 1 = .ok (.iload_n 1, 1) := by decide +kernel
theorem dL_isWalk_2 : decode cL_isWalk 2 = .ok (.invokevirtual 27, 3) := by decide +kernel
theorem dL_isWalk_5 : decode cL_isWalk 5 = .ok (.istore_n 2, 1) := by decide +kernel
theorem dL_isWalk_6 : decode cL_isWalk 6 = .ok (.iconst 0, 1) := by decide +kernel
theorem dL_isWalk_7 : decode cL_isWalk 7 = .ok (.istore_n 3, 1) := by decide +kernel
theorem dL_isWalk_8 : decode cL_isWalk 8 = .ok (.iconst 1, 1) := by decide +kernel
theorem dL_isWalk_9 : decode cL_isWalk 9 = .ok (.istore 4, 2) := by decide +kernel
theorem dL_isWalk_11 : decode cL_isWalk 11 = .ok (.aload_n 0, 1) := by decide +kernel
theorem dL_isWalk_12 : decode cL_isWalk 12 = .ok (.invokevirtual 8, 3) := by decide +kernel
theorem dL_isWalk_15 : decode cL_isWalk 15 = .ok (.pop, 1) := by decide +kernel
theorem dL_isWalk_16 : decode cL_isWalk 16 = .ok (.iconst 0, 1) := by decide +kernel
theorem dL_isWalk_17 : decode cL_isWalk 17 = .ok (.istore 5, 2) := by decide +kernel
theorem dL_isWalk_19 : decode cL_isWalk 19 = .ok (.iload 5, 2) := by decide +kernel
theorem dL_isWalk_21 : decode cL_isWalk 21 = .ok (.iload_n 2, 1) := by decide +kernel
theorem dL_isWalk_22 : decode cL_isWalk 22 = .ok (.if_icmp .ge 72, 3) := by decide +kernel
theorem dL_isWalk_25 : decode cL_isWalk 25 = .ok (.iload 4, 2) := by decide +kernel
theorem dL_isWalk_27 : decode cL_isWalk 27 = .ok (.ifCond .eq 67, 3) := by decide +kernel
theorem dL_isWalk_30 : decode cL_isWalk 30 = .ok (.aload_n 0, 1) := by decide +kernel
theorem dL_isWalk_31 : decode cL_isWalk 31 = .ok (.iload_n 1, 1) := by decide +kernel
theorem dL_isWalk_32 : decode cL_isWalk 32 = .ok (.invokevirtual 30, 3) := by decide +kernel
theorem dL_isWalk_35 : decode cL_isWalk 35 = .ok (.istore 6, 2) := by decide +kernel
theorem dL_isWalk_37 : decode cL_isWalk 37 = .ok (.aload_n 0, 1) := by decide +kernel
theorem dL_isWalk_38 : decode cL_isWalk 38 = .ok (.iload_n 1, 1) := by decide +kernel
theorem dL_isWalk_39 : decode cL_isWalk 39 = .ok (.invokevirtual 33, 3) := by decide +kernel
theorem dL_isWalk_42 : decode cL_isWalk 42 = .ok (.istore 7, 2) := by decide +kernel
theorem dL_isWalk_44 : decode cL_isWalk 44 = .ok (.aload_n 0, 1) := by decide +kernel
theorem dL_isWalk_45 : decode cL_isWalk 45 = .ok (.invokestatic 36, 3) := by decide +kernel
theorem dL_isWalk_48 : decode cL_isWalk 48 = .ok (.istore 8, 2) := by decide +kernel
theorem dL_isWalk_50 : decode cL_isWalk 50 = .ok (.iload 7, 2) := by decide +kernel
theorem dL_isWalk_52 : decode cL_isWalk 52 = .ok (.ifCond .lt 30, 3) := by decide +kernel
theorem dL_isWalk_55 : decode cL_isWalk 55 = .ok (.iload 7, 2) := by decide +kernel
theorem dL_isWalk_57 : decode cL_isWalk 57 = .ok (.iload 6, 2) := by decide +kernel
theorem dL_isWalk_59 : decode cL_isWalk 59 = .ok (.if_icmp .ne 23, 3) := by decide +kernel
theorem dL_isWalk_62 : decode cL_isWalk 62 = .ok (.aload_n 0, 1) := by decide +kernel
theorem dL_isWalk_63 : decode cL_isWalk 63 = .ok (.iload_n 1, 1) := by decide +kernel
theorem dL_isWalk_64 : decode cL_isWalk 64 = .ok (.invokevirtual 40, 3) := by decide +kernel
theorem dL_isWalk_67 : decode cL_isWalk 67 = .ok (.iload 7, 2) := by decide +kernel
theorem dL_isWalk_69 : decode cL_isWalk 69 = .ok (.if_icmp .ne 13, 3) := by decide +kernel
theorem dL_isWalk_72 : decode cL_isWalk 72 = .ok (.iload 8, 2) := by decide +kernel
theorem dL_isWalk_74 : decode cL_isWalk 74 = .ok (.iload_n 3, 1) := by decide +kernel
theorem dL_isWalk_75 : decode cL_isWalk 75 = .ok (.if_icmp .le 7, 3) := by decide +kernel
theorem dL_isWalk_78 : decode cL_isWalk 78 = .ok (.iconst 1, 1) := by decide +kernel
theorem dL_isWalk_79 : decode cL_isWalk 79 = .ok (.goto 4, 3) := by decide +kernel
theorem dL_isWalk_82 : decode cL_isWalk 82 = .ok (.iconst 0, 1) := by decide +kernel
theorem dL_isWalk_83 : decode cL_isWalk 83 = .ok (.istore 4, 2) := by decide +kernel
theorem dL_isWalk_85 : decode cL_isWalk 85 = .ok (.iload 8, 2) := by decide +kernel
theorem dL_isWalk_87 : decode cL_isWalk 87 = .ok (.istore_n 3, 1) := by decide +kernel
theorem dL_isWalk_88 : decode cL_isWalk 88 = .ok (.iinc 5 1, 3) := by decide +kernel
theorem dL_isWalk_91 : decode cL_isWalk 91 = .ok (.goto (-72), 3) := by decide +kernel
theorem dL_isWalk_94 : decode cL_isWalk 94 = .ok (.iload 4, 2) := by decide +kernel
theorem dL_isWalk_96 : decode cL_isWalk 96 = .ok (.ifCond .eq 33, 3) := by decide +kernel
theorem dL_isWalk_99 : decode cL_isWalk 99 = .ok (.aload_n 0, 1) := by decide +kernel
theorem dL_isWalk_100 : decode cL_isWalk 100 = .ok (.iload_n 1, 1) := by decide +kernel
theorem dL_isWalk_101 : decode cL_isWalk 101 = .ok (.invokevirtual 30, 3) := by decide +kernel
theorem dL_isWalk_104 : decode cL_isWalk 104 = .ok (.iconst (-1), 1) := by decide +kernel
theorem dL_isWalk_105 : decode cL_isWalk 105 = .ok (.if_icmp .ne 24, 3) := by decide +kernel
theorem dL_isWalk_108 : decode cL_isWalk 108 = .ok (.aload_n 0, 1) := by decide +kernel
theorem dL_isWalk_109 : decode cL_isWalk 109 = .ok (.iload_n 1, 1) := by decide +kernel
theorem dL_isWalk_110 : decode cL_isWalk 110 = .ok (.invokevirtual 33, 3) := by decide +kernel
theorem dL_isWalk_113 : decode cL_isWalk 113 = .ok (.iconst (-1), 1) := by decide +kernel
theorem dL_isWalk_114 : decode cL_isWalk 114 = .ok (.if_icmp .ne 15, 3) := by decide +kernel
theorem dL_isWalk_117 : decode cL_isWalk 117 = .ok (.aload_n 0, 1) := by decide +kernel
theorem dL_isWalk_118 : decode cL_isWalk 118 = .ok (.invokestatic 36, 3) := by decide +kernel
theorem dL_isWalk_121 : decode cL_isWalk 121 = .ok (.iload_n 3, 1) := by decide +kernel
theorem dL_isWalk_122 : decode cL_isWalk 122 = .ok (.if_icmp .ne 7, 3) := by decide +kernel
theorem dL_isWalk_125 : decode cL_isWalk 125 = .ok (.iconst 1, 1) := by decide +kernel
theorem dL_isWalk_126 : decode cL_isWalk 126 = .ok (.goto 4, 3) := by decide +kernel
theorem dL_isWalk_129 : decode cL_isWalk 129 = .ok (.iconst 0, 1) := by decide +kernel
theorem dL_isWalk_130 : decode cL_isWalk 130 = .ok (.istore 4, 2) := by decide +kernel
theorem dL_isWalk_132 : decode cL_isWalk 132 = .ok (.aload_n 0, 1) := by decide +kernel
theorem dL_isWalk_133 : decode cL_isWalk 133 = .ok (.invokevirtual 8, 3) := by decide +kernel
theorem dL_isWalk_136 : decode cL_isWalk 136 = .ok (.pop, 1) := by decide +kernel
theorem dL_isWalk_137 : decode cL_isWalk 137 = .ok (.iload 4, 2) := by decide +kernel
theorem dL_isWalk_139 : decode cL_isWalk 139 = .ok (.ifCond .eq 26, 3) := by decide +kernel
theorem dL_isWalk_142 : decode cL_isWalk 142 = .ok (.aload_n 0, 1) := by decide +kernel
theorem dL_isWalk_143 : decode cL_isWalk 143 = .ok (.iload_n 1, 1) := by decide +kernel
theorem dL_isWalk_144 : decode cL_isWalk 144 = .ok (.bipush 30, 2) := by decide +kernel
theorem dL_isWalk_146 : decode cL_isWalk 146 = .ok (.invokevirtual 43, 3) := by decide +kernel
theorem dL_isWalk_149 : decode cL_isWalk 149 = .ok (.iload_n 2, 1) := by decide +kernel
theorem dL_isWalk_150 : decode cL_isWalk 150 = .ok (.if_icmp .ne 15, 3) := by decide +kernel
theorem dL_isWalk_153 : decode cL_isWalk 153 = .ok (.aload_n 0, 1) := by decide +kernel
theorem dL_isWalk_154 : decode cL_isWalk 154 = .ok (.invokestatic 36, 3) := by decide +kernel
theorem dL_isWalk_157 : decode cL_isWalk 157 = .ok (.iload_n 3, 1) := by decide +kernel
theorem dL_isWalk_158 : decode cL_isWalk 158 = .ok (.if_icmp .ne 7, 3) := by decide +kernel
theorem dL_isWalk_161 : decode cL_isWalk 161 = .ok (.iconst 1, 1) := by decide +kernel
theorem dL_isWalk_162 : decode cL_isWalk 162 = .ok (.goto 4, 3) := by decide +kernel
theorem dL_isWalk_165 : decode cL_isWalk 165 = .ok (.iconst 0, 1) := by decide +kernel
theorem dL_isWalk_166 : decode cL_isWalk 166 = .ok (.ireturn, 1) := by decide +kernel
theorem dL_areLinks_0 : decode cL_areLinks 0 = .ok (.aload_n 0, 1) := by decide +kernel
theorem dL_areLinks_1 : decode cL_areLinks 1 = .ok (.invokevirtual 46, 3) := by decide +kernel
theorem dL_areLinks_4 : decode cL_areLinks 4 = .ok (.ifCond .lt 16, 3) := by decide +kernel
theorem dL_areLinks_7 : decode cL_areLinks 7 = .ok (.aload_n 0, 1) := by decide +kernel
theorem dL_areLinks_8 : decode cL_areLinks 8 = .ok (.invokevirtual 46, 3) := by decide +kernel
theorem dL_areLinks_11 : decode cL_areLinks 11 = .ok (.bipush 6, 2) := by decide +kernel
theorem dL_areLinks_13 : decode cL_areLinks 13 = .ok (.if_icmp .gt 7, 3) := by decide +kernel
theorem dL_areLinks_16 : decode cL_areLinks 16 = .ok (.iconst 1, 1) := by decide +kernel
theorem dL_areLinks_17 : decode cL_areLinks 17 = .ok (.goto 4, 3) := by decide +kernel
theorem dL_areLinks_20 : decode cL_areLinks 20 = .ok (.iconst 0, 1) := by decide +kernel
theorem dL_areLinks_21 : decode cL_areLinks 21 = .ok (.istore_n 1, 1) := by decide +kernel
theorem dL_areLinks_22 : decode cL_areLinks 22 = .ok (.iconst 0, 1) := by decide +kernel
theorem dL_areLinks_23 : decode cL_areLinks 23 = .ok (.istore_n 2, 1) := by decide +kernel
theorem dL_areLinks_24 : decode cL_areLinks 24 = .ok (.iload_n 2, 1) := by decide +kernel
theorem dL_areLinks_25 : decode cL_areLinks 25 = .ok (.iconst 4, 1) := by decide +kernel
theorem dL_areLinks_26 : decode cL_areLinks 26 = .ok (.if_icmp .ge 78, 3) := by decide +kernel
theorem dL_areLinks_29 : decode cL_areLinks 29 = .ok (.iload_n 1, 1) := by decide +kernel
theorem dL_areLinks_30 : decode cL_areLinks 30 = .ok (.ifCond .eq 74, 3) := by decide +kernel
theorem dL_areLinks_33 : decode cL_areLinks 33 = .ok (.aload_n 0, 1) := by decide +kernel
theorem dL_areLinks_34 : decode cL_areLinks 34 = .ok (.iload_n 2, 1) := by decide +kernel
theorem dL_areLinks_35 : decode cL_areLinks 35 = .ok (.invokevirtual 49, 3) := by decide +kernel
theorem dL_areLinks_38 : decode cL_areLinks 38 = .ok (.istore_n 3, 1) := by decide +kernel
theorem dL_areLinks_39 : decode cL_areLinks 39 = .ok (.iload_n 3, 1) := by decide +kernel
theorem dL_areLinks_40 : decode cL_areLinks 40 = .ok (.iload_n 2, 1) := by decide +kernel
theorem dL_areLinks_41 : decode cL_areLinks 41 = .ok (.ishr, 1) := by decide +kernel
theorem dL_areLinks_42 : decode cL_areLinks 42 = .ok (.iconst 1, 1) := by decide +kernel
theorem dL_areLinks_43 : decode cL_areLinks 43 = .ok (.iand, 1) := by decide +kernel
theorem dL_areLinks_44 : decode cL_areLinks 44 = .ok (.iconst 1, 1) := by decide +kernel
theorem dL_areLinks_45 : decode cL_areLinks 45 = .ok (.if_icmp .ne 7, 3) := by decide +kernel
theorem dL_areLinks_48 : decode cL_areLinks 48 = .ok (.iconst 1, 1) := by decide +kernel
theorem dL_areLinks_49 : decode cL_areLinks 49 = .ok (.goto 4, 3) := by decide +kernel
theorem dL_areLinks_52 : decode cL_areLinks 52 = .ok (.iconst 0, 1) := by decide +kernel
theorem dL_areLinks_53 : decode cL_areLinks 53 = .ok (.istore_n 1, 1) := by decide +kernel
theorem dL_areLinks_54 : decode cL_areLinks 54 = .ok (.iconst 0, 1) := by decide +kernel
theorem dL_areLinks_55 : decode cL_areLinks 55 = .ok (.istore 4, 2) := by decide +kernel
theorem dL_areLinks_57 : decode cL_areLinks 57 = .ok (.iload 4, 2) := by decide +kernel
theorem dL_areLinks_59 : decode cL_areLinks 59 = .ok (.iconst 4, 1) := by decide +kernel
theorem dL_areLinks_60 : decode cL_areLinks 60 = .ok (.if_icmp .ge 38, 3) := by decide +kernel
theorem dL_areLinks_63 : decode cL_areLinks 63 = .ok (.iload_n 1, 1) := by decide +kernel
theorem dL_areLinks_64 : decode cL_areLinks 64 = .ok (.ifCond .eq 34, 3) := by decide +kernel
theorem dL_areLinks_67 : decode cL_areLinks 67 = .ok (.iload_n 3, 1) := by decide +kernel
theorem dL_areLinks_68 : decode cL_areLinks 68 = .ok (.iload 4, 2) := by decide +kernel
theorem dL_areLinks_70 : decode cL_areLinks 70 = .ok (.ishr, 1) := by decide +kernel
theorem dL_areLinks_71 : decode cL_areLinks 71 = .ok (.iconst 1, 1) := by decide +kernel
theorem dL_areLinks_72 : decode cL_areLinks 72 = .ok (.iand, 1) := by decide +kernel
theorem dL_areLinks_73 : decode cL_areLinks 73 = .ok (.ifCond .eq 13, 3) := by decide +kernel
theorem dL_areLinks_76 : decode cL_areLinks 76 = .ok (.aload_n 0, 1) := by decide +kernel
theorem dL_areLinks_77 : decode cL_areLinks 77 = .ok (.iload 4, 2) := by decide +kernel
theorem dL_areLinks_79 : decode cL_areLinks 79 = .ok (.invokevirtual 49, 3) := by decide +kernel
theorem dL_areLinks_82 : decode cL_areLinks 82 = .ok (.iload_n 3, 1) := by decide +kernel
theorem dL_areLinks_83 : decode cL_areLinks 83 = .ok (.if_icmp .ne 7, 3) := by decide +kernel
theorem dL_areLinks_86 : decode cL_areLinks 86 = .ok (.iconst 1, 1) := by decide +kernel
theorem dL_areLinks_87 : decode cL_areLinks 87 = .ok (.goto 4, 3) := by decide +kernel
theorem dL_areLinks_90 : decode cL_areLinks 90 = .ok (.iconst 0, 1) := by decide +kernel
theorem dL_areLinks_91 : decode cL_areLinks 91 = .ok (.istore_n 1, 1) := by decide +kernel
theorem dL_areLinks_92 : decode cL_areLinks 92 = .ok (.iinc 4 1, 3) := by decide +kernel
theorem dL_areLinks_95 : decode cL_areLinks 95 = .ok (.goto (-38), 3) := by decide +kernel
theorem dL_areLinks_98 : decode cL_areLinks 98 = .ok (.iinc 2 1, 3) := by decide +kernel
theorem dL_areLinks_101 : decode cL_areLinks 101 = .ok (.goto (-77), 3) := by decide +kernel
theorem dL_areLinks_104 : decode cL_areLinks 104 = .ok (.iload_n 1, 1) := by decide +kernel
theorem dL_areLinks_105 : decode cL_areLinks 105 = .ok (.ireturn, 1) := by decide +kernel
theorem dL_law_0 : decode cL_law 0 = .ok (.new 9, 3) := by decide +kernel
theorem dL_law_3 : decode cL_law 3 = .ok (.dup, 1) := by decide +kernel
theorem dL_law_4 : decode cL_law 4 = .ok (.invokespecial 52, 3) := by decide +kernel
theorem dL_law_7 : decode cL_law 7 = .ok (.astore_n 1, 1) := by decide +kernel
theorem dL_law_8 : decode cL_law 8 = .ok (.iconst 2, 1) := by decide +kernel
theorem dL_law_9 : decode cL_law 9 = .ok (.newarray .int, 2) := by decide +kernel
theorem dL_law_11 : decode cL_law 11 = .ok (.astore_n 2, 1) := by decide +kernel
theorem dL_law_12 : decode cL_law 12 = .ok (.iconst 2, 1) := by decide +kernel
theorem dL_law_13 : decode cL_law 13 = .ok (.newarray .int, 2) := by decide +kernel
theorem dL_law_15 : decode cL_law 15 = .ok (.astore_n 3, 1) := by decide +kernel
theorem dL_law_16 : decode cL_law 16 = .ok (.iconst 0, 1) := by decide +kernel
theorem dL_law_17 : decode cL_law 17 = .ok (.istore 4, 2) := by decide +kernel
theorem dL_law_19 : decode cL_law 19 = .ok (.iconst 0, 1) := by decide +kernel
theorem dL_law_20 : decode cL_law 20 = .ok (.istore 5, 2) := by decide +kernel
theorem dL_law_22 : decode cL_law 22 = .ok (.iload 5, 2) := by decide +kernel
theorem dL_law_24 : decode cL_law 24 = .ok (.bipush 70, 2) := by decide +kernel
theorem dL_law_26 : decode cL_law 26 = .ok (.if_icmp .ge 643, 3) := by decide +kernel
theorem dL_law_29 : decode cL_law 29 = .ok (.aload_n 0, 1) := by decide +kernel
theorem dL_law_30 : decode cL_law 30 = .ok (.iconst 2, 1) := by decide +kernel
theorem dL_law_31 : decode cL_law 31 = .ok (.iload 5, 2) := by decide +kernel
theorem dL_law_33 : decode cL_law 33 = .ok (.imul, 1) := by decide +kernel
theorem dL_law_34 : decode cL_law 34 = .ok (.invokestatic 53, 3) := by decide +kernel
theorem dL_law_37 : decode cL_law 37 = .ok (.istore 6, 2) := by decide +kernel
theorem dL_law_39 : decode cL_law 39 = .ok (.aload_n 0, 1) := by decide +kernel
theorem dL_law_40 : decode cL_law 40 = .ok (.iconst 2, 1) := by decide +kernel
theorem dL_law_41 : decode cL_law 41 = .ok (.iload 5, 2) := by decide +kernel
theorem dL_law_43 : decode cL_law 43 = .ok (.imul, 1) := by decide +kernel
theorem dL_law_44 : decode cL_law 44 = .ok (.iconst 1, 1) := by decide +kernel
theorem dL_law_45 : decode cL_law 45 = .ok (.iadd, 1) := by decide +kernel
theorem dL_law_46 : decode cL_law 46 = .ok (.invokestatic 53, 3) := by decide +kernel
theorem dL_law_49 : decode cL_law 49 = .ok (.istore 7, 2) := by decide +kernel
theorem dL_law_51 : decode cL_law 51 = .ok (.iload 6, 2) := by decide +kernel
theorem dL_law_53 : decode cL_law 53 = .ok (.bipush 13, 2) := by decide +kernel
theorem dL_law_55 : decode cL_law 55 = .ok (.invokestatic 14, 3) := by decide +kernel
theorem dL_law_58 : decode cL_law 58 = .ok (.istore 8, 2) := by decide +kernel
theorem dL_law_60 : decode cL_law 60 = .ok (.iload 6, 2) := by decide +kernel
theorem dL_law_62 : decode cL_law 62 = .ok (.iconst 4, 1) := by decide +kernel
theorem dL_law_63 : decode cL_law 63 = .ok (.ishr, 1) := by decide +kernel
theorem dL_law_64 : decode cL_law 64 = .ok (.iconst 2, 1) := by decide +kernel
theorem dL_law_65 : decode cL_law 65 = .ok (.invokestatic 14, 3) := by decide +kernel
theorem dL_law_68 : decode cL_law 68 = .ok (.istore 9, 2) := by decide +kernel
theorem dL_law_70 : decode cL_law 70 = .ok (.iconst 1, 1) := by decide +kernel
theorem dL_law_71 : decode cL_law 71 = .ok (.istore 10, 2) := by decide +kernel
theorem dL_law_73 : decode cL_law 73 = .ok (.aload_n 1, 1) := by decide +kernel
theorem dL_law_74 : decode cL_law 74 = .ok (.invokevirtual 57, 3) := by decide +kernel
theorem dL_law_77 : decode cL_law 77 = .ok (.istore 11, 2) := by decide +kernel
theorem dL_law_79 : decode cL_law 79 = .ok (.aload_n 1, 1) := by decide +kernel
theorem dL_law_80 : decode cL_law 80 = .ok (.iload 7, 2) := by decide +kernel
theorem dL_law_82 : decode cL_law 82 = .ok (.invokestatic 60, 3) := by decide +kernel
theorem dL_law_85 : decode cL_law 85 = .ok (.aload_n 1, 1) := by decide +kernel
theorem dL_law_86 : decode cL_law 86 = .ok (.iconst 0, 1) := by decide +kernel
theorem dL_law_87 : decode cL_law 87 = .ok (.invokevirtual 24, 3) := by decide +kernel
theorem dL_law_90 : decode cL_law 90 = .ok (.iconst (-1), 1) := by decide +kernel
theorem dL_law_91 : decode cL_law 91 = .ok (.if_icmp .ne 7, 3) := by decide +kernel
theorem dL_law_94 : decode cL_law 94 = .ok (.iconst 1, 1) := by decide +kernel
theorem dL_law_95 : decode cL_law 95 = .ok (.goto 4, 3) := by decide +kernel
theorem dL_law_98 : decode cL_law 98 = .ok (.iconst 0, 1) := by decide +kernel
theorem dL_law_99 : decode cL_law 99 = .ok (.istore 12, 2) := by decide +kernel
theorem dL_law_101 : decode cL_law 101 = .ok (.iload 8, 2) := by decide +kernel
theorem dL_law_103 : decode cL_law 103 = .ok (.iconst 5, 1) := by decide +kernel
theorem dL_law_104 : decode cL_law 104 = .ok (.if_icmp .ge 75, 3) := by decide +kernel
theorem dL_law_107 : decode cL_law 107 = .ok (.iload 12, 2) := by decide +kernel
theorem dL_law_109 : decode cL_law 109 = .ok (.ifCond .ne 474, 3) := by decide +kernel
theorem dL_law_112 : decode cL_law 112 = .ok (.aload_n 2, 1) := by decide +kernel
theorem dL_law_113 : decode cL_law 113 = .ok (.iload 9, 2) := by decide +kernel
theorem dL_law_115 : decode cL_law 115 = .ok (.iaload, 1) := by decide +kernel
theorem dL_law_116 : decode cL_law 116 = .ok (.bipush 20, 2) := by decide +kernel
theorem dL_law_118 : decode cL_law 118 = .ok (.if_icmp .ge 465, 3) := by decide +kernel
theorem dL_law_121 : decode cL_law 121 = .ok (.aload_n 2, 1) := by decide +kernel
theorem dL_law_122 : decode cL_law 122 = .ok (.iload 9, 2) := by decide +kernel
theorem dL_law_124 : decode cL_law 124 = .ok (.dup2, 1) := by decide +kernel
theorem dL_law_125 : decode cL_law 125 = .ok (.iaload, 1) := by decide +kernel
theorem dL_law_126 : decode cL_law 126 = .ok (.iconst 1, 1) := by decide +kernel
theorem dL_law_127 : decode cL_law 127 = .ok (.iadd, 1) := by decide +kernel
theorem dL_law_128 : decode cL_law 128 = .ok (.iastore, 1) := by decide +kernel
theorem dL_law_129 : decode cL_law 129 = .ok (.aload_n 1, 1) := by decide +kernel
theorem dL_law_130 : decode cL_law 130 = .ok (.iload 9, 2) := by decide +kernel
theorem dL_law_132 : decode cL_law 132 = .ok (.invokevirtual 64, 3) := by decide +kernel
theorem dL_law_135 : decode cL_law 135 = .ok (.iconst (-1), 1) := by decide +kernel
theorem dL_law_136 : decode cL_law 136 = .ok (.if_icmp .lt 37, 3) := by decide +kernel
theorem dL_law_139 : decode cL_law 139 = .ok (.aload_n 1, 1) := by decide +kernel
theorem dL_law_140 : decode cL_law 140 = .ok (.iload 9, 2) := by decide +kernel
theorem dL_law_142 : decode cL_law 142 = .ok (.iload 6, 2) := by decide +kernel
theorem dL_law_144 : decode cL_law 144 = .ok (.bipush 16, 2) := by decide +kernel
theorem dL_law_146 : decode cL_law 146 = .ok (.ishr, 1) := by decide +kernel
theorem dL_law_147 : decode cL_law 147 = .ok (.iconst 2, 1) := by decide +kernel
theorem dL_law_148 : decode cL_law 148 = .ok (.invokestatic 14, 3) := by decide +kernel
theorem dL_law_151 : decode cL_law 151 = .ok (.iload 6, 2) := by decide +kernel
theorem dL_law_153 : decode cL_law 153 = .ok (.bipush 6, 2) := by decide +kernel
theorem dL_law_155 : decode cL_law 155 = .ok (.ishr, 1) := by decide +kernel
theorem dL_law_156 : decode cL_law 156 = .ok (.sipush 1000, 3) := by decide +kernel
theorem dL_law_159 : decode cL_law 159 = .ok (.invokestatic 14, 3) := by decide +kernel
theorem dL_law_162 : decode cL_law 162 = .ok (.invokevirtual 67, 3) := by decide +kernel
theorem dL_law_165 : decode cL_law 165 = .ok (.iconst (-1), 1) := by decide +kernel
theorem dL_law_166 : decode cL_law 166 = .ok (.if_icmp .ne 7, 3) := by decide +kernel
theorem dL_law_169 : decode cL_law 169 = .ok (.iconst 1, 1) := by decide +kernel
theorem dL_law_170 : decode cL_law 170 = .ok (.goto 4, 3) := by decide +kernel
theorem dL_law_173 : decode cL_law 173 = .ok (.iconst 0, 1) := by decide +kernel
theorem dL_law_174 : decode cL_law 174 = .ok (.istore 10, 2) := by decide +kernel
theorem dL_law_176 : decode cL_law 176 = .ok (.goto 407, 3) := by decide +kernel
theorem dL_law_179 : decode cL_law 179 = .ok (.iload 8, 2) := by decide +kernel
theorem dL_law_181 : decode cL_law 181 = .ok (.iconst 5, 1) := by decide +kernel
theorem dL_law_182 : decode cL_law 182 = .ok (.if_icmp .ne 30, 3) := by decide +kernel
theorem dL_law_185 : decode cL_law 185 = .ok (.aload_n 1, 1) := by decide +kernel
theorem dL_law_186 : decode cL_law 186 = .ok (.iload 9, 2) := by decide +kernel
theorem dL_law_188 : decode cL_law 188 = .ok (.invokevirtual 64, 3) := by decide +kernel
theorem dL_law_191 : decode cL_law 191 = .ok (.pop, 1) := by decide +kernel
theorem dL_law_192 : decode cL_law 192 = .ok (.aload_n 1, 1) := by decide +kernel
theorem dL_law_193 : decode cL_law 193 = .ok (.iload 9, 2) := by decide +kernel
theorem dL_law_195 : decode cL_law 195 = .ok (.invokevirtual 40, 3) := by decide +kernel
theorem dL_law_198 : decode cL_law 198 = .ok (.iconst (-1), 1) := by decide +kernel
theorem dL_law_199 : decode cL_law 199 = .ok (.if_icmp .ne 7, 3) := by decide +kernel
theorem dL_law_202 : decode cL_law 202 = .ok (.iconst 1, 1) := by decide +kernel
theorem dL_law_203 : decode cL_law 203 = .ok (.goto 4, 3) := by decide +kernel
theorem dL_law_206 : decode cL_law 206 = .ok (.iconst 0, 1) := by decide +kernel
theorem dL_law_207 : decode cL_law 207 = .ok (.istore 10, 2) := by decide +kernel
theorem dL_law_209 : decode cL_law 209 = .ok (.goto 374, 3) := by decide +kernel
theorem dL_law_212 : decode cL_law 212 = .ok (.iload 8, 2) := by decide +kernel
theorem dL_law_214 : decode cL_law 214 = .ok (.bipush 6, 2) := by decide +kernel
theorem dL_law_216 : decode cL_law 216 = .ok (.if_icmp .ne 78, 3) := by decide +kernel
theorem dL_law_219 : decode cL_law 219 = .ok (.aload_n 3, 1) := by decide +kernel
theorem dL_law_220 : decode cL_law 220 = .ok (.iload 9, 2) := by decide +kernel
theorem dL_law_222 : decode cL_law 222 = .ok (.iaload, 1) := by decide +kernel
theorem dL_law_223 : decode cL_law 223 = .ok (.bipush 10, 2) := by decide +kernel
theorem dL_law_225 : decode cL_law 225 = .ok (.if_icmp .ge 15, 3) := by decide +kernel
theorem dL_law_228 : decode cL_law 228 = .ok (.iload 6, 2) := by decide +kernel
theorem dL_law_230 : decode cL_law 230 = .ok (.bipush 6, 2) := by decide +kernel
theorem dL_law_232 : decode cL_law 232 = .ok (.ishr, 1) := by decide +kernel
theorem dL_law_233 : decode cL_law 233 = .ok (.iconst 3, 1) := by decide +kernel
theorem dL_law_234 : decode cL_law 234 = .ok (.invokestatic 14, 3) := by decide +kernel
theorem dL_law_237 : decode cL_law 237 = .ok (.goto 4, 3) := by decide +kernel
theorem dL_law_240 : decode cL_law 240 = .ok (.iconst 0, 1) := by decide +kernel
theorem dL_law_241 : decode cL_law 241 = .ok (.istore 13, 2) := by decide +kernel
theorem dL_law_243 : decode cL_law 243 = .ok (.aload_n 3, 1) := by decide +kernel
theorem dL_law_244 : decode cL_law 244 = .ok (.iload 9, 2) := by decide +kernel
theorem dL_law_246 : decode cL_law 246 = .ok (.dup2, 1) := by decide +kernel
theorem dL_law_247 : decode cL_law 247 = .ok (.iaload, 1) := by decide +kernel
theorem dL_law_248 : decode cL_law 248 = .ok (.iload 13, 2) := by decide +kernel
theorem dL_law_250 : decode cL_law 250 = .ok (.ifCond .le 7, 3) := by decide +kernel
theorem dL_law_253 : decode cL_law 253 = .ok (.iconst 1, 1) := by decide +kernel
theorem dL_law_254 : decode cL_law 254 = .ok (.goto 4, 3) := by decide +kernel
theorem dL_law_257 : decode cL_law 257 = .ok (.iconst 0, 1) := by decide +kernel
theorem dL_law_258 : decode cL_law 258 = .ok (.iadd, 1) := by decide +kernel
theorem dL_law_259 : decode cL_law 259 = .ok (.iastore, 1) := by decide +kernel
theorem dL_law_260 : decode cL_law 260 = .ok (.aload_n 1, 1) := by decide +kernel
theorem dL_law_261 : decode cL_law 261 = .ok (.iload 9, 2) := by decide +kernel
theorem dL_law_263 : decode cL_law 263 = .ok (.iload 13, 2) := by decide +kernel
theorem dL_law_265 : decode cL_law 265 = .ok (.invokevirtual 71, 3) := by decide +kernel
theorem dL_law_268 : decode cL_law 268 = .ok (.ifCond .lt 20, 3) := by decide +kernel
theorem dL_law_271 : decode cL_law 271 = .ok (.aload_n 1, 1) := by decide +kernel
theorem dL_law_272 : decode cL_law 272 = .ok (.iload 9, 2) := by decide +kernel
theorem dL_law_274 : decode cL_law 274 = .ok (.iload 13, 2) := by decide +kernel
theorem dL_law_276 : decode cL_law 276 = .ok (.invokevirtual 71, 3) := by decide +kernel
theorem dL_law_279 : decode cL_law 279 = .ok (.iload 13, 2) := by decide +kernel
theorem dL_law_281 : decode cL_law 281 = .ok (.if_icmp .ne 7, 3) := by decide +kernel
theorem dL_law_284 : decode cL_law 284 = .ok (.iconst 1, 1) := by decide +kernel
theorem dL_law_285 : decode cL_law 285 = .ok (.goto 4, 3) := by decide +kernel
theorem dL_law_288 : decode cL_law 288 = .ok (.iconst 0, 1) := by decide +kernel
theorem dL_law_289 : decode cL_law 289 = .ok (.istore 10, 2) := by decide +kernel
theorem dL_law_291 : decode cL_law 291 = .ok (.goto 292, 3) := by decide +kernel
theorem dL_law_294 : decode cL_law 294 = .ok (.iload 8, 2) := by decide +kernel
theorem dL_law_296 : decode cL_law 296 = .ok (.bipush 9, 2) := by decide +kernel
theorem dL_law_298 : decode cL_law 298 = .ok (.if_icmp .ge 80, 3) := by decide +kernel
theorem dL_law_301 : decode cL_law 301 = .ok (.aload_n 1, 1) := by decide +kernel
theorem dL_law_302 : decode cL_law 302 = .ok (.iload 9, 2) := by decide +kernel
theorem dL_law_304 : decode cL_law 304 = .ok (.invokevirtual 40, 3) := by decide +kernel
theorem dL_law_307 : decode cL_law 307 = .ok (.istore 13, 2) := by decide +kernel
theorem dL_law_309 : decode cL_law 309 = .ok (.iload 13, 2) := by decide +kernel
theorem dL_law_311 : decode cL_law 311 = .ok (.ifCond .lt 64, 3) := by decide +kernel
theorem dL_law_314 : decode cL_law 314 = .ok (.aload_n 1, 1) := by decide +kernel
theorem dL_law_315 : decode cL_law 315 = .ok (.iload 9, 2) := by decide +kernel
theorem dL_law_317 : decode cL_law 317 = .ok (.iload 6, 2) := by decide +kernel
theorem dL_law_319 : decode cL_law 319 = .ok (.bipush 6, 2) := by decide +kernel
theorem dL_law_321 : decode cL_law 321 = .ok (.ishr, 1) := by decide +kernel
theorem dL_law_322 : decode cL_law 322 = .ok (.sipush 400, 3) := by decide +kernel
theorem dL_law_325 : decode cL_law 325 = .ok (.invokestatic 14, 3) := by decide +kernel
theorem dL_law_328 : decode cL_law 328 = .ok (.sipush 400, 3) := by decide +kernel
theorem dL_law_331 : decode cL_law 331 = .ok (.iload 6, 2) := by decide +kernel
theorem dL_law_333 : decode cL_law 333 = .ok (.bipush 15, 2) := by decide +kernel
theorem dL_law_335 : decode cL_law 335 = .ok (.ishr, 1) := by decide +kernel
theorem dL_law_336 : decode cL_law 336 = .ok (.sipush 500, 3) := by decide +kernel
theorem dL_law_339 : decode cL_law 339 = .ok (.invokestatic 14, 3) := by decide +kernel
theorem dL_law_342 : decode cL_law 342 = .ok (.iadd, 1) := by decide +kernel
theorem dL_law_343 : decode cL_law 343 = .ok (.invokevirtual 74, 3) := by decide +kernel
theorem dL_law_346 : decode cL_law 346 = .ok (.aload_n 1, 1) := by decide +kernel
theorem dL_law_347 : decode cL_law 347 = .ok (.iload 9, 2) := by decide +kernel
theorem dL_law_349 : decode cL_law 349 = .ok (.invokevirtual 40, 3) := by decide +kernel
theorem dL_law_352 : decode cL_law 352 = .ok (.iload 13, 2) := by decide +kernel
theorem dL_law_354 : decode cL_law 354 = .ok (.if_icmp .ne 18, 3) := by decide +kernel
theorem dL_law_357 : decode cL_law 357 = .ok (.aload_n 1, 1) := by decide +kernel
theorem dL_law_358 : decode cL_law 358 = .ok (.iload 9, 2) := by decide +kernel
theorem dL_law_360 : decode cL_law 360 = .ok (.invokevirtual 78, 3) := by decide +kernel
theorem dL_law_363 : decode cL_law 363 = .ok (.iload 13, 2) := by decide +kernel
theorem dL_law_365 : decode cL_law 365 = .ok (.if_icmp .ne 7, 3) := by decide +kernel
theorem dL_law_368 : decode cL_law 368 = .ok (.iconst 1, 1) := by decide +kernel
theorem dL_law_369 : decode cL_law 369 = .ok (.goto 4, 3) := by decide +kernel
theorem dL_law_372 : decode cL_law 372 = .ok (.iconst 0, 1) := by decide +kernel
theorem dL_law_373 : decode cL_law 373 = .ok (.istore 10, 2) := by decide +kernel
theorem dL_law_375 : decode cL_law 375 = .ok (.goto 208, 3) := by decide +kernel
theorem dL_law_378 : decode cL_law 378 = .ok (.iload 8, 2) := by decide +kernel
theorem dL_law_380 : decode cL_law 380 = .ok (.bipush 9, 2) := by decide +kernel
theorem dL_law_382 : decode cL_law 382 = .ok (.if_icmp .ne 23, 3) := by decide +kernel
theorem dL_law_385 : decode cL_law 385 = .ok (.aload_n 1, 1) := by decide +kernel
theorem dL_law_386 : decode cL_law 386 = .ok (.iload 9, 2) := by decide +kernel
theorem dL_law_388 : decode cL_law 388 = .ok (.invokevirtual 81, 3) := by decide +kernel
theorem dL_law_391 : decode cL_law 391 = .ok (.iconst 1, 1) := by decide +kernel
theorem dL_law_392 : decode cL_law 392 = .ok (.if_icmp .lt 7, 3) := by decide +kernel
theorem dL_law_395 : decode cL_law 395 = .ok (.iconst 1, 1) := by decide +kernel
theorem dL_law_396 : decode cL_law 396 = .ok (.goto 4, 3) := by decide +kernel
theorem dL_law_399 : decode cL_law 399 = .ok (.iconst 0, 1) := by decide +kernel
theorem dL_law_400 : decode cL_law 400 = .ok (.istore 10, 2) := by decide +kernel
theorem dL_law_402 : decode cL_law 402 = .ok (.goto 181, 3) := by decide +kernel
theorem dL_law_405 : decode cL_law 405 = .ok (.iload 8, 2) := by decide +kernel
theorem dL_law_407 : decode cL_law 407 = .ok (.bipush 10, 2) := by decide +kernel
theorem dL_law_409 : decode cL_law 409 = .ok (.if_icmp .ne 45, 3) := by decide +kernel
theorem dL_law_412 : decode cL_law 412 = .ok (.iconst 1, 1) := by decide +kernel
theorem dL_law_413 : decode cL_law 413 = .ok (.iload 6, 2) := by decide +kernel
theorem dL_law_415 : decode cL_law 415 = .ok (.bipush 6, 2) := by decide +kernel
theorem dL_law_417 : decode cL_law 417 = .ok (.ishr, 1) := by decide +kernel
theorem dL_law_418 : decode cL_law 418 = .ok (.bipush 20, 2) := by decide +kernel
theorem dL_law_420 : decode cL_law 420 = .ok (.invokestatic 14, 3) := by decide +kernel
theorem dL_law_423 : decode cL_law 423 = .ok (.iadd, 1) := by decide +kernel
theorem dL_law_424 : decode cL_law 424 = .ok (.istore 13, 2) := by decide +kernel
theorem dL_law_426 : decode cL_law 426 = .ok (.iload 4, 2) := by decide +kernel
theorem dL_law_428 : decode cL_law 428 = .ok (.iload 13, 2) := by decide +kernel
theorem dL_law_430 : decode cL_law 430 = .ok (.iadd, 1) := by decide +kernel
theorem dL_law_431 : decode cL_law 431 = .ok (.istore 4, 2) := by decide +kernel
theorem dL_law_433 : decode cL_law 433 = .ok (.aload_n 1, 1) := by decide +kernel
theorem dL_law_434 : decode cL_law 434 = .ok (.iload 13, 2) := by decide +kernel
theorem dL_law_436 : decode cL_law 436 = .ok (.invokevirtual 84, 3) := by decide +kernel
theorem dL_law_439 : decode cL_law 439 = .ok (.iload 4, 2) := by decide +kernel
theorem dL_law_441 : decode cL_law 441 = .ok (.if_icmp .ne 7, 3) := by decide +kernel
theorem dL_law_444 : decode cL_law 444 = .ok (.iconst 1, 1) := by decide +kernel
theorem dL_law_445 : decode cL_law 445 = .ok (.goto 4, 3) := by decide +kernel
theorem dL_law_448 : decode cL_law 448 = .ok (.iconst 0, 1) := by decide +kernel
theorem dL_law_449 : decode cL_law 449 = .ok (.istore 10, 2) := by decide +kernel
theorem dL_law_451 : decode cL_law 451 = .ok (.goto 132, 3) := by decide +kernel
theorem dL_law_454 : decode cL_law 454 = .ok (.iload 8, 2) := by decide +kernel
theorem dL_law_456 : decode cL_law 456 = .ok (.bipush 11, 2) := by decide +kernel
theorem dL_law_458 : decode cL_law 458 = .ok (.if_icmp .ne 68, 3) := by decide +kernel
theorem dL_law_461 : decode cL_law 461 = .ok (.iload 6, 2) := by decide +kernel
theorem dL_law_463 : decode cL_law 463 = .ok (.bipush 6, 2) := by decide +kernel
theorem dL_law_465 : decode cL_law 465 = .ok (.ishr, 1) := by decide +kernel
theorem dL_law_466 : decode cL_law 466 = .ok (.iconst 4, 1) := by decide +kernel
theorem dL_law_467 : decode cL_law 467 = .ok (.invokestatic 14, 3) := by decide +kernel
theorem dL_law_470 : decode cL_law 470 = .ok (.istore 13, 2) := by decide +kernel
theorem dL_law_472 : decode cL_law 472 = .ok (.iload 13, 2) := by decide +kernel
theorem dL_law_474 : decode cL_law 474 = .ok (.iload 9, 2) := by decide +kernel
theorem dL_law_476 : decode cL_law 476 = .ok (.if_icmp .eq 40, 3) := by decide +kernel
theorem dL_law_479 : decode cL_law 479 = .ok (.aload_n 1, 1) := by decide +kernel
theorem dL_law_480 : decode cL_law 480 = .ok (.iload 9, 2) := by decide +kernel
theorem dL_law_482 : decode cL_law 482 = .ok (.iload 6, 2) := by decide +kernel
theorem dL_law_484 : decode cL_law 484 = .ok (.bipush 8, 2) := by decide +kernel
theorem dL_law_486 : decode cL_law 486 = .ok (.ishr, 1) := by decide +kernel
theorem dL_law_487 : decode cL_law 487 = .ok (.iconst 4, 1) := by decide +kernel
theorem dL_law_488 : decode cL_law 488 = .ok (.invokestatic 14, 3) := by decide +kernel
theorem dL_law_491 : decode cL_law 491 = .ok (.iload 6, 2) := by decide +kernel
theorem dL_law_493 : decode cL_law 493 = .ok (.bipush 10, 2) := by decide +kernel
theorem dL_law_495 : decode cL_law 495 = .ok (.ishr, 1) := by decide +kernel
theorem dL_law_496 : decode cL_law 496 = .ok (.iconst 4, 1) := by decide +kernel
theorem dL_law_497 : decode cL_law 497 = .ok (.invokestatic 14, 3) := by decide +kernel
theorem dL_law_500 : decode cL_law 500 = .ok (.ifCond .ne 7, 3) := by decide +kernel
theorem dL_law_503 : decode cL_law 503 = .ok (.iconst (-1), 1) := by decide +kernel
theorem dL_law_504 : decode cL_law 504 = .ok (.goto 5, 3) := by decide +kernel
theorem dL_law_507 : decode cL_law 507 = .ok (.iload 13, 2) := by decide +kernel
theorem dL_law_509 : decode cL_law 509 = .ok (.invokevirtual 87, 3) := by decide +kernel
theorem dL_law_512 : decode cL_law 512 = .ok (.iconst (-1), 1) := by decide +kernel
theorem dL_law_513 : decode cL_law 513 = .ok (.if_icmp .lt 7, 3) := by decide +kernel
theorem dL_law_516 : decode cL_law 516 = .ok (.iconst 1, 1) := by decide +kernel
theorem dL_law_517 : decode cL_law 517 = .ok (.goto 4, 3) := by decide +kernel
theorem dL_law_520 : decode cL_law 520 = .ok (.iconst 0, 1) := by decide +kernel
theorem dL_law_521 : decode cL_law 521 = .ok (.istore 10, 2) := by decide +kernel
theorem dL_law_523 : decode cL_law 523 = .ok (.goto 60, 3) := by decide +kernel
theorem dL_law_526 : decode cL_law 526 = .ok (.aload_n 1, 1) := by decide +kernel
theorem dL_law_527 : decode cL_law 527 = .ok (.iload 9, 2) := by decide +kernel
theorem dL_law_529 : decode cL_law 529 = .ok (.invokevirtual 40, 3) := by decide +kernel
theorem dL_law_532 : decode cL_law 532 = .ok (.ifCond .lt 51, 3) := by decide +kernel
theorem dL_law_535 : decode cL_law 535 = .ok (.aload_n 1, 1) := by decide +kernel
theorem dL_law_536 : decode cL_law 536 = .ok (.iload 9, 2) := by decide +kernel
theorem dL_law_538 : decode cL_law 538 = .ok (.iload 6, 2) := by decide +kernel
theorem dL_law_540 : decode cL_law 540 = .ok (.bipush 6, 2) := by decide +kernel
theorem dL_law_542 : decode cL_law 542 = .ok (.ishr, 1) := by decide +kernel
theorem dL_law_543 : decode cL_law 543 = .ok (.sipush 1000, 3) := by decide +kernel
theorem dL_law_546 : decode cL_law 546 = .ok (.invokestatic 14, 3) := by decide +kernel
theorem dL_law_549 : decode cL_law 549 = .ok (.invokevirtual 90, 3) := by decide +kernel
theorem dL_law_552 : decode cL_law 552 = .ok (.istore 13, 2) := by decide +kernel
theorem dL_law_554 : decode cL_law 554 = .ok (.aload_n 1, 1) := by decide +kernel
theorem dL_law_555 : decode cL_law 555 = .ok (.iload 9, 2) := by decide +kernel
theorem dL_law_557 : decode cL_law 557 = .ok (.invokevirtual 40, 3) := by decide +kernel
theorem dL_law_560 : decode cL_law 560 = .ok (.iload 13, 2) := by decide +kernel
theorem dL_law_562 : decode cL_law 562 = .ok (.if_icmp .ne 18, 3) := by decide +kernel
theorem dL_law_565 : decode cL_law 565 = .ok (.aload_n 1, 1) := by decide +kernel
theorem dL_law_566 : decode cL_law 566 = .ok (.invokevirtual 57, 3) := by decide +kernel
theorem dL_law_569 : decode cL_law 569 = .ok (.iload 11, 2) := by decide +kernel
theorem dL_law_571 : decode cL_law 571 = .ok (.iconst 1, 1) := by decide +kernel
theorem dL_law_572 : decode cL_law 572 = .ok (.iadd, 1) := by decide +kernel
theorem dL_law_573 : decode cL_law 573 = .ok (.if_icmp .gt 7, 3) := by decide +kernel
theorem dL_law_576 : decode cL_law 576 = .ok (.iconst 1, 1) := by decide +kernel
theorem dL_law_577 : decode cL_law 577 = .ok (.goto 4, 3) := by decide +kernel
theorem dL_law_580 : decode cL_law 580 = .ok (.iconst 0, 1) := by decide +kernel
theorem dL_law_581 : decode cL_law 581 = .ok (.istore 10, 2) := by decide +kernel
theorem dL_law_583 : decode cL_law 583 = .ok (.iload 10, 2) := by decide +kernel
theorem dL_law_585 : decode cL_law 585 = .ok (.ifCond .eq 52, 3) := by decide +kernel
theorem dL_law_588 : decode cL_law 588 = .ok (.aload_n 1, 1) := by decide +kernel
theorem dL_law_589 : decode cL_law 589 = .ok (.invokevirtual 57, 3) := by decide +kernel
theorem dL_law_592 : decode cL_law 592 = .ok (.iload 11, 2) := by decide +kernel
theorem dL_law_594 : decode cL_law 594 = .ok (.if_icmp .lt 43, 3) := by decide +kernel
theorem dL_law_597 : decode cL_law 597 = .ok (.aload_n 1, 1) := by decide +kernel
theorem dL_law_598 : decode cL_law 598 = .ok (.invokevirtual 57, 3) := by decide +kernel
theorem dL_law_601 : decode cL_law 601 = .ok (.ifCond .eq 32, 3) := by decide +kernel
theorem dL_law_604 : decode cL_law 604 = .ok (.aload_n 1, 1) := by decide +kernel
theorem dL_law_605 : decode cL_law 605 = .ok (.aload_n 1, 1) := by decide +kernel
theorem dL_law_606 : decode cL_law 606 = .ok (.invokevirtual 57, 3) := by decide +kernel
theorem dL_law_609 : decode cL_law 609 = .ok (.iconst 1, 1) := by decide +kernel
theorem dL_law_610 : decode cL_law 610 = .ok (.isub, 1) := by decide +kernel
theorem dL_law_611 : decode cL_law 611 = .ok (.invokevirtual 93, 3) := by decide +kernel
theorem dL_law_614 : decode cL_law 614 = .ok (.iload 4, 2) := by decide +kernel
theorem dL_law_616 : decode cL_law 616 = .ok (.if_icmp .gt 21, 3) := by decide +kernel
theorem dL_law_619 : decode cL_law 619 = .ok (.aload_n 1, 1) := by decide +kernel
theorem dL_law_620 : decode cL_law 620 = .ok (.aload_n 1, 1) := by decide +kernel
theorem dL_law_621 : decode cL_law 621 = .ok (.invokevirtual 57, 3) := by decide +kernel
theorem dL_law_624 : decode cL_law 624 = .ok (.iconst 1, 1) := by decide +kernel
theorem dL_law_625 : decode cL_law 625 = .ok (.isub, 1) := by decide +kernel
theorem dL_law_626 : decode cL_law 626 = .ok (.invokevirtual 96, 3) := by decide +kernel
theorem dL_law_629 : decode cL_law 629 = .ok (.iconst 1, 1) := by decide +kernel
theorem dL_law_630 : decode cL_law 630 = .ok (.if_icmp .gt 7, 3) := by decide +kernel
theorem dL_law_633 : decode cL_law 633 = .ok (.iconst 1, 1) := by decide +kernel
theorem dL_law_634 : decode cL_law 634 = .ok (.goto 4, 3) := by decide +kernel
theorem dL_law_637 : decode cL_law 637 = .ok (.iconst 0, 1) := by decide +kernel
theorem dL_law_638 : decode cL_law 638 = .ok (.istore 10, 2) := by decide +kernel
theorem dL_law_640 : decode cL_law 640 = .ok (.iload 10, 2) := by decide +kernel
theorem dL_law_642 : decode cL_law 642 = .ok (.ifCond .eq 19, 3) := by decide +kernel
theorem dL_law_645 : decode cL_law 645 = .ok (.aload_n 1, 1) := by decide +kernel
theorem dL_law_646 : decode cL_law 646 = .ok (.iload 9, 2) := by decide +kernel
theorem dL_law_648 : decode cL_law 648 = .ok (.invokestatic 99, 3) := by decide +kernel
theorem dL_law_651 : decode cL_law 651 = .ok (.ifCond .eq 10, 3) := by decide +kernel
theorem dL_law_654 : decode cL_law 654 = .ok (.aload_n 1, 1) := by decide +kernel
theorem dL_law_655 : decode cL_law 655 = .ok (.invokestatic 103, 3) := by decide +kernel
theorem dL_law_658 : decode cL_law 658 = .ok (.ifCond .ne 5, 3) := by decide +kernel
theorem dL_law_661 : decode cL_law 661 = .ok (.iconst 0, 1) := by decide +kernel
theorem dL_law_662 : decode cL_law 662 = .ok (.ireturn, 1) := by decide +kernel
theorem dL_law_663 : decode cL_law 663 = .ok (.iinc 5 1, 3) := by decide +kernel
theorem dL_law_666 : decode cL_law 666 = .ok (.goto (-644), 3) := by decide +kernel
theorem dL_law_669 : decode cL_law 669 = .ok (.iconst 1, 1) := by decide +kernel
theorem dL_law_670 : decode cL_law 670 = .ok (.ireturn, 1) := by decide +kernel
