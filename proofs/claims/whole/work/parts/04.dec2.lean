theorem dX6_init_0 : decode cX6_init 0 = .ok (.aload_n 0, 1) := by decide +kernel
theorem dX6_init_1 : decode cX6_init 1 = .ok (.invokespecial 1, 3) := by decide +kernel
theorem dX6_init_4 : decode cX6_init 4 = .ok (.aload_n 0, 1) := by decide +kernel
theorem dX6_init_5 : decode cX6_init 5 = .ok (.iconst 4, 1) := by decide +kernel
theorem dX6_init_6 : decode cX6_init 6 = .ok (.newarray .int, 2) := by decide +kernel
theorem dX6_init_8 : decode cX6_init 8 = .ok (.putfield 7, 3) := by decide +kernel
theorem dX6_init_11 : decode cX6_init 11 = .ok (.aload_n 0, 1) := by decide +kernel
theorem dX6_init_12 : decode cX6_init 12 = .ok (.bipush 80, 2) := by decide +kernel
theorem dX6_init_14 : decode cX6_init 14 = .ok (.newarray .int, 2) := by decide +kernel
theorem dX6_init_16 : decode cX6_init 16 = .ok (.putfield 13, 3) := by decide +kernel
theorem dX6_init_19 : decode cX6_init 19 = .ok (.aload_n 0, 1) := by decide +kernel
theorem dX6_init_20 : decode cX6_init 20 = .ok (.bipush 80, 2) := by decide +kernel
theorem dX6_init_22 : decode cX6_init 22 = .ok (.newarray .int, 2) := by decide +kernel
theorem dX6_init_24 : decode cX6_init 24 = .ok (.putfield 16, 3) := by decide +kernel
theorem dX6_init_27 : decode cX6_init 27 = .ok (.aload_n 0, 1) := by decide +kernel
theorem dX6_init_28 : decode cX6_init 28 = .ok (.bipush 80, 2) := by decide +kernel
theorem dX6_init_30 : decode cX6_init 30 = .ok (.newarray .int, 2) := by decide +kernel
theorem dX6_init_32 : decode cX6_init 32 = .ok (.putfield 19, 3) := by decide +kernel
theorem dX6_init_35 : decode cX6_init 35 = .ok (.aload_n 0, 1) := by decide +kernel
theorem dX6_init_36 : decode cX6_init 36 = .ok (.bipush 80, 2) := by decide +kernel
theorem dX6_init_38 : decode cX6_init 38 = .ok (.newarray .int, 2) := by decide +kernel
theorem dX6_init_40 : decode cX6_init 40 = .ok (.putfield 22, 3) := by decide +kernel
theorem dX6_init_43 : decode cX6_init 43 = .ok (.aload_n 0, 1) := by decide +kernel
theorem dX6_init_44 : decode cX6_init 44 = .ok (.bipush 80, 2) := by decide +kernel
theorem dX6_init_46 : decode cX6_init 46 = .ok (.newarray .int, 2) := by decide +kernel
theorem dX6_init_48 : decode cX6_init 48 = .ok (.putfield 25, 3) := by decide +kernel
theorem dX6_init_51 : decode cX6_init 51 = .ok (.aload_n 0, 1) := by decide +kernel
theorem dX6_init_52 : decode cX6_init 52 = .ok (.bipush 80, 2) := by decide +kernel
theorem dX6_init_54 : decode cX6_init 54 = .ok (.newarray .boolean, 2) := by decide +kernel
theorem dX6_init_56 : decode cX6_init 56 = .ok (.putfield 28, 3) := by decide +kernel
theorem dX6_init_59 : decode cX6_init 59 = .ok (.aload_n 0, 1) := by decide +kernel
theorem dX6_init_60 : decode cX6_init 60 = .ok (.bipush 80, 2) := by decide +kernel
theorem dX6_init_62 : decode cX6_init 62 = .ok (.newarray .int, 2) := by decide +kernel
theorem dX6_init_64 : decode cX6_init 64 = .ok (.putfield 32, 3) := by decide +kernel
theorem dX6_init_67 : decode cX6_init 67 = .ok (.aload_n 0, 1) := by decide +kernel
theorem dX6_init_68 : decode cX6_init 68 = .ok (.sipush 160, 3) := by decide +kernel
theorem dX6_init_71 : decode cX6_init 71 = .ok (.newarray .int, 2) := by decide +kernel
theorem dX6_init_73 : decode cX6_init 73 = .ok (.putfield 35, 3) := by decide +kernel
theorem dX6_init_76 : decode cX6_init 76 = .ok (.aload_n 0, 1) := by decide +kernel
theorem dX6_init_77 : decode cX6_init 77 = .ok (.sipush 160, 3) := by decide +kernel
theorem dX6_init_80 : decode cX6_init 80 = .ok (.newarray .int, 2) := by decide +kernel
theorem dX6_init_82 : decode cX6_init 82 = .ok (.putfield 38, 3) := by decide +kernel
theorem dX6_init_85 : decode cX6_init 85 = .ok (.aload_n 0, 1) := by decide +kernel
theorem dX6_init_86 : decode cX6_init 86 = .ok (.sipush 160, 3) := by decide +kernel
theorem dX6_init_89 : decode cX6_init 89 = .ok (.newarray .int, 2) := by decide +kernel
theorem dX6_init_91 : decode cX6_init 91 = .ok (.putfield 41, 3) := by decide +kernel
theorem dX6_init_94 : decode cX6_init 94 = .ok (.aload_n 0, 1) := by decide +kernel
theorem dX6_init_95 : decode cX6_init 95 = .ok (.iconst 4, 1) := by decide +kernel
theorem dX6_init_96 : decode cX6_init 96 = .ok (.newarray .int, 2) := by decide +kernel
theorem dX6_init_98 : decode cX6_init 98 = .ok (.putfield 44, 3) := by decide +kernel
theorem dX6_init_101 : decode cX6_init 101 = .ok (.aload_n 0, 1) := by decide +kernel
theorem dX6_init_102 : decode cX6_init 102 = .ok (.iconst 4, 1) := by decide +kernel
theorem dX6_init_103 : decode cX6_init 103 = .ok (.newarray .int, 2) := by decide +kernel
theorem dX6_init_105 : decode cX6_init 105 = .ok (.putfield 47, 3) := by decide +kernel
theorem dX6_init_108 : decode cX6_init 108 = .ok (.aload_n 0, 1) := by decide +kernel
theorem dX6_init_109 : decode cX6_init 109 = .ok (.bipush 40, 2) := by decide +kernel
theorem dX6_init_111 : decode cX6_init 111 = .ok (.newarray .int, 2) := by decide +kernel
theorem dX6_init_113 : decode cX6_init 113 = .ok (.putfield 50, 3) := by decide +kernel
theorem dX6_init_116 : decode cX6_init 116 = .ok (.aload_n 0, 1) := by decide +kernel
theorem dX6_init_117 : decode cX6_init 117 = .ok (.bipush 40, 2) := by decide +kernel
theorem dX6_init_119 : decode cX6_init 119 = .ok (.newarray .int, 2) := by decide +kernel
theorem dX6_init_121 : decode cX6_init 121 = .ok (.putfield 53, 3) := by decide +kernel
theorem dX6_init_124 : decode cX6_init 124 = .ok (.aload_n 0, 1) := by decide +kernel
theorem dX6_init_125 : decode cX6_init 125 = .ok (.sipush 1024, 3) := by decide +kernel
theorem dX6_init_128 : decode cX6_init 128 = .ok (.newarray .int, 2) := by decide +kernel
theorem dX6_init_130 : decode cX6_init 130 = .ok (.putfield 56, 3) := by decide +kernel
theorem dX6_init_133 : decode cX6_init 133 = .ok (.aload_n 0, 1) := by decide +kernel
theorem dX6_init_134 : decode cX6_init 134 = .ok (.sipush 1024, 3) := by decide +kernel
theorem dX6_init_137 : decode cX6_init 137 = .ok (.newarray .int, 2) := by decide +kernel
theorem dX6_init_139 : decode cX6_init 139 = .ok (.putfield 59, 3) := by decide +kernel
theorem dX6_init_142 : decode cX6_init 142 = .ok (.aload_n 0, 1) := by decide +kernel
theorem dX6_init_143 : decode cX6_init 143 = .ok (.sipush 1024, 3) := by decide +kernel
theorem dX6_init_146 : decode cX6_init 146 = .ok (.newarray .int, 2) := by decide +kernel
theorem dX6_init_148 : decode cX6_init 148 = .ok (.putfield 62, 3) := by decide +kernel
theorem dX6_init_151 : decode cX6_init 151 = .ok (.aload_n 0, 1) := by decide +kernel
theorem dX6_init_152 : decode cX6_init 152 = .ok (.sipush 1024, 3) := by decide +kernel
theorem dX6_init_155 : decode cX6_init 155 = .ok (.newarray .int, 2) := by decide +kernel
theorem dX6_init_157 : decode cX6_init 157 = .ok (.putfield 65, 3) := by decide +kernel
theorem dX6_init_160 : decode cX6_init 160 = .ok (.aload_n 0, 1) := by decide +kernel
theorem dX6_init_161 : decode cX6_init 161 = .ok (.bipush 16, 2) := by decide +kernel
theorem dX6_init_163 : decode cX6_init 163 = .ok (.newarray .int, 2) := by decide +kernel
theorem dX6_init_165 : decode cX6_init 165 = .ok (.putfield 68, 3) := by decide +kernel
theorem dX6_init_168 : decode cX6_init 168 = .ok (.aload_n 0, 1) := by decide +kernel
theorem dX6_init_169 : decode cX6_init 169 = .ok (.iconst 0, 1) := by decide +kernel
theorem dX6_init_170 : decode cX6_init 170 = .ok (.putfield 71, 3) := by decide +kernel
theorem dX6_init_173 : decode cX6_init 173 = .ok (.return_, 1) := by decide +kernel
theorem dX6_thrown_0 : decode cX6_thrown 0 = .ok (.aload_n 0, 1) := by decide +kernel
theorem dX6_thrown_1 : decode cX6_thrown 1 = .ok (.getfield 71, 3) := by decide +kernel
theorem dX6_thrown_4 : decode cX6_thrown 4 = .ok (.ireturn, 1) := by decide +kernel
theorem dX6_fails_0 : decode cX6_fails 0 = .ok (.aload_n 0, 1) := by decide +kernel
theorem dX6_fails_1 : decode cX6_fails 1 = .ok (.iload_n 1, 1) := by decide +kernel
theorem dX6_fails_2 : decode cX6_fails 2 = .ok (.putfield 71, 3) := by decide +kernel
theorem dX6_fails_5 : decode cX6_fails 5 = .ok (.iconst 0, 1) := by decide +kernel
theorem dX6_fails_6 : decode cX6_fails 6 = .ok (.ireturn, 1) := by decide +kernel
theorem dX6_in_0 : decode cX6_in 0 = .ok (.iload_n 0, 1) := by decide +kernel
theorem dX6_in_1 : decode cX6_in 1 = .ok (.iload_n 1, 1) := by decide +kernel
theorem dX6_in_2 : decode cX6_in 2 = .ok (.if_icmp .lt 12, 3) := by decide +kernel
theorem dX6_in_5 : decode cX6_in 5 = .ok (.iload_n 0, 1) := by decide +kernel
theorem dX6_in_6 : decode cX6_in 6 = .ok (.iload_n 2, 1) := by decide +kernel
theorem dX6_in_7 : decode cX6_in 7 = .ok (.if_icmp .gt 7, 3) := by decide +kernel
theorem dX6_in_10 : decode cX6_in 10 = .ok (.iconst 1, 1) := by decide +kernel
theorem dX6_in_11 : decode cX6_in 11 = .ok (.goto 4, 3) := by decide +kernel
theorem dX6_in_14 : decode cX6_in 14 = .ok (.iconst 0, 1) := by decide +kernel
theorem dX6_in_15 : decode cX6_in 15 = .ok (.ireturn, 1) := by decide +kernel
theorem dX6_isAgent_0 : decode cX6_isAgent 0 = .ok (.aload_n 0, 1) := by decide +kernel
theorem dX6_isAgent_1 : decode cX6_isAgent 1 = .ok (.iload_n 1, 1) := by decide +kernel
theorem dX6_isAgent_2 : decode cX6_isAgent 2 = .ok (.iconst 0, 1) := by decide +kernel
theorem dX6_isAgent_3 : decode cX6_isAgent 3 = .ok (.iconst 3, 1) := by decide +kernel
theorem dX6_isAgent_4 : decode cX6_isAgent 4 = .ok (.invokestatic 75, 3) := by decide +kernel
theorem dX6_isAgent_7 : decode cX6_isAgent 7 = .ok (.ifCond .eq 7, 3) := by decide +kernel
theorem dX6_isAgent_10 : decode cX6_isAgent 10 = .ok (.iconst 0, 1) := by decide +kernel
theorem dX6_isAgent_11 : decode cX6_isAgent 11 = .ok (.goto 4, 3) := by decide +kernel
theorem dX6_isAgent_14 : decode cX6_isAgent 14 = .ok (.iconst 1, 1) := by decide +kernel
theorem dX6_isAgent_15 : decode cX6_isAgent 15 = .ok (.putfield 71, 3) := by decide +kernel
theorem dX6_isAgent_18 : decode cX6_isAgent 18 = .ok (.aload_n 0, 1) := by decide +kernel
theorem dX6_isAgent_19 : decode cX6_isAgent 19 = .ok (.getfield 71, 3) := by decide +kernel
theorem dX6_isAgent_22 : decode cX6_isAgent 22 = .ok (.ifCond .ne 7, 3) := by decide +kernel
theorem dX6_isAgent_25 : decode cX6_isAgent 25 = .ok (.iconst 1, 1) := by decide +kernel
theorem dX6_isAgent_26 : decode cX6_isAgent 26 = .ok (.goto 4, 3) := by decide +kernel
theorem dX6_isAgent_29 : decode cX6_isAgent 29 = .ok (.iconst 0, 1) := by decide +kernel
theorem dX6_isAgent_30 : decode cX6_isAgent 30 = .ok (.ireturn, 1) := by decide +kernel
theorem dX6_unit_0 : decode cX6_unit 0 = .ok (.iload_n 0, 1) := by decide +kernel
theorem dX6_unit_1 : decode cX6_unit 1 = .ok (.ifCond .ne 9, 3) := by decide +kernel
theorem dX6_unit_4 : decode cX6_unit 4 = .ok (.sipush 1331, 3) := by decide +kernel
theorem dX6_unit_7 : decode cX6_unit 7 = .ok (.goto 24, 3) := by decide +kernel
theorem dX6_unit_10 : decode cX6_unit 10 = .ok (.iload_n 0, 1) := by decide +kernel
theorem dX6_unit_11 : decode cX6_unit 11 = .ok (.iconst 1, 1) := by decide +kernel
theorem dX6_unit_12 : decode cX6_unit 12 = .ok (.if_icmp .ne 8, 3) := by decide +kernel
theorem dX6_unit_15 : decode cX6_unit 15 = .ok (.bipush 121, 2) := by decide +kernel
theorem dX6_unit_17 : decode cX6_unit 17 = .ok (.goto 14, 3) := by decide +kernel
theorem dX6_unit_20 : decode cX6_unit 20 = .ok (.iload_n 0, 1) := by decide +kernel
theorem dX6_unit_21 : decode cX6_unit 21 = .ok (.iconst 2, 1) := by decide +kernel
theorem dX6_unit_22 : decode cX6_unit 22 = .ok (.if_icmp .ne 8, 3) := by decide +kernel
theorem dX6_unit_25 : decode cX6_unit 25 = .ok (.bipush 11, 2) := by decide +kernel
theorem dX6_unit_27 : decode cX6_unit 27 = .ok (.goto 4, 3) := by decide +kernel
theorem dX6_unit_30 : decode cX6_unit 30 = .ok (.iconst 1, 1) := by decide +kernel
theorem dX6_unit_31 : decode cX6_unit 31 = .ok (.ireturn, 1) := by decide +kernel
theorem dX6_digit_0 : decode cX6_digit 0 = .ok (.iload_n 0, 1) := by decide +kernel
theorem dX6_digit_1 : decode cX6_digit 1 = .ok (.iload_n 1, 1) := by decide +kernel
theorem dX6_digit_2 : decode cX6_digit 2 = .ok (.invokestatic 79, 3) := by decide +kernel
theorem dX6_digit_5 : decode cX6_digit 5 = .ok (.idiv, 1) := by decide +kernel
theorem dX6_digit_6 : decode cX6_digit 6 = .ok (.bipush 11, 2) := by decide +kernel
theorem dX6_digit_8 : decode cX6_digit 8 = .ok (.irem, 1) := by decide +kernel
theorem dX6_digit_9 : decode cX6_digit 9 = .ok (.ireturn, 1) := by decide +kernel
theorem dX6_length_0 : decode cX6_length 0 = .ok (.iconst 0, 1) := by decide +kernel
theorem dX6_length_1 : decode cX6_length 1 = .ok (.istore_n 1, 1) := by decide +kernel
theorem dX6_length_2 : decode cX6_length 2 = .ok (.iload_n 1, 1) := by decide +kernel
theorem dX6_length_3 : decode cX6_length 3 = .ok (.iconst 4, 1) := by decide +kernel
theorem dX6_length_4 : decode cX6_length 4 = .ok (.if_icmp .ge 17, 3) := by decide +kernel
theorem dX6_length_7 : decode cX6_length 7 = .ok (.iload_n 0, 1) := by decide +kernel
theorem dX6_length_8 : decode cX6_length 8 = .ok (.iload_n 1, 1) := by decide +kernel
theorem dX6_length_9 : decode cX6_length 9 = .ok (.invokestatic 83, 3) := by decide +kernel
theorem dX6_length_12 : decode cX6_length 12 = .ok (.ifCond .le 9, 3) := by decide +kernel
theorem dX6_length_15 : decode cX6_length 15 = .ok (.iinc 1 1, 3) := by decide +kernel
theorem dX6_length_18 : decode cX6_length 18 = .ok (.goto (-16), 3) := by decide +kernel
theorem dX6_length_21 : decode cX6_length 21 = .ok (.iload_n 1, 1) := by decide +kernel
theorem dX6_length_22 : decode cX6_length 22 = .ok (.ireturn, 1) := by decide +kernel
theorem dX6_isHead_0 : decode cX6_isHead 0 = .ok (.iconst 1, 1) := by decide +kernel
theorem dX6_isHead_1 : decode cX6_isHead 1 = .ok (.istore_n 2, 1) := by decide +kernel
theorem dX6_isHead_2 : decode cX6_isHead 2 = .ok (.iconst 0, 1) := by decide +kernel
theorem dX6_isHead_3 : decode cX6_isHead 3 = .ok (.istore_n 3, 1) := by decide +kernel
theorem dX6_isHead_4 : decode cX6_isHead 4 = .ok (.iload_n 3, 1) := by decide +kernel
theorem dX6_isHead_5 : decode cX6_isHead 5 = .ok (.iload_n 0, 1) := by decide +kernel
theorem dX6_isHead_6 : decode cX6_isHead 6 = .ok (.invokestatic 87, 3) := by decide +kernel
theorem dX6_isHead_9 : decode cX6_isHead 9 = .ok (.if_icmp .ge 32, 3) := by decide +kernel
theorem dX6_isHead_12 : decode cX6_isHead 12 = .ok (.iload_n 2, 1) := by decide +kernel
theorem dX6_isHead_13 : decode cX6_isHead 13 = .ok (.ifCond .eq 20, 3) := by decide +kernel
theorem dX6_isHead_16 : decode cX6_isHead 16 = .ok (.iload_n 0, 1) := by decide +kernel
theorem dX6_isHead_17 : decode cX6_isHead 17 = .ok (.iload_n 3, 1) := by decide +kernel
theorem dX6_isHead_18 : decode cX6_isHead 18 = .ok (.invokestatic 83, 3) := by decide +kernel
theorem dX6_isHead_21 : decode cX6_isHead 21 = .ok (.iload_n 1, 1) := by decide +kernel
theorem dX6_isHead_22 : decode cX6_isHead 22 = .ok (.iload_n 3, 1) := by decide +kernel
theorem dX6_isHead_23 : decode cX6_isHead 23 = .ok (.invokestatic 83, 3) := by decide +kernel
theorem dX6_isHead_26 : decode cX6_isHead 26 = .ok (.if_icmp .ne 7, 3) := by decide +kernel
theorem dX6_isHead_29 : decode cX6_isHead 29 = .ok (.iconst 1, 1) := by decide +kernel
theorem dX6_isHead_30 : decode cX6_isHead 30 = .ok (.goto 4, 3) := by decide +kernel
theorem dX6_isHead_33 : decode cX6_isHead 33 = .ok (.iconst 0, 1) := by decide +kernel
theorem dX6_isHead_34 : decode cX6_isHead 34 = .ok (.istore_n 2, 1) := by decide +kernel
theorem dX6_isHead_35 : decode cX6_isHead 35 = .ok (.iinc 3 1, 3) := by decide +kernel
theorem dX6_isHead_38 : decode cX6_isHead 38 = .ok (.goto (-34), 3) := by decide +kernel
theorem dX6_isHead_41 : decode cX6_isHead 41 = .ok (.iload_n 2, 1) := by decide +kernel
theorem dX6_isHead_42 : decode cX6_isHead 42 = .ok (.ireturn, 1) := by decide +kernel
theorem dX6_write_0 : decode cX6_write 0 = .ok (.aload_n 0, 1) := by decide +kernel
theorem dX6_write_1 : decode cX6_write 1 = .ok (.iload_n 1, 1) := by decide +kernel
theorem dX6_write_2 : decode cX6_write 2 = .ok (.iconst 0, 1) := by decide +kernel
theorem dX6_write_3 : decode cX6_write 3 = .ok (.bipush 9, 2) := by decide +kernel
theorem dX6_write_5 : decode cX6_write 5 = .ok (.invokestatic 75, 3) := by decide +kernel
theorem dX6_write_8 : decode cX6_write 8 = .ok (.ifCond .ne 7, 3) := by decide +kernel
theorem dX6_write_11 : decode cX6_write 11 = .ok (.iconst 1, 1) := by decide +kernel
theorem dX6_write_12 : decode cX6_write 12 = .ok (.goto 19, 3) := by decide +kernel
theorem dX6_write_15 : decode cX6_write 15 = .ok (.aload_n 0, 1) := by decide +kernel
theorem dX6_write_16 : decode cX6_write 16 = .ok (.getfield 90, 3) := by decide +kernel
theorem dX6_write_19 : decode cX6_write 19 = .ok (.invokestatic 87, 3) := by decide +kernel
theorem dX6_write_22 : decode cX6_write 22 = .ok (.iconst 4, 1) := by decide +kernel
theorem dX6_write_23 : decode cX6_write 23 = .ok (.if_icmp .ne 7, 3) := by decide +kernel
theorem dX6_write_26 : decode cX6_write 26 = .ok (.iconst 2, 1) := by decide +kernel
theorem dX6_write_27 : decode cX6_write 27 = .ok (.goto 4, 3) := by decide +kernel
theorem dX6_write_30 : decode cX6_write 30 = .ok (.iconst 0, 1) := by decide +kernel
theorem dX6_write_31 : decode cX6_write 31 = .ok (.putfield 71, 3) := by decide +kernel
theorem dX6_write_34 : decode cX6_write 34 = .ok (.aload_n 0, 1) := by decide +kernel
theorem dX6_write_35 : decode cX6_write 35 = .ok (.getfield 71, 3) := by decide +kernel
theorem dX6_write_38 : decode cX6_write 38 = .ok (.ifCond .le 5, 3) := by decide +kernel
theorem dX6_write_41 : decode cX6_write 41 = .ok (.iconst 0, 1) := by decide +kernel
theorem dX6_write_42 : decode cX6_write 42 = .ok (.ireturn, 1) := by decide +kernel
theorem dX6_write_43 : decode cX6_write 43 = .ok (.aload_n 0, 1) := by decide +kernel
theorem dX6_write_44 : decode cX6_write 44 = .ok (.dup, 1) := by decide +kernel
theorem dX6_write_45 : decode cX6_write 45 = .ok (.getfield 90, 3) := by decide +kernel
theorem dX6_write_48 : decode cX6_write 48 = .ok (.iload_n 1, 1) := by decide +kernel
theorem dX6_write_49 : decode cX6_write 49 = .ok (.iconst 1, 1) := by decide +kernel
theorem dX6_write_50 : decode cX6_write 50 = .ok (.iadd, 1) := by decide +kernel
theorem dX6_write_51 : decode cX6_write 51 = .ok (.aload_n 0, 1) := by decide +kernel
theorem dX6_write_52 : decode cX6_write 52 = .ok (.getfield 90, 3) := by decide +kernel
theorem dX6_write_55 : decode cX6_write 55 = .ok (.invokestatic 87, 3) := by decide +kernel
theorem dX6_write_58 : decode cX6_write 58 = .ok (.invokestatic 79, 3) := by decide +kernel
theorem dX6_write_61 : decode cX6_write 61 = .ok (.imul, 1) := by decide +kernel
theorem dX6_write_62 : decode cX6_write 62 = .ok (.iadd, 1) := by decide +kernel
theorem dX6_write_63 : decode cX6_write 63 = .ok (.putfield 90, 3) := by decide +kernel
theorem dX6_write_66 : decode cX6_write 66 = .ok (.aload_n 0, 1) := by decide +kernel
theorem dX6_write_67 : decode cX6_write 67 = .ok (.getfield 90, 3) := by decide +kernel
theorem dX6_write_70 : decode cX6_write 70 = .ok (.invokestatic 87, 3) := by decide +kernel
theorem dX6_write_73 : decode cX6_write 73 = .ok (.ireturn, 1) := by decide +kernel
theorem dX6_wipe_0 : decode cX6_wipe 0 = .ok (.aload_n 0, 1) := by decide +kernel
theorem dX6_wipe_1 : decode cX6_wipe 1 = .ok (.iconst 0, 1) := by decide +kernel
theorem dX6_wipe_2 : decode cX6_wipe 2 = .ok (.putfield 71, 3) := by decide +kernel
theorem dX6_wipe_5 : decode cX6_wipe 5 = .ok (.aload_n 0, 1) := by decide +kernel
theorem dX6_wipe_6 : decode cX6_wipe 6 = .ok (.getfield 90, 3) := by decide +kernel
theorem dX6_wipe_9 : decode cX6_wipe 9 = .ok (.invokestatic 87, 3) := by decide +kernel
theorem dX6_wipe_12 : decode cX6_wipe 12 = .ok (.istore_n 1, 1) := by decide +kernel
theorem dX6_wipe_13 : decode cX6_wipe 13 = .ok (.aload_n 0, 1) := by decide +kernel
theorem dX6_wipe_14 : decode cX6_wipe 14 = .ok (.iconst 0, 1) := by decide +kernel
theorem dX6_wipe_15 : decode cX6_wipe 15 = .ok (.putfield 90, 3) := by decide +kernel
theorem dX6_wipe_18 : decode cX6_wipe 18 = .ok (.iload_n 1, 1) := by decide +kernel
theorem dX6_wipe_19 : decode cX6_wipe 19 = .ok (.ireturn, 1) := by decide +kernel
theorem dX6_numberAt_0 : decode cX6_numberAt 0 = .ok (.aload_n 0, 1) := by decide +kernel
theorem dX6_numberAt_1 : decode cX6_numberAt 1 = .ok (.iconst 0, 1) := by decide +kernel
theorem dX6_numberAt_2 : decode cX6_numberAt 2 = .ok (.putfield 71, 3) := by decide +kernel
theorem dX6_numberAt_5 : decode cX6_numberAt 5 = .ok (.iload_n 1, 1) := by decide +kernel
theorem dX6_numberAt_6 : decode cX6_numberAt 6 = .ok (.iconst 0, 1) := by decide +kernel
theorem dX6_numberAt_7 : decode cX6_numberAt 7 = .ok (.iconst 3, 1) := by decide +kernel
theorem dX6_numberAt_8 : decode cX6_numberAt 8 = .ok (.invokestatic 75, 3) := by decide +kernel
theorem dX6_numberAt_11 : decode cX6_numberAt 11 = .ok (.ifCond .eq 16, 3) := by decide +kernel
theorem dX6_numberAt_14 : decode cX6_numberAt 14 = .ok (.aload_n 0, 1) := by decide +kernel
theorem dX6_numberAt_15 : decode cX6_numberAt 15 = .ok (.getfield 90, 3) := by decide +kernel
theorem dX6_numberAt_18 : decode cX6_numberAt 18 = .ok (.iload_n 1, 1) := by decide +kernel
theorem dX6_numberAt_19 : decode cX6_numberAt 19 = .ok (.invokestatic 83, 3) := by decide +kernel
theorem dX6_numberAt_22 : decode cX6_numberAt 22 = .ok (.iconst 1, 1) := by decide +kernel
theorem dX6_numberAt_23 : decode cX6_numberAt 23 = .ok (.isub, 1) := by decide +kernel
theorem dX6_numberAt_24 : decode cX6_numberAt 24 = .ok (.goto 8, 3) := by decide +kernel
theorem dX6_numberAt_27 : decode cX6_numberAt 27 = .ok (.aload_n 0, 1) := by decide +kernel
theorem dX6_numberAt_28 : decode cX6_numberAt 28 = .ok (.iconst 1, 1) := by decide +kernel
theorem dX6_numberAt_29 : decode cX6_numberAt 29 = .ok (.invokevirtual 93, 3) := by decide +kernel
theorem dX6_numberAt_32 : decode cX6_numberAt 32 = .ok (.ireturn, 1) := by decide +kernel
theorem dX6_slot_0 : decode cX6_slot 0 = .ok (.iconst (-1), 1) := by decide +kernel
theorem dX6_slot_1 : decode cX6_slot 1 = .ok (.istore_n 2, 1) := by decide +kernel
theorem dX6_slot_2 : decode cX6_slot 2 = .ok (.bipush 20, 2) := by decide +kernel
theorem dX6_slot_4 : decode cX6_slot 4 = .ok (.iload_n 1, 1) := by decide +kernel
theorem dX6_slot_5 : decode cX6_slot 5 = .ok (.imul, 1) := by decide +kernel
theorem dX6_slot_6 : decode cX6_slot 6 = .ok (.istore_n 3, 1) := by decide +kernel
theorem dX6_slot_7 : decode cX6_slot 7 = .ok (.iload_n 3, 1) := by decide +kernel
theorem dX6_slot_8 : decode cX6_slot 8 = .ok (.bipush 20, 2) := by decide +kernel
theorem dX6_slot_10 : decode cX6_slot 10 = .ok (.iload_n 1, 1) := by decide +kernel
theorem dX6_slot_11 : decode cX6_slot 11 = .ok (.imul, 1) := by decide +kernel
theorem dX6_slot_12 : decode cX6_slot 12 = .ok (.aload_n 0, 1) := by decide +kernel
theorem dX6_slot_13 : decode cX6_slot 13 = .ok (.getfield 7, 3) := by decide +kernel
theorem dX6_slot_16 : decode cX6_slot 16 = .ok (.iload_n 1, 1) := by decide +kernel
theorem dX6_slot_17 : decode cX6_slot 17 = .ok (.iaload, 1) := by decide +kernel
theorem dX6_slot_18 : decode cX6_slot 18 = .ok (.iadd, 1) := by decide +kernel
theorem dX6_slot_19 : decode cX6_slot 19 = .ok (.if_icmp .ge 28, 3) := by decide +kernel
theorem dX6_slot_22 : decode cX6_slot 22 = .ok (.aload_n 0, 1) := by decide +kernel
theorem dX6_slot_23 : decode cX6_slot 23 = .ok (.getfield 13, 3) := by decide +kernel
theorem dX6_slot_26 : decode cX6_slot 26 = .ok (.iload_n 3, 1) := by decide +kernel
theorem dX6_slot_27 : decode cX6_slot 27 = .ok (.iaload, 1) := by decide +kernel
theorem dX6_slot_28 : decode cX6_slot 28 = .ok (.aload_n 0, 1) := by decide +kernel
theorem dX6_slot_29 : decode cX6_slot 29 = .ok (.getfield 90, 3) := by decide +kernel
theorem dX6_slot_32 : decode cX6_slot 32 = .ok (.if_icmp .ne 7, 3) := by decide +kernel
theorem dX6_slot_35 : decode cX6_slot 35 = .ok (.iload_n 3, 1) := by decide +kernel
theorem dX6_slot_36 : decode cX6_slot 36 = .ok (.goto 4, 3) := by decide +kernel
theorem dX6_slot_39 : decode cX6_slot 39 = .ok (.iload_n 2, 1) := by decide +kernel
theorem dX6_slot_40 : decode cX6_slot 40 = .ok (.istore_n 2, 1) := by decide +kernel
theorem dX6_slot_41 : decode cX6_slot 41 = .ok (.iinc 3 1, 3) := by decide +kernel
theorem dX6_slot_44 : decode cX6_slot 44 = .ok (.goto (-37), 3) := by decide +kernel
theorem dX6_slot_47 : decode cX6_slot 47 = .ok (.iload_n 2, 1) := by decide +kernel
theorem dX6_slot_48 : decode cX6_slot 48 = .ok (.ireturn, 1) := by decide +kernel
theorem dX6_lays_0 : decode cX6_lays 0 = .ok (.aload_n 0, 1) := by decide +kernel
theorem dX6_lays_1 : decode cX6_lays 1 = .ok (.getfield 13, 3) := by decide +kernel
theorem dX6_lays_4 : decode cX6_lays 4 = .ok (.iload_n 1, 1) := by decide +kernel
theorem dX6_lays_5 : decode cX6_lays 5 = .ok (.aload_n 0, 1) := by decide +kernel
theorem dX6_lays_6 : decode cX6_lays 6 = .ok (.getfield 13, 3) := by decide +kernel
theorem dX6_lays_9 : decode cX6_lays 9 = .ok (.iload_n 2, 1) := by decide +kernel
theorem dX6_lays_10 : decode cX6_lays 10 = .ok (.iaload, 1) := by decide +kernel
theorem dX6_lays_11 : decode cX6_lays 11 = .ok (.iastore, 1) := by decide +kernel
theorem dX6_lays_12 : decode cX6_lays 12 = .ok (.aload_n 0, 1) := by decide +kernel
theorem dX6_lays_13 : decode cX6_lays 13 = .ok (.getfield 16, 3) := by decide +kernel
theorem dX6_lays_16 : decode cX6_lays 16 = .ok (.iload_n 1, 1) := by decide +kernel
theorem dX6_lays_17 : decode cX6_lays 17 = .ok (.aload_n 0, 1) := by decide +kernel
theorem dX6_lays_18 : decode cX6_lays 18 = .ok (.getfield 16, 3) := by decide +kernel
theorem dX6_lays_21 : decode cX6_lays 21 = .ok (.iload_n 2, 1) := by decide +kernel
theorem dX6_lays_22 : decode cX6_lays 22 = .ok (.iaload, 1) := by decide +kernel
theorem dX6_lays_23 : decode cX6_lays 23 = .ok (.iastore, 1) := by decide +kernel
theorem dX6_lays_24 : decode cX6_lays 24 = .ok (.aload_n 0, 1) := by decide +kernel
theorem dX6_lays_25 : decode cX6_lays 25 = .ok (.getfield 19, 3) := by decide +kernel
theorem dX6_lays_28 : decode cX6_lays 28 = .ok (.iload_n 1, 1) := by decide +kernel
theorem dX6_lays_29 : decode cX6_lays 29 = .ok (.aload_n 0, 1) := by decide +kernel
theorem dX6_lays_30 : decode cX6_lays 30 = .ok (.getfield 19, 3) := by decide +kernel
theorem dX6_lays_33 : decode cX6_lays 33 = .ok (.iload_n 2, 1) := by decide +kernel
theorem dX6_lays_34 : decode cX6_lays 34 = .ok (.iaload, 1) := by decide +kernel
theorem dX6_lays_35 : decode cX6_lays 35 = .ok (.iastore, 1) := by decide +kernel
theorem dX6_lays_36 : decode cX6_lays 36 = .ok (.aload_n 0, 1) := by decide +kernel
theorem dX6_lays_37 : decode cX6_lays 37 = .ok (.getfield 22, 3) := by decide +kernel
theorem dX6_lays_40 : decode cX6_lays 40 = .ok (.iload_n 1, 1) := by decide +kernel
theorem dX6_lays_41 : decode cX6_lays 41 = .ok (.aload_n 0, 1) := by decide +kernel
theorem dX6_lays_42 : decode cX6_lays 42 = .ok (.getfield 22, 3) := by decide +kernel
theorem dX6_lays_45 : decode cX6_lays 45 = .ok (.iload_n 2, 1) := by decide +kernel
theorem dX6_lays_46 : decode cX6_lays 46 = .ok (.iaload, 1) := by decide +kernel
theorem dX6_lays_47 : decode cX6_lays 47 = .ok (.iastore, 1) := by decide +kernel
theorem dX6_lays_48 : decode cX6_lays 48 = .ok (.aload_n 0, 1) := by decide +kernel
theorem dX6_lays_49 : decode cX6_lays 49 = .ok (.getfield 25, 3) := by decide +kernel
theorem dX6_lays_52 : decode cX6_lays 52 = .ok (.iload_n 1, 1) := by decide +kernel
theorem dX6_lays_53 : decode cX6_lays 53 = .ok (.aload_n 0, 1) := by decide +kernel
theorem dX6_lays_54 : decode cX6_lays 54 = .ok (.getfield 25, 3) := by decide +kernel
theorem dX6_lays_57 : decode cX6_lays 57 = .ok (.iload_n 2, 1) := by decide +kernel
theorem dX6_lays_58 : decode cX6_lays 58 = .ok (.iaload, 1) := by decide +kernel
theorem dX6_lays_59 : decode cX6_lays 59 = .ok (.iastore, 1) := by decide +kernel
theorem dX6_lays_60 : decode cX6_lays 60 = .ok (.aload_n 0, 1) := by decide +kernel
theorem dX6_lays_61 : decode cX6_lays 61 = .ok (.getfield 28, 3) := by decide +kernel
theorem dX6_lays_64 : decode cX6_lays 64 = .ok (.iload_n 1, 1) := by decide +kernel
theorem dX6_lays_65 : decode cX6_lays 65 = .ok (.aload_n 0, 1) := by decide +kernel
theorem dX6_lays_66 : decode cX6_lays 66 = .ok (.getfield 28, 3) := by decide +kernel
theorem dX6_lays_69 : decode cX6_lays 69 = .ok (.iload_n 2, 1) := by decide +kernel
theorem dX6_lays_70 : decode cX6_lays 70 = .ok (.baload, 1) := by decide +kernel
theorem dX6_lays_71 : decode cX6_lays 71 = .ok (.bastore, 1) := by decide +kernel
theorem dX6_lays_72 : decode cX6_lays 72 = .ok (.aload_n 0, 1) := by decide +kernel
theorem dX6_lays_73 : decode cX6_lays 73 = .ok (.getfield 32, 3) := by decide +kernel
theorem dX6_lays_76 : decode cX6_lays 76 = .ok (.iload_n 1, 1) := by decide +kernel
theorem dX6_lays_77 : decode cX6_lays 77 = .ok (.aload_n 0, 1) := by decide +kernel
theorem dX6_lays_78 : decode cX6_lays 78 = .ok (.getfield 32, 3) := by decide +kernel
theorem dX6_lays_81 : decode cX6_lays 81 = .ok (.iload_n 2, 1) := by decide +kernel
theorem dX6_lays_82 : decode cX6_lays 82 = .ok (.iaload, 1) := by decide +kernel
theorem dX6_lays_83 : decode cX6_lays 83 = .ok (.iastore, 1) := by decide +kernel
theorem dX6_lays_84 : decode cX6_lays 84 = .ok (.iconst 0, 1) := by decide +kernel
theorem dX6_lays_85 : decode cX6_lays 85 = .ok (.istore_n 3, 1) := by decide +kernel
theorem dX6_lays_86 : decode cX6_lays 86 = .ok (.iload_n 3, 1) := by decide +kernel
theorem dX6_lays_87 : decode cX6_lays 87 = .ok (.iconst 2, 1) := by decide +kernel
theorem dX6_lays_88 : decode cX6_lays 88 = .ok (.if_icmp .ge 69, 3) := by decide +kernel
theorem dX6_lays_91 : decode cX6_lays 91 = .ok (.aload_n 0, 1) := by decide +kernel
theorem dX6_lays_92 : decode cX6_lays 92 = .ok (.getfield 35, 3) := by decide +kernel
theorem dX6_lays_95 : decode cX6_lays 95 = .ok (.iconst 2, 1) := by decide +kernel
theorem dX6_lays_96 : decode cX6_lays 96 = .ok (.iload_n 1, 1) := by decide +kernel
theorem dX6_lays_97 : decode cX6_lays 97 = .ok (.imul, 1) := by decide +kernel
theorem dX6_lays_98 : decode cX6_lays 98 = .ok (.iload_n 3, 1) := by decide +kernel
theorem dX6_lays_99 : decode cX6_lays 99 = .ok (.iadd, 1) := by decide +kernel
theorem dX6_lays_100 : decode cX6_lays 100 = .ok (.aload_n 0, 1) := by decide +kernel
theorem dX6_lays_101 : decode cX6_lays 101 = .ok (.getfield 35, 3) := by decide +kernel
theorem dX6_lays_104 : decode cX6_lays 104 = .ok (.iconst 2, 1) := by decide +kernel
theorem dX6_lays_105 : decode cX6_lays 105 = .ok (.iload_n 2, 1) := by decide +kernel
theorem dX6_lays_106 : decode cX6_lays 106 = .ok (.imul, 1) := by decide +kernel
theorem dX6_lays_107 : decode cX6_lays 107 = .ok (.iload_n 3, 1) := by decide +kernel
theorem dX6_lays_108 : decode cX6_lays 108 = .ok (.iadd, 1) := by decide +kernel
theorem dX6_lays_109 : decode cX6_lays 109 = .ok (.iaload, 1) := by decide +kernel
theorem dX6_lays_110 : decode cX6_lays 110 = .ok (.iastore, 1) := by decide +kernel
theorem dX6_lays_111 : decode cX6_lays 111 = .ok (.aload_n 0, 1) := by decide +kernel
theorem dX6_lays_112 : decode cX6_lays 112 = .ok (.getfield 38, 3) := by decide +kernel
theorem dX6_lays_115 : decode cX6_lays 115 = .ok (.iconst 2, 1) := by decide +kernel
theorem dX6_lays_116 : decode cX6_lays 116 = .ok (.iload_n 1, 1) := by decide +kernel
theorem dX6_lays_117 : decode cX6_lays 117 = .ok (.imul, 1) := by decide +kernel
theorem dX6_lays_118 : decode cX6_lays 118 = .ok (.iload_n 3, 1) := by decide +kernel
theorem dX6_lays_119 : decode cX6_lays 119 = .ok (.iadd, 1) := by decide +kernel
theorem dX6_lays_120 : decode cX6_lays 120 = .ok (.aload_n 0, 1) := by decide +kernel
theorem dX6_lays_121 : decode cX6_lays 121 = .ok (.getfield 38, 3) := by decide +kernel
theorem dX6_lays_124 : decode cX6_lays 124 = .ok (.iconst 2, 1) := by decide +kernel
theorem dX6_lays_125 : decode cX6_lays 125 = .ok (.iload_n 2, 1) := by decide +kernel
theorem dX6_lays_126 : decode cX6_lays 126 = .ok (.imul, 1) := by decide +kernel
theorem dX6_lays_127 : decode cX6_lays 127 = .ok (.iload_n 3, 1) := by decide +kernel
theorem dX6_lays_128 : decode cX6_lays 128 = .ok (.iadd, 1) := by decide +kernel
theorem dX6_lays_129 : decode cX6_lays 129 = .ok (.iaload, 1) := by decide +kernel
theorem dX6_lays_130 : decode cX6_lays 130 = .ok (.iastore, 1) := by decide +kernel
theorem dX6_lays_131 : decode cX6_lays 131 = .ok (.aload_n 0, 1) := by decide +kernel
theorem dX6_lays_132 : decode cX6_lays 132 = .ok (.getfield 41, 3) := by decide +kernel
theorem dX6_lays_135 : decode cX6_lays 135 = .ok (.iconst 2, 1) := by decide +kernel
theorem dX6_lays_136 : decode cX6_lays 136 = .ok (.iload_n 1, 1) := by decide +kernel
theorem dX6_lays_137 : decode cX6_lays 137 = .ok (.imul, 1) := by decide +kernel
theorem dX6_lays_138 : decode cX6_lays 138 = .ok (.iload_n 3, 1) := by decide +kernel
theorem dX6_lays_139 : decode cX6_lays 139 = .ok (.iadd, 1) := by decide +kernel
theorem dX6_lays_140 : decode cX6_lays 140 = .ok (.aload_n 0, 1) := by decide +kernel
theorem dX6_lays_141 : decode cX6_lays 141 = .ok (.getfield 41, 3) := by decide +kernel
theorem dX6_lays_144 : decode cX6_lays 144 = .ok (.iconst 2, 1) := by decide +kernel
theorem dX6_lays_145 : decode cX6_lays 145 = .ok (.iload_n 2, 1) := by decide +kernel
theorem dX6_lays_146 : decode cX6_lays 146 = .ok (.imul, 1) := by decide +kernel
theorem dX6_lays_147 : decode cX6_lays 147 = .ok (.iload_n 3, 1) := by decide +kernel
theorem dX6_lays_148 : decode cX6_lays 148 = .ok (.iadd, 1) := by decide +kernel
theorem dX6_lays_149 : decode cX6_lays 149 = .ok (.iaload, 1) := by decide +kernel
theorem dX6_lays_150 : decode cX6_lays 150 = .ok (.iastore, 1) := by decide +kernel
theorem dX6_lays_151 : decode cX6_lays 151 = .ok (.iinc 3 1, 3) := by decide +kernel
theorem dX6_lays_154 : decode cX6_lays 154 = .ok (.goto (-68), 3) := by decide +kernel
theorem dX6_lays_157 : decode cX6_lays 157 = .ok (.return_, 1) := by decide +kernel
theorem dX6_put_0 : decode cX6_put 0 = .ok (.iload_n 1, 1) := by decide +kernel
theorem dX6_put_1 : decode cX6_put 1 = .ok (.iconst 0, 1) := by decide +kernel
theorem dX6_put_2 : decode cX6_put 2 = .ok (.iconst 3, 1) := by decide +kernel
theorem dX6_put_3 : decode cX6_put 3 = .ok (.invokestatic 75, 3) := by decide +kernel
theorem dX6_put_6 : decode cX6_put 6 = .ok (.ifCond .eq 12, 3) := by decide +kernel
theorem dX6_put_9 : decode cX6_put 9 = .ok (.iload_n 2, 1) := by decide +kernel
theorem dX6_put_10 : decode cX6_put 10 = .ok (.iconst 0, 1) := by decide +kernel
theorem dX6_put_11 : decode cX6_put 11 = .ok (.iconst 1, 1) := by decide +kernel
theorem dX6_put_12 : decode cX6_put 12 = .ok (.invokestatic 75, 3) := by decide +kernel
theorem dX6_put_15 : decode cX6_put 15 = .ok (.ifCond .ne 9, 3) := by decide +kernel
theorem dX6_put_18 : decode cX6_put 18 = .ok (.aload_n 0, 1) := by decide +kernel
theorem dX6_put_19 : decode cX6_put 19 = .ok (.iconst 1, 1) := by decide +kernel
theorem dX6_put_20 : decode cX6_put 20 = .ok (.invokevirtual 93, 3) := by decide +kernel
theorem dX6_put_23 : decode cX6_put 23 = .ok (.ireturn, 1) := by decide +kernel
theorem dX6_put_24 : decode cX6_put 24 = .ok (.aload_n 0, 1) := by decide +kernel
theorem dX6_put_25 : decode cX6_put 25 = .ok (.iload_n 1, 1) := by decide +kernel
theorem dX6_put_26 : decode cX6_put 26 = .ok (.invokevirtual 96, 3) := by decide +kernel
theorem dX6_put_29 : decode cX6_put 29 = .ok (.istore 4, 2) := by decide +kernel
theorem dX6_put_31 : decode cX6_put 31 = .ok (.aload_n 0, 1) := by decide +kernel
theorem dX6_put_32 : decode cX6_put 32 = .ok (.iload_n 3, 1) := by decide +kernel
theorem dX6_put_33 : decode cX6_put 33 = .ok (.iconst 0, 1) := by decide +kernel
theorem dX6_put_34 : decode cX6_put 34 = .ok (.sipush 999, 3) := by decide +kernel
theorem dX6_put_37 : decode cX6_put 37 = .ok (.invokestatic 75, 3) := by decide +kernel
theorem dX6_put_40 : decode cX6_put 40 = .ok (.ifCond .ne 7, 3) := by decide +kernel
theorem dX6_put_43 : decode cX6_put 43 = .ok (.iconst 2, 1) := by decide +kernel
theorem dX6_put_44 : decode cX6_put 44 = .ok (.goto 32, 3) := by decide +kernel
theorem dX6_put_47 : decode cX6_put 47 = .ok (.aload_n 0, 1) := by decide +kernel
theorem dX6_put_48 : decode cX6_put 48 = .ok (.getfield 90, 3) := by decide +kernel
theorem dX6_put_51 : decode cX6_put 51 = .ok (.ifCond .eq 20, 3) := by decide +kernel
theorem dX6_put_54 : decode cX6_put 54 = .ok (.iload 4, 2) := by decide +kernel
theorem dX6_put_56 : decode cX6_put 56 = .ok (.iconst (-1), 1) := by decide +kernel
theorem dX6_put_57 : decode cX6_put 57 = .ok (.if_icmp .ne 18, 3) := by decide +kernel
theorem dX6_put_60 : decode cX6_put 60 = .ok (.aload_n 0, 1) := by decide +kernel
theorem dX6_put_61 : decode cX6_put 61 = .ok (.getfield 7, 3) := by decide +kernel
theorem dX6_put_64 : decode cX6_put 64 = .ok (.iload_n 1, 1) := by decide +kernel
theorem dX6_put_65 : decode cX6_put 65 = .ok (.iaload, 1) := by decide +kernel
theorem dX6_put_66 : decode cX6_put 66 = .ok (.bipush 20, 2) := by decide +kernel
theorem dX6_put_68 : decode cX6_put 68 = .ok (.if_icmp .ne 7, 3) := by decide +kernel
theorem dX6_put_71 : decode cX6_put 71 = .ok (.iconst 3, 1) := by decide +kernel
theorem dX6_put_72 : decode cX6_put 72 = .ok (.goto 4, 3) := by decide +kernel
theorem dX6_put_75 : decode cX6_put 75 = .ok (.iconst 0, 1) := by decide +kernel
theorem dX6_put_76 : decode cX6_put 76 = .ok (.putfield 71, 3) := by decide +kernel
theorem dX6_put_79 : decode cX6_put 79 = .ok (.aload_n 0, 1) := by decide +kernel
theorem dX6_put_80 : decode cX6_put 80 = .ok (.getfield 71, 3) := by decide +kernel
theorem dX6_put_83 : decode cX6_put 83 = .ok (.ifCond .le 5, 3) := by decide +kernel
theorem dX6_put_86 : decode cX6_put 86 = .ok (.iconst 0, 1) := by decide +kernel
theorem dX6_put_87 : decode cX6_put 87 = .ok (.ireturn, 1) := by decide +kernel
theorem dX6_put_88 : decode cX6_put 88 = .ok (.iload 4, 2) := by decide +kernel
theorem dX6_put_90 : decode cX6_put 90 = .ok (.iconst (-1), 1) := by decide +kernel
theorem dX6_put_91 : decode cX6_put 91 = .ok (.if_icmp .ne 7, 3) := by decide +kernel
theorem dX6_put_94 : decode cX6_put 94 = .ok (.iconst (-1), 1) := by decide +kernel
theorem dX6_put_95 : decode cX6_put 95 = .ok (.goto 10, 3) := by decide +kernel
theorem dX6_put_98 : decode cX6_put 98 = .ok (.aload_n 0, 1) := by decide +kernel
theorem dX6_put_99 : decode cX6_put 99 = .ok (.getfield 19, 3) := by decide +kernel
theorem dX6_put_102 : decode cX6_put 102 = .ok (.iload 4, 2) := by decide +kernel
theorem dX6_put_104 : decode cX6_put 104 = .ok (.iaload, 1) := by decide +kernel
theorem dX6_put_105 : decode cX6_put 105 = .ok (.istore 5, 2) := by decide +kernel
theorem dX6_put_107 : decode cX6_put 107 = .ok (.iload 4, 2) := by decide +kernel
theorem dX6_put_109 : decode cX6_put 109 = .ok (.iconst (-1), 1) := by decide +kernel
theorem dX6_put_110 : decode cX6_put 110 = .ok (.if_icmp .ne 26, 3) := by decide +kernel
theorem dX6_put_113 : decode cX6_put 113 = .ok (.bipush 20, 2) := by decide +kernel
theorem dX6_put_115 : decode cX6_put 115 = .ok (.iload_n 1, 1) := by decide +kernel
theorem dX6_put_116 : decode cX6_put 116 = .ok (.imul, 1) := by decide +kernel
theorem dX6_put_117 : decode cX6_put 117 = .ok (.aload_n 0, 1) := by decide +kernel
theorem dX6_put_118 : decode cX6_put 118 = .ok (.getfield 7, 3) := by decide +kernel
theorem dX6_put_121 : decode cX6_put 121 = .ok (.iload_n 1, 1) := by decide +kernel
theorem dX6_put_122 : decode cX6_put 122 = .ok (.iaload, 1) := by decide +kernel
theorem dX6_put_123 : decode cX6_put 123 = .ok (.iadd, 1) := by decide +kernel
theorem dX6_put_124 : decode cX6_put 124 = .ok (.istore 4, 2) := by decide +kernel
theorem dX6_put_126 : decode cX6_put 126 = .ok (.aload_n 0, 1) := by decide +kernel
theorem dX6_put_127 : decode cX6_put 127 = .ok (.getfield 7, 3) := by decide +kernel
theorem dX6_put_130 : decode cX6_put 130 = .ok (.iload_n 1, 1) := by decide +kernel
theorem dX6_put_131 : decode cX6_put 131 = .ok (.dup2, 1) := by decide +kernel
theorem dX6_put_132 : decode cX6_put 132 = .ok (.iaload, 1) := by decide +kernel
theorem dX6_put_133 : decode cX6_put 133 = .ok (.iconst 1, 1) := by decide +kernel
theorem dX6_put_134 : decode cX6_put 134 = .ok (.iadd, 1) := by decide +kernel
theorem dX6_put_135 : decode cX6_put 135 = .ok (.iastore, 1) := by decide +kernel
theorem dX6_put_136 : decode cX6_put 136 = .ok (.aload_n 0, 1) := by decide +kernel
theorem dX6_put_137 : decode cX6_put 137 = .ok (.getfield 13, 3) := by decide +kernel
theorem dX6_put_140 : decode cX6_put 140 = .ok (.iload 4, 2) := by decide +kernel
theorem dX6_put_142 : decode cX6_put 142 = .ok (.aload_n 0, 1) := by decide +kernel
theorem dX6_put_143 : decode cX6_put 143 = .ok (.getfield 90, 3) := by decide +kernel
theorem dX6_put_146 : decode cX6_put 146 = .ok (.iastore, 1) := by decide +kernel
theorem dX6_put_147 : decode cX6_put 147 = .ok (.aload_n 0, 1) := by decide +kernel
theorem dX6_put_148 : decode cX6_put 148 = .ok (.getfield 16, 3) := by decide +kernel
theorem dX6_put_151 : decode cX6_put 151 = .ok (.iload 4, 2) := by decide +kernel
theorem dX6_put_153 : decode cX6_put 153 = .ok (.iload_n 2, 1) := by decide +kernel
theorem dX6_put_154 : decode cX6_put 154 = .ok (.iastore, 1) := by decide +kernel
theorem dX6_put_155 : decode cX6_put 155 = .ok (.aload_n 0, 1) := by decide +kernel
theorem dX6_put_156 : decode cX6_put 156 = .ok (.getfield 19, 3) := by decide +kernel
theorem dX6_put_159 : decode cX6_put 159 = .ok (.iload 4, 2) := by decide +kernel
theorem dX6_put_161 : decode cX6_put 161 = .ok (.iload_n 3, 1) := by decide +kernel
theorem dX6_put_162 : decode cX6_put 162 = .ok (.iastore, 1) := by decide +kernel
theorem dX6_put_163 : decode cX6_put 163 = .ok (.aload_n 0, 1) := by decide +kernel
theorem dX6_put_164 : decode cX6_put 164 = .ok (.getfield 25, 3) := by decide +kernel
theorem dX6_put_167 : decode cX6_put 167 = .ok (.iload 4, 2) := by decide +kernel
theorem dX6_put_169 : decode cX6_put 169 = .ok (.iconst 0, 1) := by decide +kernel
theorem dX6_put_170 : decode cX6_put 170 = .ok (.iastore, 1) := by decide +kernel
theorem dX6_put_171 : decode cX6_put 171 = .ok (.aload_n 0, 1) := by decide +kernel
theorem dX6_put_172 : decode cX6_put 172 = .ok (.getfield 32, 3) := by decide +kernel
theorem dX6_put_175 : decode cX6_put 175 = .ok (.iload 4, 2) := by decide +kernel
theorem dX6_put_177 : decode cX6_put 177 = .ok (.iconst 0, 1) := by decide +kernel
theorem dX6_put_178 : decode cX6_put 178 = .ok (.iastore, 1) := by decide +kernel
theorem dX6_put_179 : decode cX6_put 179 = .ok (.iload 5, 2) := by decide +kernel
theorem dX6_put_181 : decode cX6_put 181 = .ok (.ireturn, 1) := by decide +kernel
theorem dX6_remove_0 : decode cX6_remove 0 = .ok (.aload_n 0, 1) := by decide +kernel
theorem dX6_remove_1 : decode cX6_remove 1 = .ok (.iload_n 1, 1) := by decide +kernel
theorem dX6_remove_2 : decode cX6_remove 2 = .ok (.invokevirtual 99, 3) := by decide +kernel
theorem dX6_remove_5 : decode cX6_remove 5 = .ok (.ifCond .eq 11, 3) := by decide +kernel
theorem dX6_remove_8 : decode cX6_remove 8 = .ok (.aload_n 0, 1) := by decide +kernel
theorem dX6_remove_9 : decode cX6_remove 9 = .ok (.iload_n 1, 1) := by decide +kernel
theorem dX6_remove_10 : decode cX6_remove 10 = .ok (.invokevirtual 96, 3) := by decide +kernel
theorem dX6_remove_13 : decode cX6_remove 13 = .ok (.goto 4, 3) := by decide +kernel
theorem dX6_remove_16 : decode cX6_remove 16 = .ok (.iconst (-1), 1) := by decide +kernel
theorem dX6_remove_17 : decode cX6_remove 17 = .ok (.istore_n 2, 1) := by decide +kernel
theorem dX6_remove_18 : decode cX6_remove 18 = .ok (.aload_n 0, 1) := by decide +kernel
theorem dX6_remove_19 : decode cX6_remove 19 = .ok (.getfield 71, 3) := by decide +kernel
theorem dX6_remove_22 : decode cX6_remove 22 = .ok (.ifCond .gt 8, 3) := by decide +kernel
theorem dX6_remove_25 : decode cX6_remove 25 = .ok (.iload_n 2, 1) := by decide +kernel
theorem dX6_remove_26 : decode cX6_remove 26 = .ok (.iconst (-1), 1) := by decide +kernel
theorem dX6_remove_27 : decode cX6_remove 27 = .ok (.if_icmp .ne 16, 3) := by decide +kernel
theorem dX6_remove_30 : decode cX6_remove 30 = .ok (.aload_n 0, 1) := by decide +kernel
theorem dX6_remove_31 : decode cX6_remove 31 = .ok (.getfield 71, 3) := by decide +kernel
theorem dX6_remove_34 : decode cX6_remove 34 = .ok (.ifCond .le 7, 3) := by decide +kernel
theorem dX6_remove_37 : decode cX6_remove 37 = .ok (.iconst 0, 1) := by decide +kernel
theorem dX6_remove_38 : decode cX6_remove 38 = .ok (.goto 4, 3) := by decide +kernel
theorem dX6_remove_41 : decode cX6_remove 41 = .ok (.iconst (-1), 1) := by decide +kernel
theorem dX6_remove_42 : decode cX6_remove 42 = .ok (.ireturn, 1) := by decide +kernel
theorem dX6_remove_43 : decode cX6_remove 43 = .ok (.aload_n 0, 1) := by decide +kernel
theorem dX6_remove_44 : decode cX6_remove 44 = .ok (.getfield 19, 3) := by decide +kernel
theorem dX6_remove_47 : decode cX6_remove 47 = .ok (.iload_n 2, 1) := by decide +kernel
theorem dX6_remove_48 : decode cX6_remove 48 = .ok (.iaload, 1) := by decide +kernel
theorem dX6_remove_49 : decode cX6_remove 49 = .ok (.istore_n 3, 1) := by decide +kernel
theorem dX6_remove_50 : decode cX6_remove 50 = .ok (.aload_n 0, 1) := by decide +kernel
theorem dX6_remove_51 : decode cX6_remove 51 = .ok (.getfield 7, 3) := by decide +kernel
theorem dX6_remove_54 : decode cX6_remove 54 = .ok (.iload_n 1, 1) := by decide +kernel
theorem dX6_remove_55 : decode cX6_remove 55 = .ok (.dup2, 1) := by decide +kernel
theorem dX6_remove_56 : decode cX6_remove 56 = .ok (.iaload, 1) := by decide +kernel
theorem dX6_remove_57 : decode cX6_remove 57 = .ok (.iconst 1, 1) := by decide +kernel
theorem dX6_remove_58 : decode cX6_remove 58 = .ok (.isub, 1) := by decide +kernel
theorem dX6_remove_59 : decode cX6_remove 59 = .ok (.iastore, 1) := by decide +kernel
theorem dX6_remove_60 : decode cX6_remove 60 = .ok (.aload_n 0, 1) := by decide +kernel
theorem dX6_remove_61 : decode cX6_remove 61 = .ok (.iload_n 2, 1) := by decide +kernel
theorem dX6_remove_62 : decode cX6_remove 62 = .ok (.bipush 20, 2) := by decide +kernel
theorem dX6_remove_64 : decode cX6_remove 64 = .ok (.iload_n 1, 1) := by decide +kernel
theorem dX6_remove_65 : decode cX6_remove 65 = .ok (.imul, 1) := by decide +kernel
theorem dX6_remove_66 : decode cX6_remove 66 = .ok (.aload_n 0, 1) := by decide +kernel
theorem dX6_remove_67 : decode cX6_remove 67 = .ok (.getfield 7, 3) := by decide +kernel
theorem dX6_remove_70 : decode cX6_remove 70 = .ok (.iload_n 1, 1) := by decide +kernel
theorem dX6_remove_71 : decode cX6_remove 71 = .ok (.iaload, 1) := by decide +kernel
theorem dX6_remove_72 : decode cX6_remove 72 = .ok (.iadd, 1) := by decide +kernel
theorem dX6_remove_73 : decode cX6_remove 73 = .ok (.invokevirtual 103, 3) := by decide +kernel
theorem dX6_remove_76 : decode cX6_remove 76 = .ok (.iload_n 3, 1) := by decide +kernel
theorem dX6_remove_77 : decode cX6_remove 77 = .ok (.ireturn, 1) := by decide +kernel
theorem dX6_latestTrap_0 : decode cX6_latestTrap 0 = .ok (.iconst (-1), 1) := by decide +kernel
theorem dX6_latestTrap_1 : decode cX6_latestTrap 1 = .ok (.istore_n 3, 1) := by decide +kernel
theorem dX6_latestTrap_2 : decode cX6_latestTrap 2 = .ok (.iconst 0, 1) := by decide +kernel
theorem dX6_latestTrap_3 : decode cX6_latestTrap 3 = .ok (.istore 4, 2) := by decide +kernel
theorem dX6_latestTrap_5 : decode cX6_latestTrap 5 = .ok (.iload 4, 2) := by decide +kernel
theorem dX6_latestTrap_7 : decode cX6_latestTrap 7 = .ok (.aload_n 0, 1) := by decide +kernel
theorem dX6_latestTrap_8 : decode cX6_latestTrap 8 = .ok (.getfield 107, 3) := by decide +kernel
theorem dX6_latestTrap_11 : decode cX6_latestTrap 11 = .ok (.if_icmp .ge 38, 3) := by decide +kernel
theorem dX6_latestTrap_14 : decode cX6_latestTrap 14 = .ok (.aload_n 0, 1) := by decide +kernel
theorem dX6_latestTrap_15 : decode cX6_latestTrap 15 = .ok (.getfield 56, 3) := by decide +kernel
theorem dX6_latestTrap_18 : decode cX6_latestTrap 18 = .ok (.iload 4, 2) := by decide +kernel
theorem dX6_latestTrap_20 : decode cX6_latestTrap 20 = .ok (.iaload, 1) := by decide +kernel
theorem dX6_latestTrap_21 : decode cX6_latestTrap 21 = .ok (.iload_n 1, 1) := by decide +kernel
theorem dX6_latestTrap_22 : decode cX6_latestTrap 22 = .ok (.if_icmp .ne 19, 3) := by decide +kernel
theorem dX6_latestTrap_25 : decode cX6_latestTrap 25 = .ok (.aload_n 0, 1) := by decide +kernel
theorem dX6_latestTrap_26 : decode cX6_latestTrap 26 = .ok (.getfield 59, 3) := by decide +kernel
theorem dX6_latestTrap_29 : decode cX6_latestTrap 29 = .ok (.iload 4, 2) := by decide +kernel
theorem dX6_latestTrap_31 : decode cX6_latestTrap 31 = .ok (.iaload, 1) := by decide +kernel
theorem dX6_latestTrap_32 : decode cX6_latestTrap 32 = .ok (.iload_n 2, 1) := by decide +kernel
theorem dX6_latestTrap_33 : decode cX6_latestTrap 33 = .ok (.if_icmp .ne 8, 3) := by decide +kernel
theorem dX6_latestTrap_36 : decode cX6_latestTrap 36 = .ok (.iload 4, 2) := by decide +kernel
theorem dX6_latestTrap_38 : decode cX6_latestTrap 38 = .ok (.goto 4, 3) := by decide +kernel
theorem dX6_latestTrap_41 : decode cX6_latestTrap 41 = .ok (.iload_n 3, 1) := by decide +kernel
theorem dX6_latestTrap_42 : decode cX6_latestTrap 42 = .ok (.istore_n 3, 1) := by decide +kernel
theorem dX6_latestTrap_43 : decode cX6_latestTrap 43 = .ok (.iinc 4 1, 3) := by decide +kernel
theorem dX6_latestTrap_46 : decode cX6_latestTrap 46 = .ok (.goto (-41), 3) := by decide +kernel
theorem dX6_latestTrap_49 : decode cX6_latestTrap 49 = .ok (.iload_n 3, 1) := by decide +kernel
theorem dX6_latestTrap_50 : decode cX6_latestTrap 50 = .ok (.ireturn, 1) := by decide +kernel
theorem dX6_sends_0 : decode cX6_sends 0 = .ok (.aload_n 0, 1) := by decide +kernel
theorem dX6_sends_1 : decode cX6_sends 1 = .ok (.iload_n 1, 1) := by decide +kernel
theorem dX6_sends_2 : decode cX6_sends 2 = .ok (.iload_n 2, 1) := by decide +kernel
theorem dX6_sends_3 : decode cX6_sends 3 = .ok (.invokevirtual 110, 3) := by decide +kernel
theorem dX6_sends_6 : decode cX6_sends 6 = .ok (.istore_n 3, 1) := by decide +kernel
theorem dX6_sends_7 : decode cX6_sends 7 = .ok (.iload_n 3, 1) := by decide +kernel
theorem dX6_sends_8 : decode cX6_sends 8 = .ok (.iconst (-1), 1) := by decide +kernel
theorem dX6_sends_9 : decode cX6_sends 9 = .ok (.if_icmp .eq 30, 3) := by decide +kernel
theorem dX6_sends_12 : decode cX6_sends 12 = .ok (.aload_n 0, 1) := by decide +kernel
theorem dX6_sends_13 : decode cX6_sends 13 = .ok (.getfield 113, 3) := by decide +kernel
theorem dX6_sends_16 : decode cX6_sends 16 = .ok (.aload_n 0, 1) := by decide +kernel
theorem dX6_sends_17 : decode cX6_sends 17 = .ok (.getfield 62, 3) := by decide +kernel
theorem dX6_sends_20 : decode cX6_sends 20 = .ok (.iload_n 3, 1) := by decide +kernel
theorem dX6_sends_21 : decode cX6_sends 21 = .ok (.iaload, 1) := by decide +kernel
theorem dX6_sends_22 : decode cX6_sends 22 = .ok (.isub, 1) := by decide +kernel
theorem dX6_sends_23 : decode cX6_sends 23 = .ok (.bipush 10, 2) := by decide +kernel
theorem dX6_sends_25 : decode cX6_sends 25 = .ok (.if_icmp .ge 14, 3) := by decide +kernel
theorem dX6_sends_28 : decode cX6_sends 28 = .ok (.aload_n 0, 1) := by decide +kernel
theorem dX6_sends_29 : decode cX6_sends 29 = .ok (.getfield 65, 3) := by decide +kernel
theorem dX6_sends_32 : decode cX6_sends 32 = .ok (.iload_n 3, 1) := by decide +kernel
theorem dX6_sends_33 : decode cX6_sends 33 = .ok (.dup2, 1) := by decide +kernel
theorem dX6_sends_34 : decode cX6_sends 34 = .ok (.iaload, 1) := by decide +kernel
theorem dX6_sends_35 : decode cX6_sends 35 = .ok (.iconst 1, 1) := by decide +kernel
theorem dX6_sends_36 : decode cX6_sends 36 = .ok (.iadd, 1) := by decide +kernel
theorem dX6_sends_37 : decode cX6_sends 37 = .ok (.iastore, 1) := by decide +kernel
theorem dX6_sends_38 : decode cX6_sends 38 = .ok (.return_, 1) := by decide +kernel
theorem dX6_sends_39 : decode cX6_sends 39 = .ok (.aload_n 0, 1) := by decide +kernel
theorem dX6_sends_40 : decode cX6_sends 40 = .ok (.getfield 56, 3) := by decide +kernel
theorem dX6_sends_43 : decode cX6_sends 43 = .ok (.aload_n 0, 1) := by decide +kernel
theorem dX6_sends_44 : decode cX6_sends 44 = .ok (.getfield 107, 3) := by decide +kernel
theorem dX6_sends_47 : decode cX6_sends 47 = .ok (.iload_n 1, 1) := by decide +kernel
theorem dX6_sends_48 : decode cX6_sends 48 = .ok (.iastore, 1) := by decide +kernel
theorem dX6_sends_49 : decode cX6_sends 49 = .ok (.aload_n 0, 1) := by decide +kernel
theorem dX6_sends_50 : decode cX6_sends 50 = .ok (.getfield 59, 3) := by decide +kernel
theorem dX6_sends_53 : decode cX6_sends 53 = .ok (.aload_n 0, 1) := by decide +kernel
theorem dX6_sends_54 : decode cX6_sends 54 = .ok (.getfield 107, 3) := by decide +kernel
theorem dX6_sends_57 : decode cX6_sends 57 = .ok (.iload_n 2, 1) := by decide +kernel
theorem dX6_sends_58 : decode cX6_sends 58 = .ok (.iastore, 1) := by decide +kernel
theorem dX6_sends_59 : decode cX6_sends 59 = .ok (.aload_n 0, 1) := by decide +kernel
theorem dX6_sends_60 : decode cX6_sends 60 = .ok (.getfield 62, 3) := by decide +kernel
theorem dX6_sends_63 : decode cX6_sends 63 = .ok (.aload_n 0, 1) := by decide +kernel
theorem dX6_sends_64 : decode cX6_sends 64 = .ok (.getfield 107, 3) := by decide +kernel
theorem dX6_sends_67 : decode cX6_sends 67 = .ok (.aload_n 0, 1) := by decide +kernel
theorem dX6_sends_68 : decode cX6_sends 68 = .ok (.getfield 113, 3) := by decide +kernel
theorem dX6_sends_71 : decode cX6_sends 71 = .ok (.iastore, 1) := by decide +kernel
theorem dX6_sends_72 : decode cX6_sends 72 = .ok (.aload_n 0, 1) := by decide +kernel
theorem dX6_sends_73 : decode cX6_sends 73 = .ok (.dup, 1) := by decide +kernel
theorem dX6_sends_74 : decode cX6_sends 74 = .ok (.getfield 107, 3) := by decide +kernel
theorem dX6_sends_77 : decode cX6_sends 77 = .ok (.iconst 1, 1) := by decide +kernel
theorem dX6_sends_78 : decode cX6_sends 78 = .ok (.iadd, 1) := by decide +kernel
theorem dX6_sends_79 : decode cX6_sends 79 = .ok (.putfield 107, 3) := by decide +kernel
theorem dX6_sends_82 : decode cX6_sends 82 = .ok (.return_, 1) := by decide +kernel
theorem dX6_has_0 : decode cX6_has 0 = .ok (.aload_n 0, 1) := by decide +kernel
theorem dX6_has_1 : decode cX6_has 1 = .ok (.getfield 19, 3) := by decide +kernel
theorem dX6_has_4 : decode cX6_has 4 = .ok (.iload_n 2, 1) := by decide +kernel
theorem dX6_has_5 : decode cX6_has 5 = .ok (.iload_n 3, 1) := by decide +kernel
theorem dX6_has_6 : decode cX6_has 6 = .ok (.iastore, 1) := by decide +kernel
theorem dX6_has_7 : decode cX6_has 7 = .ok (.aload_n 0, 1) := by decide +kernel
theorem dX6_has_8 : decode cX6_has 8 = .ok (.getfield 25, 3) := by decide +kernel
theorem dX6_has_11 : decode cX6_has 11 = .ok (.iload_n 2, 1) := by decide +kernel
theorem dX6_has_12 : decode cX6_has 12 = .ok (.iaload, 1) := by decide +kernel
theorem dX6_has_13 : decode cX6_has 13 = .ok (.ifCond .le 43, 3) := by decide +kernel
theorem dX6_has_16 : decode cX6_has 16 = .ok (.aload_n 0, 1) := by decide +kernel
theorem dX6_has_17 : decode cX6_has 17 = .ok (.getfield 28, 3) := by decide +kernel
theorem dX6_has_20 : decode cX6_has 20 = .ok (.iload_n 2, 1) := by decide +kernel
theorem dX6_has_21 : decode cX6_has 21 = .ok (.baload, 1) := by decide +kernel
theorem dX6_has_22 : decode cX6_has 22 = .ok (.ifCond .eq 34, 3) := by decide +kernel
theorem dX6_has_25 : decode cX6_has 25 = .ok (.iload_n 3, 1) := by decide +kernel
theorem dX6_has_26 : decode cX6_has 26 = .ok (.aload_n 0, 1) := by decide +kernel
theorem dX6_has_27 : decode cX6_has 27 = .ok (.getfield 25, 3) := by decide +kernel
theorem dX6_has_30 : decode cX6_has 30 = .ok (.iload_n 2, 1) := by decide +kernel
theorem dX6_has_31 : decode cX6_has 31 = .ok (.iaload, 1) := by decide +kernel
theorem dX6_has_32 : decode cX6_has 32 = .ok (.if_icmp .lt 24, 3) := by decide +kernel
theorem dX6_has_35 : decode cX6_has 35 = .ok (.aload_n 0, 1) := by decide +kernel
theorem dX6_has_36 : decode cX6_has 36 = .ok (.getfield 28, 3) := by decide +kernel
theorem dX6_has_39 : decode cX6_has 39 = .ok (.iload_n 2, 1) := by decide +kernel
theorem dX6_has_40 : decode cX6_has 40 = .ok (.iconst 0, 1) := by decide +kernel
theorem dX6_has_41 : decode cX6_has 41 = .ok (.bastore, 1) := by decide +kernel
theorem dX6_has_42 : decode cX6_has 42 = .ok (.aload_n 0, 1) := by decide +kernel
theorem dX6_has_43 : decode cX6_has 43 = .ok (.iload_n 1, 1) := by decide +kernel
theorem dX6_has_44 : decode cX6_has 44 = .ok (.aload_n 0, 1) := by decide +kernel
theorem dX6_has_45 : decode cX6_has 45 = .ok (.getfield 13, 3) := by decide +kernel
theorem dX6_has_48 : decode cX6_has 48 = .ok (.iload_n 2, 1) := by decide +kernel
theorem dX6_has_49 : decode cX6_has 49 = .ok (.iaload, 1) := by decide +kernel
theorem dX6_has_50 : decode cX6_has 50 = .ok (.invokevirtual 116, 3) := by decide +kernel
theorem dX6_has_53 : decode cX6_has 53 = .ok (.goto 38, 3) := by decide +kernel
theorem dX6_has_56 : decode cX6_has 56 = .ok (.aload_n 0, 1) := by decide +kernel
theorem dX6_has_57 : decode cX6_has 57 = .ok (.getfield 25, 3) := by decide +kernel
theorem dX6_has_60 : decode cX6_has 60 = .ok (.iload_n 2, 1) := by decide +kernel
theorem dX6_has_61 : decode cX6_has 61 = .ok (.iaload, 1) := by decide +kernel
theorem dX6_has_62 : decode cX6_has 62 = .ok (.ifCond .le 29, 3) := by decide +kernel
theorem dX6_has_65 : decode cX6_has 65 = .ok (.aload_n 0, 1) := by decide +kernel
theorem dX6_has_66 : decode cX6_has 66 = .ok (.getfield 28, 3) := by decide +kernel
theorem dX6_has_69 : decode cX6_has 69 = .ok (.iload_n 2, 1) := by decide +kernel
theorem dX6_has_70 : decode cX6_has 70 = .ok (.baload, 1) := by decide +kernel
theorem dX6_has_71 : decode cX6_has 71 = .ok (.ifCond .ne 20, 3) := by decide +kernel
theorem dX6_has_74 : decode cX6_has 74 = .ok (.iload_n 3, 1) := by decide +kernel
theorem dX6_has_75 : decode cX6_has 75 = .ok (.aload_n 0, 1) := by decide +kernel
theorem dX6_has_76 : decode cX6_has 76 = .ok (.getfield 22, 3) := by decide +kernel
theorem dX6_has_79 : decode cX6_has 79 = .ok (.iload_n 2, 1) := by decide +kernel
theorem dX6_has_80 : decode cX6_has 80 = .ok (.iaload, 1) := by decide +kernel
theorem dX6_has_81 : decode cX6_has 81 = .ok (.if_icmp .gt 10, 3) := by decide +kernel
theorem dX6_has_84 : decode cX6_has 84 = .ok (.aload_n 0, 1) := by decide +kernel
theorem dX6_has_85 : decode cX6_has 85 = .ok (.getfield 28, 3) := by decide +kernel
theorem dX6_has_88 : decode cX6_has 88 = .ok (.iload_n 2, 1) := by decide +kernel
theorem dX6_has_89 : decode cX6_has 89 = .ok (.iconst 1, 1) := by decide +kernel
theorem dX6_has_90 : decode cX6_has 90 = .ok (.bastore, 1) := by decide +kernel
theorem dX6_has_91 : decode cX6_has 91 = .ok (.return_, 1) := by decide +kernel
theorem dX6_change_0 : decode cX6_change 0 = .ok (.aload_n 0, 1) := by decide +kernel
theorem dX6_change_1 : decode cX6_change 1 = .ok (.iload_n 1, 1) := by decide +kernel
theorem dX6_change_2 : decode cX6_change 2 = .ok (.invokevirtual 99, 3) := by decide +kernel
theorem dX6_change_5 : decode cX6_change 5 = .ok (.ifCond .eq 11, 3) := by decide +kernel
theorem dX6_change_8 : decode cX6_change 8 = .ok (.aload_n 0, 1) := by decide +kernel
theorem dX6_change_9 : decode cX6_change 9 = .ok (.iload_n 1, 1) := by decide +kernel
theorem dX6_change_10 : decode cX6_change 10 = .ok (.invokevirtual 96, 3) := by decide +kernel
theorem dX6_change_13 : decode cX6_change 13 = .ok (.goto 4, 3) := by decide +kernel
theorem dX6_change_16 : decode cX6_change 16 = .ok (.iconst (-1), 1) := by decide +kernel
theorem dX6_change_17 : decode cX6_change 17 = .ok (.istore_n 3, 1) := by decide +kernel
theorem dX6_change_18 : decode cX6_change 18 = .ok (.aload_n 0, 1) := by decide +kernel
theorem dX6_change_19 : decode cX6_change 19 = .ok (.aload_n 0, 1) := by decide +kernel
theorem dX6_change_20 : decode cX6_change 20 = .ok (.getfield 71, 3) := by decide +kernel
theorem dX6_change_23 : decode cX6_change 23 = .ok (.ifCond .le 7, 3) := by decide +kernel
theorem dX6_change_26 : decode cX6_change 26 = .ok (.iconst 1, 1) := by decide +kernel
theorem dX6_change_27 : decode cX6_change 27 = .ok (.goto 28, 3) := by decide +kernel
theorem dX6_change_30 : decode cX6_change 30 = .ok (.iload_n 2, 1) := by decide +kernel
theorem dX6_change_31 : decode cX6_change 31 = .ok (.iconst 0, 1) := by decide +kernel
theorem dX6_change_32 : decode cX6_change 32 = .ok (.sipush 999, 3) := by decide +kernel
theorem dX6_change_35 : decode cX6_change 35 = .ok (.invokestatic 75, 3) := by decide +kernel
theorem dX6_change_38 : decode cX6_change 38 = .ok (.ifCond .ne 7, 3) := by decide +kernel
theorem dX6_change_41 : decode cX6_change 41 = .ok (.iconst 2, 1) := by decide +kernel
theorem dX6_change_42 : decode cX6_change 42 = .ok (.goto 13, 3) := by decide +kernel
theorem dX6_change_45 : decode cX6_change 45 = .ok (.iload_n 3, 1) := by decide +kernel
theorem dX6_change_46 : decode cX6_change 46 = .ok (.iconst (-1), 1) := by decide +kernel
theorem dX6_change_47 : decode cX6_change 47 = .ok (.if_icmp .ne 7, 3) := by decide +kernel
theorem dX6_change_50 : decode cX6_change 50 = .ok (.iconst 3, 1) := by decide +kernel
theorem dX6_change_51 : decode cX6_change 51 = .ok (.goto 4, 3) := by decide +kernel
theorem dX6_change_54 : decode cX6_change 54 = .ok (.iconst 0, 1) := by decide +kernel
theorem dX6_change_55 : decode cX6_change 55 = .ok (.putfield 71, 3) := by decide +kernel
theorem dX6_change_58 : decode cX6_change 58 = .ok (.aload_n 0, 1) := by decide +kernel
theorem dX6_change_59 : decode cX6_change 59 = .ok (.getfield 71, 3) := by decide +kernel
theorem dX6_change_62 : decode cX6_change 62 = .ok (.ifCond .le 5, 3) := by decide +kernel
theorem dX6_change_65 : decode cX6_change 65 = .ok (.iconst 0, 1) := by decide +kernel
theorem dX6_change_66 : decode cX6_change 66 = .ok (.ireturn, 1) := by decide +kernel
theorem dX6_change_67 : decode cX6_change 67 = .ok (.aload_n 0, 1) := by decide +kernel
theorem dX6_change_68 : decode cX6_change 68 = .ok (.iload_n 1, 1) := by decide +kernel
theorem dX6_change_69 : decode cX6_change 69 = .ok (.iload_n 3, 1) := by decide +kernel
theorem dX6_change_70 : decode cX6_change 70 = .ok (.aload_n 0, 1) := by decide +kernel
theorem dX6_change_71 : decode cX6_change 71 = .ok (.getfield 16, 3) := by decide +kernel
theorem dX6_change_74 : decode cX6_change 74 = .ok (.iload_n 3, 1) := by decide +kernel
theorem dX6_change_75 : decode cX6_change 75 = .ok (.iaload, 1) := by decide +kernel
theorem dX6_change_76 : decode cX6_change 76 = .ok (.iconst 1, 1) := by decide +kernel
theorem dX6_change_77 : decode cX6_change 77 = .ok (.if_icmp .ne 18, 3) := by decide +kernel
theorem dX6_change_80 : decode cX6_change 80 = .ok (.aload_n 0, 1) := by decide +kernel
theorem dX6_change_81 : decode cX6_change 81 = .ok (.getfield 19, 3) := by decide +kernel
theorem dX6_change_84 : decode cX6_change 84 = .ok (.iload_n 3, 1) := by decide +kernel
theorem dX6_change_85 : decode cX6_change 85 = .ok (.iaload, 1) := by decide +kernel
theorem dX6_change_86 : decode cX6_change 86 = .ok (.iload_n 2, 1) := by decide +kernel
theorem dX6_change_87 : decode cX6_change 87 = .ok (.iadd, 1) := by decide +kernel
theorem dX6_change_88 : decode cX6_change 88 = .ok (.sipush 1000, 3) := by decide +kernel
theorem dX6_change_91 : decode cX6_change 91 = .ok (.irem, 1) := by decide +kernel
theorem dX6_change_92 : decode cX6_change 92 = .ok (.goto 4, 3) := by decide +kernel
theorem dX6_change_95 : decode cX6_change 95 = .ok (.iload_n 2, 1) := by decide +kernel
theorem dX6_change_96 : decode cX6_change 96 = .ok (.invokevirtual 119, 3) := by decide +kernel
theorem dX6_change_99 : decode cX6_change 99 = .ok (.aload_n 0, 1) := by decide +kernel
theorem dX6_change_100 : decode cX6_change 100 = .ok (.getfield 19, 3) := by decide +kernel
theorem dX6_change_103 : decode cX6_change 103 = .ok (.iload_n 3, 1) := by decide +kernel
theorem dX6_change_104 : decode cX6_change 104 = .ok (.iaload, 1) := by decide +kernel
theorem dX6_change_105 : decode cX6_change 105 = .ok (.ireturn, 1) := by decide +kernel
theorem dX6_isHidden_0 : decode cX6_isHidden 0 = .ok (.iconst (-1), 1) := by decide +kernel
theorem dX6_isHidden_1 : decode cX6_isHidden 1 = .ok (.istore_n 3, 1) := by decide +kernel
theorem dX6_isHidden_2 : decode cX6_isHidden 2 = .ok (.iconst 0, 1) := by decide +kernel
theorem dX6_isHidden_3 : decode cX6_isHidden 3 = .ok (.istore 4, 2) := by decide +kernel
theorem dX6_isHidden_5 : decode cX6_isHidden 5 = .ok (.bipush 10, 2) := by decide +kernel
theorem dX6_isHidden_7 : decode cX6_isHidden 7 = .ok (.iload_n 1, 1) := by decide +kernel
theorem dX6_isHidden_8 : decode cX6_isHidden 8 = .ok (.imul, 1) := by decide +kernel
theorem dX6_isHidden_9 : decode cX6_isHidden 9 = .ok (.istore 5, 2) := by decide +kernel
theorem dX6_isHidden_11 : decode cX6_isHidden 11 = .ok (.iload 5, 2) := by decide +kernel
theorem dX6_isHidden_13 : decode cX6_isHidden 13 = .ok (.bipush 10, 2) := by decide +kernel
theorem dX6_isHidden_15 : decode cX6_isHidden 15 = .ok (.iload_n 1, 1) := by decide +kernel
theorem dX6_isHidden_16 : decode cX6_isHidden 16 = .ok (.imul, 1) := by decide +kernel
theorem dX6_isHidden_17 : decode cX6_isHidden 17 = .ok (.aload_n 0, 1) := by decide +kernel
theorem dX6_isHidden_18 : decode cX6_isHidden 18 = .ok (.getfield 47, 3) := by decide +kernel
theorem dX6_isHidden_21 : decode cX6_isHidden 21 = .ok (.iload_n 1, 1) := by decide +kernel
theorem dX6_isHidden_22 : decode cX6_isHidden 22 = .ok (.iaload, 1) := by decide +kernel
theorem dX6_isHidden_23 : decode cX6_isHidden 23 = .ok (.iadd, 1) := by decide +kernel
theorem dX6_isHidden_24 : decode cX6_isHidden 24 = .ok (.if_icmp .ge 66, 3) := by decide +kernel
theorem dX6_isHidden_27 : decode cX6_isHidden 27 = .ok (.aload_n 0, 1) := by decide +kernel
theorem dX6_isHidden_28 : decode cX6_isHidden 28 = .ok (.getfield 50, 3) := by decide +kernel
theorem dX6_isHidden_31 : decode cX6_isHidden 31 = .ok (.iload 5, 2) := by decide +kernel
theorem dX6_isHidden_33 : decode cX6_isHidden 33 = .ok (.iaload, 1) := by decide +kernel
theorem dX6_isHidden_34 : decode cX6_isHidden 34 = .ok (.iload_n 2, 1) := by decide +kernel
theorem dX6_isHidden_35 : decode cX6_isHidden 35 = .ok (.invokestatic 123, 3) := by decide +kernel
theorem dX6_isHidden_38 : decode cX6_isHidden 38 = .ok (.ifCond .eq 46, 3) := by decide +kernel
theorem dX6_isHidden_41 : decode cX6_isHidden 41 = .ok (.aload_n 0, 1) := by decide +kernel
theorem dX6_isHidden_42 : decode cX6_isHidden 42 = .ok (.getfield 50, 3) := by decide +kernel
theorem dX6_isHidden_45 : decode cX6_isHidden 45 = .ok (.iload 5, 2) := by decide +kernel
theorem dX6_isHidden_47 : decode cX6_isHidden 47 = .ok (.iaload, 1) := by decide +kernel
theorem dX6_isHidden_48 : decode cX6_isHidden 48 = .ok (.invokestatic 87, 3) := by decide +kernel
theorem dX6_isHidden_51 : decode cX6_isHidden 51 = .ok (.iload_n 3, 1) := by decide +kernel
theorem dX6_isHidden_52 : decode cX6_isHidden 52 = .ok (.if_icmp .le 32, 3) := by decide +kernel
theorem dX6_isHidden_55 : decode cX6_isHidden 55 = .ok (.aload_n 0, 1) := by decide +kernel
theorem dX6_isHidden_56 : decode cX6_isHidden 56 = .ok (.getfield 50, 3) := by decide +kernel
theorem dX6_isHidden_59 : decode cX6_isHidden 59 = .ok (.iload 5, 2) := by decide +kernel
theorem dX6_isHidden_61 : decode cX6_isHidden 61 = .ok (.iaload, 1) := by decide +kernel
theorem dX6_isHidden_62 : decode cX6_isHidden 62 = .ok (.invokestatic 87, 3) := by decide +kernel
theorem dX6_isHidden_65 : decode cX6_isHidden 65 = .ok (.istore_n 3, 1) := by decide +kernel
theorem dX6_isHidden_66 : decode cX6_isHidden 66 = .ok (.aload_n 0, 1) := by decide +kernel
theorem dX6_isHidden_67 : decode cX6_isHidden 67 = .ok (.getfield 53, 3) := by decide +kernel
theorem dX6_isHidden_70 : decode cX6_isHidden 70 = .ok (.iload 5, 2) := by decide +kernel
theorem dX6_isHidden_72 : decode cX6_isHidden 72 = .ok (.iaload, 1) := by decide +kernel
theorem dX6_isHidden_73 : decode cX6_isHidden 73 = .ok (.iconst 1, 1) := by decide +kernel
theorem dX6_isHidden_74 : decode cX6_isHidden 74 = .ok (.if_icmp .ne 7, 3) := by decide +kernel
theorem dX6_isHidden_77 : decode cX6_isHidden 77 = .ok (.iconst 1, 1) := by decide +kernel
theorem dX6_isHidden_78 : decode cX6_isHidden 78 = .ok (.goto 4, 3) := by decide +kernel
theorem dX6_isHidden_81 : decode cX6_isHidden 81 = .ok (.iconst 0, 1) := by decide +kernel
theorem dX6_isHidden_82 : decode cX6_isHidden 82 = .ok (.istore 4, 2) := by decide +kernel
theorem dX6_isHidden_84 : decode cX6_isHidden 84 = .ok (.iinc 5 1, 3) := by decide +kernel
theorem dX6_isHidden_87 : decode cX6_isHidden 87 = .ok (.goto (-76), 3) := by decide +kernel
theorem dX6_isHidden_90 : decode cX6_isHidden 90 = .ok (.iload 4, 2) := by decide +kernel
theorem dX6_isHidden_92 : decode cX6_isHidden 92 = .ok (.ireturn, 1) := by decide +kernel
theorem dX6_get_0 : decode cX6_get 0 = .ok (.aload_n 0, 1) := by decide +kernel
theorem dX6_get_1 : decode cX6_get 1 = .ok (.iload_n 1, 1) := by decide +kernel
theorem dX6_get_2 : decode cX6_get 2 = .ok (.invokevirtual 99, 3) := by decide +kernel
theorem dX6_get_5 : decode cX6_get 5 = .ok (.ifCond .eq 11, 3) := by decide +kernel
theorem dX6_get_8 : decode cX6_get 8 = .ok (.aload_n 0, 1) := by decide +kernel
theorem dX6_get_9 : decode cX6_get 9 = .ok (.iload_n 1, 1) := by decide +kernel
theorem dX6_get_10 : decode cX6_get 10 = .ok (.invokevirtual 96, 3) := by decide +kernel
theorem dX6_get_13 : decode cX6_get 13 = .ok (.goto 4, 3) := by decide +kernel
theorem dX6_get_16 : decode cX6_get 16 = .ok (.iconst (-1), 1) := by decide +kernel
theorem dX6_get_17 : decode cX6_get 17 = .ok (.istore_n 2, 1) := by decide +kernel
theorem dX6_get_18 : decode cX6_get 18 = .ok (.aload_n 0, 1) := by decide +kernel
theorem dX6_get_19 : decode cX6_get 19 = .ok (.getfield 71, 3) := by decide +kernel
theorem dX6_get_22 : decode cX6_get 22 = .ok (.ifCond .le 7, 3) := by decide +kernel
theorem dX6_get_25 : decode cX6_get 25 = .ok (.iconst 0, 1) := by decide +kernel
theorem dX6_get_26 : decode cX6_get 26 = .ok (.goto 30, 3) := by decide +kernel
theorem dX6_get_29 : decode cX6_get 29 = .ok (.iload_n 2, 1) := by decide +kernel
theorem dX6_get_30 : decode cX6_get 30 = .ok (.iconst (-1), 1) := by decide +kernel
theorem dX6_get_31 : decode cX6_get 31 = .ok (.if_icmp .eq 15, 3) := by decide +kernel
theorem dX6_get_34 : decode cX6_get 34 = .ok (.aload_n 0, 1) := by decide +kernel
theorem dX6_get_35 : decode cX6_get 35 = .ok (.iload_n 1, 1) := by decide +kernel
theorem dX6_get_36 : decode cX6_get 36 = .ok (.aload_n 0, 1) := by decide +kernel
theorem dX6_get_37 : decode cX6_get 37 = .ok (.getfield 90, 3) := by decide +kernel
theorem dX6_get_40 : decode cX6_get 40 = .ok (.invokevirtual 127, 3) := by decide +kernel
theorem dX6_get_43 : decode cX6_get 43 = .ok (.ifCond .eq 7, 3) := by decide +kernel
theorem dX6_get_46 : decode cX6_get 46 = .ok (.iconst (-1), 1) := by decide +kernel
theorem dX6_get_47 : decode cX6_get 47 = .ok (.goto 9, 3) := by decide +kernel
theorem dX6_get_50 : decode cX6_get 50 = .ok (.aload_n 0, 1) := by decide +kernel
theorem dX6_get_51 : decode cX6_get 51 = .ok (.getfield 19, 3) := by decide +kernel
theorem dX6_get_54 : decode cX6_get 54 = .ok (.iload_n 2, 1) := by decide +kernel
theorem dX6_get_55 : decode cX6_get 55 = .ok (.iaload, 1) := by decide +kernel
theorem dX6_get_56 : decode cX6_get 56 = .ok (.ireturn, 1) := by decide +kernel
theorem dX6_behind_0 : decode cX6_behind 0 = .ok (.iconst (-1), 1) := by decide +kernel
theorem dX6_behind_1 : decode cX6_behind 1 = .ok (.istore_n 2, 1) := by decide +kernel
theorem dX6_behind_2 : decode cX6_behind 2 = .ok (.bipush 20, 2) := by decide +kernel
theorem dX6_behind_4 : decode cX6_behind 4 = .ok (.iload_n 1, 1) := by decide +kernel
theorem dX6_behind_5 : decode cX6_behind 5 = .ok (.imul, 1) := by decide +kernel
theorem dX6_behind_6 : decode cX6_behind 6 = .ok (.istore_n 3, 1) := by decide +kernel
theorem dX6_behind_7 : decode cX6_behind 7 = .ok (.iload_n 3, 1) := by decide +kernel
theorem dX6_behind_8 : decode cX6_behind 8 = .ok (.bipush 20, 2) := by decide +kernel
theorem dX6_behind_10 : decode cX6_behind 10 = .ok (.iload_n 1, 1) := by decide +kernel
theorem dX6_behind_11 : decode cX6_behind 11 = .ok (.imul, 1) := by decide +kernel
theorem dX6_behind_12 : decode cX6_behind 12 = .ok (.aload_n 0, 1) := by decide +kernel
theorem dX6_behind_13 : decode cX6_behind 13 = .ok (.getfield 7, 3) := by decide +kernel
theorem dX6_behind_16 : decode cX6_behind 16 = .ok (.iload_n 1, 1) := by decide +kernel
theorem dX6_behind_17 : decode cX6_behind 17 = .ok (.iaload, 1) := by decide +kernel
theorem dX6_behind_18 : decode cX6_behind 18 = .ok (.iadd, 1) := by decide +kernel
theorem dX6_behind_19 : decode cX6_behind 19 = .ok (.if_icmp .ge 74, 3) := by decide +kernel
theorem dX6_behind_22 : decode cX6_behind 22 = .ok (.aload_n 0, 1) := by decide +kernel
theorem dX6_behind_23 : decode cX6_behind 23 = .ok (.getfield 13, 3) := by decide +kernel
theorem dX6_behind_26 : decode cX6_behind 26 = .ok (.iload_n 3, 1) := by decide +kernel
theorem dX6_behind_27 : decode cX6_behind 27 = .ok (.iaload, 1) := by decide +kernel
theorem dX6_behind_28 : decode cX6_behind 28 = .ok (.aload_n 0, 1) := by decide +kernel
theorem dX6_behind_29 : decode cX6_behind 29 = .ok (.getfield 90, 3) := by decide +kernel
theorem dX6_behind_32 : decode cX6_behind 32 = .ok (.if_icmp .le 21, 3) := by decide +kernel
theorem dX6_behind_35 : decode cX6_behind 35 = .ok (.aload_n 0, 1) := by decide +kernel
theorem dX6_behind_36 : decode cX6_behind 36 = .ok (.iload_n 1, 1) := by decide +kernel
theorem dX6_behind_37 : decode cX6_behind 37 = .ok (.aload_n 0, 1) := by decide +kernel
theorem dX6_behind_38 : decode cX6_behind 38 = .ok (.getfield 13, 3) := by decide +kernel
theorem dX6_behind_41 : decode cX6_behind 41 = .ok (.iload_n 3, 1) := by decide +kernel
theorem dX6_behind_42 : decode cX6_behind 42 = .ok (.iaload, 1) := by decide +kernel
theorem dX6_behind_43 : decode cX6_behind 43 = .ok (.invokevirtual 127, 3) := by decide +kernel
theorem dX6_behind_46 : decode cX6_behind 46 = .ok (.ifCond .ne 7, 3) := by decide +kernel
theorem dX6_behind_49 : decode cX6_behind 49 = .ok (.iconst 1, 1) := by decide +kernel
theorem dX6_behind_50 : decode cX6_behind 50 = .ok (.goto 4, 3) := by decide +kernel
theorem dX6_behind_53 : decode cX6_behind 53 = .ok (.iconst 0, 1) := by decide +kernel
theorem dX6_behind_54 : decode cX6_behind 54 = .ok (.istore 4, 2) := by decide +kernel
theorem dX6_behind_56 : decode cX6_behind 56 = .ok (.iload 4, 2) := by decide +kernel
theorem dX6_behind_58 : decode cX6_behind 58 = .ok (.ifCond .eq 27, 3) := by decide +kernel
theorem dX6_behind_61 : decode cX6_behind 61 = .ok (.iload_n 2, 1) := by decide +kernel
theorem dX6_behind_62 : decode cX6_behind 62 = .ok (.iconst (-1), 1) := by decide +kernel
theorem dX6_behind_63 : decode cX6_behind 63 = .ok (.if_icmp .eq 18, 3) := by decide +kernel
theorem dX6_behind_66 : decode cX6_behind 66 = .ok (.aload_n 0, 1) := by decide +kernel
theorem dX6_behind_67 : decode cX6_behind 67 = .ok (.getfield 13, 3) := by decide +kernel
theorem dX6_behind_70 : decode cX6_behind 70 = .ok (.iload_n 3, 1) := by decide +kernel
theorem dX6_behind_71 : decode cX6_behind 71 = .ok (.iaload, 1) := by decide +kernel
theorem dX6_behind_72 : decode cX6_behind 72 = .ok (.aload_n 0, 1) := by decide +kernel
theorem dX6_behind_73 : decode cX6_behind 73 = .ok (.getfield 13, 3) := by decide +kernel
theorem dX6_behind_76 : decode cX6_behind 76 = .ok (.iload_n 2, 1) := by decide +kernel
theorem dX6_behind_77 : decode cX6_behind 77 = .ok (.iaload, 1) := by decide +kernel
theorem dX6_behind_78 : decode cX6_behind 78 = .ok (.if_icmp .ge 7, 3) := by decide +kernel
theorem dX6_behind_81 : decode cX6_behind 81 = .ok (.iload_n 3, 1) := by decide +kernel
theorem dX6_behind_82 : decode cX6_behind 82 = .ok (.goto 4, 3) := by decide +kernel
theorem dX6_behind_85 : decode cX6_behind 85 = .ok (.iload_n 2, 1) := by decide +kernel
theorem dX6_behind_86 : decode cX6_behind 86 = .ok (.istore_n 2, 1) := by decide +kernel
theorem dX6_behind_87 : decode cX6_behind 87 = .ok (.iinc 3 1, 3) := by decide +kernel
theorem dX6_behind_90 : decode cX6_behind 90 = .ok (.goto (-83), 3) := by decide +kernel
theorem dX6_behind_93 : decode cX6_behind 93 = .ok (.iload_n 2, 1) := by decide +kernel
theorem dX6_behind_94 : decode cX6_behind 94 = .ok (.ireturn, 1) := by decide +kernel
theorem dX6_next_0 : decode cX6_next 0 = .ok (.aload_n 0, 1) := by decide +kernel
theorem dX6_next_1 : decode cX6_next 1 = .ok (.iload_n 1, 1) := by decide +kernel
theorem dX6_next_2 : decode cX6_next 2 = .ok (.invokevirtual 99, 3) := by decide +kernel
theorem dX6_next_5 : decode cX6_next 5 = .ok (.ifCond .eq 11, 3) := by decide +kernel
theorem dX6_next_8 : decode cX6_next 8 = .ok (.aload_n 0, 1) := by decide +kernel
theorem dX6_next_9 : decode cX6_next 9 = .ok (.iload_n 1, 1) := by decide +kernel
theorem dX6_next_10 : decode cX6_next 10 = .ok (.invokevirtual 130, 3) := by decide +kernel
theorem dX6_next_13 : decode cX6_next 13 = .ok (.goto 4, 3) := by decide +kernel
theorem dX6_next_16 : decode cX6_next 16 = .ok (.iconst (-1), 1) := by decide +kernel
theorem dX6_next_17 : decode cX6_next 17 = .ok (.istore_n 2, 1) := by decide +kernel
theorem dX6_next_18 : decode cX6_next 18 = .ok (.iload_n 2, 1) := by decide +kernel
theorem dX6_next_19 : decode cX6_next 19 = .ok (.iconst (-1), 1) := by decide +kernel
theorem dX6_next_20 : decode cX6_next 20 = .ok (.if_icmp .eq 13, 3) := by decide +kernel
theorem dX6_next_23 : decode cX6_next 23 = .ok (.aload_n 0, 1) := by decide +kernel
theorem dX6_next_24 : decode cX6_next 24 = .ok (.aload_n 0, 1) := by decide +kernel
theorem dX6_next_25 : decode cX6_next 25 = .ok (.getfield 13, 3) := by decide +kernel
theorem dX6_next_28 : decode cX6_next 28 = .ok (.iload_n 2, 1) := by decide +kernel
theorem dX6_next_29 : decode cX6_next 29 = .ok (.iaload, 1) := by decide +kernel
theorem dX6_next_30 : decode cX6_next 30 = .ok (.putfield 90, 3) := by decide +kernel
theorem dX6_next_33 : decode cX6_next 33 = .ok (.aload_n 0, 1) := by decide +kernel
theorem dX6_next_34 : decode cX6_next 34 = .ok (.getfield 71, 3) := by decide +kernel
theorem dX6_next_37 : decode cX6_next 37 = .ok (.ifCond .le 7, 3) := by decide +kernel
theorem dX6_next_40 : decode cX6_next 40 = .ok (.iconst 0, 1) := by decide +kernel
theorem dX6_next_41 : decode cX6_next 41 = .ok (.goto 18, 3) := by decide +kernel
theorem dX6_next_44 : decode cX6_next 44 = .ok (.iload_n 2, 1) := by decide +kernel
theorem dX6_next_45 : decode cX6_next 45 = .ok (.iconst (-1), 1) := by decide +kernel
theorem dX6_next_46 : decode cX6_next 46 = .ok (.if_icmp .ne 7, 3) := by decide +kernel
theorem dX6_next_49 : decode cX6_next 49 = .ok (.iconst (-1), 1) := by decide +kernel
theorem dX6_next_50 : decode cX6_next 50 = .ok (.goto 9, 3) := by decide +kernel
theorem dX6_next_53 : decode cX6_next 53 = .ok (.aload_n 0, 1) := by decide +kernel
theorem dX6_next_54 : decode cX6_next 54 = .ok (.getfield 19, 3) := by decide +kernel
theorem dX6_next_57 : decode cX6_next 57 = .ok (.iload_n 2, 1) := by decide +kernel
theorem dX6_next_58 : decode cX6_next 58 = .ok (.iaload, 1) := by decide +kernel
theorem dX6_next_59 : decode cX6_next 59 = .ok (.ireturn, 1) := by decide +kernel
theorem dX6_bulk_0 : decode cX6_bulk 0 = .ok (.aload_n 0, 1) := by decide +kernel
theorem dX6_bulk_1 : decode cX6_bulk 1 = .ok (.iload_n 1, 1) := by decide +kernel
theorem dX6_bulk_2 : decode cX6_bulk 2 = .ok (.iconst 0, 1) := by decide +kernel
theorem dX6_bulk_3 : decode cX6_bulk 3 = .ok (.iconst 3, 1) := by decide +kernel
theorem dX6_bulk_4 : decode cX6_bulk 4 = .ok (.invokestatic 75, 3) := by decide +kernel
theorem dX6_bulk_7 : decode cX6_bulk 7 = .ok (.ifCond .ne 7, 3) := by decide +kernel
theorem dX6_bulk_10 : decode cX6_bulk 10 = .ok (.iconst 1, 1) := by decide +kernel
theorem dX6_bulk_11 : decode cX6_bulk 11 = .ok (.goto 18, 3) := by decide +kernel
theorem dX6_bulk_14 : decode cX6_bulk 14 = .ok (.iload_n 2, 1) := by decide +kernel
theorem dX6_bulk_15 : decode cX6_bulk 15 = .ok (.iconst 1, 1) := by decide +kernel
theorem dX6_bulk_16 : decode cX6_bulk 16 = .ok (.bipush 30, 2) := by decide +kernel
theorem dX6_bulk_18 : decode cX6_bulk 18 = .ok (.invokestatic 75, 3) := by decide +kernel
theorem dX6_bulk_21 : decode cX6_bulk 21 = .ok (.ifCond .eq 7, 3) := by decide +kernel
theorem dX6_bulk_24 : decode cX6_bulk 24 = .ok (.iconst 0, 1) := by decide +kernel
theorem dX6_bulk_25 : decode cX6_bulk 25 = .ok (.goto 4, 3) := by decide +kernel
theorem dX6_bulk_28 : decode cX6_bulk 28 = .ok (.iconst 2, 1) := by decide +kernel
theorem dX6_bulk_29 : decode cX6_bulk 29 = .ok (.putfield 71, 3) := by decide +kernel
theorem dX6_bulk_32 : decode cX6_bulk 32 = .ok (.iconst 0, 1) := by decide +kernel
theorem dX6_bulk_33 : decode cX6_bulk 33 = .ok (.istore_n 3, 1) := by decide +kernel
theorem dX6_bulk_34 : decode cX6_bulk 34 = .ok (.aload_n 0, 1) := by decide +kernel
theorem dX6_bulk_35 : decode cX6_bulk 35 = .ok (.getfield 71, 3) := by decide +kernel
theorem dX6_bulk_38 : decode cX6_bulk 38 = .ok (.ifCond .ne 7, 3) := by decide +kernel
theorem dX6_bulk_41 : decode cX6_bulk 41 = .ok (.iconst 1, 1) := by decide +kernel
theorem dX6_bulk_42 : decode cX6_bulk 42 = .ok (.goto 4, 3) := by decide +kernel
theorem dX6_bulk_45 : decode cX6_bulk 45 = .ok (.iconst 0, 1) := by decide +kernel
theorem dX6_bulk_46 : decode cX6_bulk 46 = .ok (.istore 4, 2) := by decide +kernel
theorem dX6_bulk_48 : decode cX6_bulk 48 = .ok (.iload 4, 2) := by decide +kernel
theorem dX6_bulk_50 : decode cX6_bulk 50 = .ok (.ifCond .eq 67, 3) := by decide +kernel
theorem dX6_bulk_53 : decode cX6_bulk 53 = .ok (.iload_n 3, 1) := by decide +kernel
theorem dX6_bulk_54 : decode cX6_bulk 54 = .ok (.iload_n 2, 1) := by decide +kernel
theorem dX6_bulk_55 : decode cX6_bulk 55 = .ok (.if_icmp .ge 62, 3) := by decide +kernel
theorem dX6_bulk_58 : decode cX6_bulk 58 = .ok (.aload_n 0, 1) := by decide +kernel
theorem dX6_bulk_59 : decode cX6_bulk 59 = .ok (.iload_n 1, 1) := by decide +kernel
theorem dX6_bulk_60 : decode cX6_bulk 60 = .ok (.invokevirtual 130, 3) := by decide +kernel
theorem dX6_bulk_63 : decode cX6_bulk 63 = .ok (.istore 5, 2) := by decide +kernel
theorem dX6_bulk_65 : decode cX6_bulk 65 = .ok (.iload 5, 2) := by decide +kernel
theorem dX6_bulk_67 : decode cX6_bulk 67 = .ok (.iconst (-1), 1) := by decide +kernel
theorem dX6_bulk_68 : decode cX6_bulk 68 = .ok (.if_icmp .eq 7, 3) := by decide +kernel
theorem dX6_bulk_71 : decode cX6_bulk 71 = .ok (.iconst 1, 1) := by decide +kernel
theorem dX6_bulk_72 : decode cX6_bulk 72 = .ok (.goto 4, 3) := by decide +kernel
theorem dX6_bulk_75 : decode cX6_bulk 75 = .ok (.iconst 0, 1) := by decide +kernel
theorem dX6_bulk_76 : decode cX6_bulk 76 = .ok (.istore 4, 2) := by decide +kernel
theorem dX6_bulk_78 : decode cX6_bulk 78 = .ok (.aload_n 0, 1) := by decide +kernel
theorem dX6_bulk_79 : decode cX6_bulk 79 = .ok (.iload 4, 2) := by decide +kernel
theorem dX6_bulk_81 : decode cX6_bulk 81 = .ok (.ifCond .eq 13, 3) := by decide +kernel
theorem dX6_bulk_84 : decode cX6_bulk 84 = .ok (.aload_n 0, 1) := by decide +kernel
theorem dX6_bulk_85 : decode cX6_bulk 85 = .ok (.getfield 13, 3) := by decide +kernel
theorem dX6_bulk_88 : decode cX6_bulk 88 = .ok (.iload 5, 2) := by decide +kernel
theorem dX6_bulk_90 : decode cX6_bulk 90 = .ok (.iaload, 1) := by decide +kernel
theorem dX6_bulk_91 : decode cX6_bulk 91 = .ok (.goto 7, 3) := by decide +kernel
theorem dX6_bulk_94 : decode cX6_bulk 94 = .ok (.aload_n 0, 1) := by decide +kernel
theorem dX6_bulk_95 : decode cX6_bulk 95 = .ok (.getfield 90, 3) := by decide +kernel
theorem dX6_bulk_98 : decode cX6_bulk 98 = .ok (.putfield 90, 3) := by decide +kernel
theorem dX6_bulk_101 : decode cX6_bulk 101 = .ok (.iload_n 3, 1) := by decide +kernel
theorem dX6_bulk_102 : decode cX6_bulk 102 = .ok (.iload 4, 2) := by decide +kernel
theorem dX6_bulk_104 : decode cX6_bulk 104 = .ok (.ifCond .eq 7, 3) := by decide +kernel
theorem dX6_bulk_107 : decode cX6_bulk 107 = .ok (.iconst 1, 1) := by decide +kernel
theorem dX6_bulk_108 : decode cX6_bulk 108 = .ok (.goto 4, 3) := by decide +kernel
theorem dX6_bulk_111 : decode cX6_bulk 111 = .ok (.iconst 0, 1) := by decide +kernel
theorem dX6_bulk_112 : decode cX6_bulk 112 = .ok (.iadd, 1) := by decide +kernel
theorem dX6_bulk_113 : decode cX6_bulk 113 = .ok (.istore_n 3, 1) := by decide +kernel
theorem dX6_bulk_114 : decode cX6_bulk 114 = .ok (.goto (-66), 3) := by decide +kernel
theorem dX6_bulk_117 : decode cX6_bulk 117 = .ok (.iload_n 3, 1) := by decide +kernel
theorem dX6_bulk_118 : decode cX6_bulk 118 = .ok (.ireturn, 1) := by decide +kernel
theorem dX6_nextBySorting_0 : decode cX6_nextBySorting 0 = .ok (.aload_n 0, 1) := by decide +kernel
theorem dX6_nextBySorting_1 : decode cX6_nextBySorting 1 = .ok (.iload_n 1, 1) := by decide +kernel
theorem dX6_nextBySorting_2 : decode cX6_nextBySorting 2 = .ok (.invokevirtual 99, 3) := by decide +kernel
theorem dX6_nextBySorting_5 : decode cX6_nextBySorting 5 = .ok (.ifCond .eq 11, 3) := by decide +kernel
theorem dX6_nextBySorting_8 : decode cX6_nextBySorting 8 = .ok (.aload_n 0, 1) := by decide +kernel
theorem dX6_nextBySorting_9 : decode cX6_nextBySorting 9 = .ok (.iload_n 1, 1) := by decide +kernel
theorem dX6_nextBySorting_10 : decode cX6_nextBySorting 10 = .ok (.invokevirtual 130, 3) := by decide +kernel
theorem dX6_nextBySorting_13 : decode cX6_nextBySorting 13 = .ok (.goto 4, 3) := by decide +kernel
theorem dX6_nextBySorting_16 : decode cX6_nextBySorting 16 = .ok (.iconst (-1), 1) := by decide +kernel
theorem dX6_nextBySorting_17 : decode cX6_nextBySorting 17 = .ok (.istore_n 2, 1) := by decide +kernel
theorem dX6_nextBySorting_18 : decode cX6_nextBySorting 18 = .ok (.aload_n 0, 1) := by decide +kernel
theorem dX6_nextBySorting_19 : decode cX6_nextBySorting 19 = .ok (.getfield 71, 3) := by decide +kernel
theorem dX6_nextBySorting_22 : decode cX6_nextBySorting 22 = .ok (.ifCond .le 7, 3) := by decide +kernel
theorem dX6_nextBySorting_25 : decode cX6_nextBySorting 25 = .ok (.iconst 0, 1) := by decide +kernel
theorem dX6_nextBySorting_26 : decode cX6_nextBySorting 26 = .ok (.goto 18, 3) := by decide +kernel
theorem dX6_nextBySorting_29 : decode cX6_nextBySorting 29 = .ok (.iload_n 2, 1) := by decide +kernel
theorem dX6_nextBySorting_30 : decode cX6_nextBySorting 30 = .ok (.iconst (-1), 1) := by decide +kernel
theorem dX6_nextBySorting_31 : decode cX6_nextBySorting 31 = .ok (.if_icmp .ne 7, 3) := by decide +kernel
theorem dX6_nextBySorting_34 : decode cX6_nextBySorting 34 = .ok (.iconst (-1), 1) := by decide +kernel
theorem dX6_nextBySorting_35 : decode cX6_nextBySorting 35 = .ok (.goto 9, 3) := by decide +kernel
theorem dX6_nextBySorting_38 : decode cX6_nextBySorting 38 = .ok (.aload_n 0, 1) := by decide +kernel
theorem dX6_nextBySorting_39 : decode cX6_nextBySorting 39 = .ok (.getfield 19, 3) := by decide +kernel
theorem dX6_nextBySorting_42 : decode cX6_nextBySorting 42 = .ok (.iload_n 2, 1) := by decide +kernel
theorem dX6_nextBySorting_43 : decode cX6_nextBySorting 43 = .ok (.iaload, 1) := by decide +kernel
theorem dX6_nextBySorting_44 : decode cX6_nextBySorting 44 = .ok (.ireturn, 1) := by decide +kernel
theorem dX6_hide_0 : decode cX6_hide 0 = .ok (.iload_n 1, 1) := by decide +kernel
theorem dX6_hide_1 : decode cX6_hide 1 = .ok (.iconst 0, 1) := by decide +kernel
theorem dX6_hide_2 : decode cX6_hide 2 = .ok (.iconst 3, 1) := by decide +kernel
theorem dX6_hide_3 : decode cX6_hide 3 = .ok (.invokestatic 75, 3) := by decide +kernel
theorem dX6_hide_6 : decode cX6_hide 6 = .ok (.ifCond .eq 12, 3) := by decide +kernel
theorem dX6_hide_9 : decode cX6_hide 9 = .ok (.iload_n 2, 1) := by decide +kernel
theorem dX6_hide_10 : decode cX6_hide 10 = .ok (.iconst 0, 1) := by decide +kernel
theorem dX6_hide_11 : decode cX6_hide 11 = .ok (.iconst 2, 1) := by decide +kernel
theorem dX6_hide_12 : decode cX6_hide 12 = .ok (.invokestatic 75, 3) := by decide +kernel
theorem dX6_hide_15 : decode cX6_hide 15 = .ok (.ifCond .ne 9, 3) := by decide +kernel
theorem dX6_hide_18 : decode cX6_hide 18 = .ok (.aload_n 0, 1) := by decide +kernel
theorem dX6_hide_19 : decode cX6_hide 19 = .ok (.iconst 1, 1) := by decide +kernel
theorem dX6_hide_20 : decode cX6_hide 20 = .ok (.invokevirtual 93, 3) := by decide +kernel
theorem dX6_hide_23 : decode cX6_hide 23 = .ok (.ireturn, 1) := by decide +kernel
theorem dX6_hide_24 : decode cX6_hide 24 = .ok (.bipush 10, 2) := by decide +kernel
theorem dX6_hide_26 : decode cX6_hide 26 = .ok (.iload_n 1, 1) := by decide +kernel
theorem dX6_hide_27 : decode cX6_hide 27 = .ok (.imul, 1) := by decide +kernel
theorem dX6_hide_28 : decode cX6_hide 28 = .ok (.aload_n 0, 1) := by decide +kernel
theorem dX6_hide_29 : decode cX6_hide 29 = .ok (.getfield 47, 3) := by decide +kernel
theorem dX6_hide_32 : decode cX6_hide 32 = .ok (.iload_n 1, 1) := by decide +kernel
theorem dX6_hide_33 : decode cX6_hide 33 = .ok (.iaload, 1) := by decide +kernel
theorem dX6_hide_34 : decode cX6_hide 34 = .ok (.iadd, 1) := by decide +kernel
theorem dX6_hide_35 : decode cX6_hide 35 = .ok (.istore_n 3, 1) := by decide +kernel
theorem dX6_hide_36 : decode cX6_hide 36 = .ok (.bipush 10, 2) := by decide +kernel
theorem dX6_hide_38 : decode cX6_hide 38 = .ok (.iload_n 1, 1) := by decide +kernel
theorem dX6_hide_39 : decode cX6_hide 39 = .ok (.imul, 1) := by decide +kernel
theorem dX6_hide_40 : decode cX6_hide 40 = .ok (.istore 4, 2) := by decide +kernel
theorem dX6_hide_42 : decode cX6_hide 42 = .ok (.iload 4, 2) := by decide +kernel
theorem dX6_hide_44 : decode cX6_hide 44 = .ok (.iload_n 3, 1) := by decide +kernel
theorem dX6_hide_45 : decode cX6_hide 45 = .ok (.if_icmp .ge 23, 3) := by decide +kernel
theorem dX6_hide_48 : decode cX6_hide 48 = .ok (.aload_n 0, 1) := by decide +kernel
theorem dX6_hide_49 : decode cX6_hide 49 = .ok (.getfield 50, 3) := by decide +kernel
theorem dX6_hide_52 : decode cX6_hide 52 = .ok (.iload 4, 2) := by decide +kernel
theorem dX6_hide_54 : decode cX6_hide 54 = .ok (.iaload, 1) := by decide +kernel
theorem dX6_hide_55 : decode cX6_hide 55 = .ok (.aload_n 0, 1) := by decide +kernel
theorem dX6_hide_56 : decode cX6_hide 56 = .ok (.getfield 90, 3) := by decide +kernel
theorem dX6_hide_59 : decode cX6_hide 59 = .ok (.if_icmp .eq 9, 3) := by decide +kernel
theorem dX6_hide_62 : decode cX6_hide 62 = .ok (.iinc 4 1, 3) := by decide +kernel
theorem dX6_hide_65 : decode cX6_hide 65 = .ok (.goto (-23), 3) := by decide +kernel
theorem dX6_hide_68 : decode cX6_hide 68 = .ok (.aload_n 0, 1) := by decide +kernel
theorem dX6_hide_69 : decode cX6_hide 69 = .ok (.iload 4, 2) := by decide +kernel
theorem dX6_hide_71 : decode cX6_hide 71 = .ok (.iload_n 3, 1) := by decide +kernel
theorem dX6_hide_72 : decode cX6_hide 72 = .ok (.if_icmp .ne 22, 3) := by decide +kernel
theorem dX6_hide_75 : decode cX6_hide 75 = .ok (.aload_n 0, 1) := by decide +kernel
theorem dX6_hide_76 : decode cX6_hide 76 = .ok (.getfield 47, 3) := by decide +kernel
theorem dX6_hide_79 : decode cX6_hide 79 = .ok (.iload_n 1, 1) := by decide +kernel
theorem dX6_hide_80 : decode cX6_hide 80 = .ok (.iaload, 1) := by decide +kernel
theorem dX6_hide_81 : decode cX6_hide 81 = .ok (.bipush 10, 2) := by decide +kernel
theorem dX6_hide_83 : decode cX6_hide 83 = .ok (.if_icmp .ne 11, 3) := by decide +kernel
theorem dX6_hide_86 : decode cX6_hide 86 = .ok (.iload_n 2, 1) := by decide +kernel
theorem dX6_hide_87 : decode cX6_hide 87 = .ok (.ifCond .eq 7, 3) := by decide +kernel
theorem dX6_hide_90 : decode cX6_hide 90 = .ok (.iconst 2, 1) := by decide +kernel
theorem dX6_hide_91 : decode cX6_hide 91 = .ok (.goto 4, 3) := by decide +kernel
theorem dX6_hide_94 : decode cX6_hide 94 = .ok (.iconst 0, 1) := by decide +kernel
theorem dX6_hide_95 : decode cX6_hide 95 = .ok (.putfield 71, 3) := by decide +kernel
theorem dX6_hide_98 : decode cX6_hide 98 = .ok (.aload_n 0, 1) := by decide +kernel
theorem dX6_hide_99 : decode cX6_hide 99 = .ok (.getfield 71, 3) := by decide +kernel
theorem dX6_hide_102 : decode cX6_hide 102 = .ok (.ifCond .le 5, 3) := by decide +kernel
theorem dX6_hide_105 : decode cX6_hide 105 = .ok (.iconst 0, 1) := by decide +kernel
theorem dX6_hide_106 : decode cX6_hide 106 = .ok (.ireturn, 1) := by decide +kernel
theorem dX6_hide_107 : decode cX6_hide 107 = .ok (.iload 4, 2) := by decide +kernel
theorem dX6_hide_109 : decode cX6_hide 109 = .ok (.iload_n 3, 1) := by decide +kernel
theorem dX6_hide_110 : decode cX6_hide 110 = .ok (.if_icmp .ne 7, 3) := by decide +kernel
theorem dX6_hide_113 : decode cX6_hide 113 = .ok (.iconst 0, 1) := by decide +kernel
theorem dX6_hide_114 : decode cX6_hide 114 = .ok (.goto 10, 3) := by decide +kernel
theorem dX6_hide_117 : decode cX6_hide 117 = .ok (.aload_n 0, 1) := by decide +kernel
theorem dX6_hide_118 : decode cX6_hide 118 = .ok (.getfield 53, 3) := by decide +kernel
theorem dX6_hide_121 : decode cX6_hide 121 = .ok (.iload 4, 2) := by decide +kernel
theorem dX6_hide_123 : decode cX6_hide 123 = .ok (.iaload, 1) := by decide +kernel
theorem dX6_hide_124 : decode cX6_hide 124 = .ok (.istore 5, 2) := by decide +kernel
theorem dX6_hide_126 : decode cX6_hide 126 = .ok (.iload_n 2, 1) := by decide +kernel
theorem dX6_hide_127 : decode cX6_hide 127 = .ok (.ifCond .ne 49, 3) := by decide +kernel
theorem dX6_hide_130 : decode cX6_hide 130 = .ok (.iload 4, 2) := by decide +kernel
theorem dX6_hide_132 : decode cX6_hide 132 = .ok (.iload_n 3, 1) := by decide +kernel
theorem dX6_hide_133 : decode cX6_hide 133 = .ok (.if_icmp .ge 43, 3) := by decide +kernel
theorem dX6_hide_136 : decode cX6_hide 136 = .ok (.aload_n 0, 1) := by decide +kernel
theorem dX6_hide_137 : decode cX6_hide 137 = .ok (.getfield 47, 3) := by decide +kernel
theorem dX6_hide_140 : decode cX6_hide 140 = .ok (.iload_n 1, 1) := by decide +kernel
theorem dX6_hide_141 : decode cX6_hide 141 = .ok (.dup2, 1) := by decide +kernel
theorem dX6_hide_142 : decode cX6_hide 142 = .ok (.iaload, 1) := by decide +kernel
theorem dX6_hide_143 : decode cX6_hide 143 = .ok (.iconst 1, 1) := by decide +kernel
theorem dX6_hide_144 : decode cX6_hide 144 = .ok (.isub, 1) := by decide +kernel
theorem dX6_hide_145 : decode cX6_hide 145 = .ok (.iastore, 1) := by decide +kernel
theorem dX6_hide_146 : decode cX6_hide 146 = .ok (.aload_n 0, 1) := by decide +kernel
theorem dX6_hide_147 : decode cX6_hide 147 = .ok (.getfield 50, 3) := by decide +kernel
theorem dX6_hide_150 : decode cX6_hide 150 = .ok (.iload 4, 2) := by decide +kernel
theorem dX6_hide_152 : decode cX6_hide 152 = .ok (.aload_n 0, 1) := by decide +kernel
theorem dX6_hide_153 : decode cX6_hide 153 = .ok (.getfield 50, 3) := by decide +kernel
theorem dX6_hide_156 : decode cX6_hide 156 = .ok (.iload_n 3, 1) := by decide +kernel
theorem dX6_hide_157 : decode cX6_hide 157 = .ok (.iconst 1, 1) := by decide +kernel
theorem dX6_hide_158 : decode cX6_hide 158 = .ok (.isub, 1) := by decide +kernel
theorem dX6_hide_159 : decode cX6_hide 159 = .ok (.iaload, 1) := by decide +kernel
theorem dX6_hide_160 : decode cX6_hide 160 = .ok (.iastore, 1) := by decide +kernel
theorem dX6_hide_161 : decode cX6_hide 161 = .ok (.aload_n 0, 1) := by decide +kernel
theorem dX6_hide_162 : decode cX6_hide 162 = .ok (.getfield 53, 3) := by decide +kernel
theorem dX6_hide_165 : decode cX6_hide 165 = .ok (.iload 4, 2) := by decide +kernel
theorem dX6_hide_167 : decode cX6_hide 167 = .ok (.aload_n 0, 1) := by decide +kernel
theorem dX6_hide_168 : decode cX6_hide 168 = .ok (.getfield 53, 3) := by decide +kernel
theorem dX6_hide_171 : decode cX6_hide 171 = .ok (.iload_n 3, 1) := by decide +kernel
theorem dX6_hide_172 : decode cX6_hide 172 = .ok (.iconst 1, 1) := by decide +kernel
theorem dX6_hide_173 : decode cX6_hide 173 = .ok (.isub, 1) := by decide +kernel
theorem dX6_hide_174 : decode cX6_hide 174 = .ok (.iaload, 1) := by decide +kernel
theorem dX6_hide_175 : decode cX6_hide 175 = .ok (.iastore, 1) := by decide +kernel
theorem dX6_hide_176 : decode cX6_hide 176 = .ok (.iload_n 2, 1) := by decide +kernel
theorem dX6_hide_177 : decode cX6_hide 177 = .ok (.ifCond .le 42, 3) := by decide +kernel
theorem dX6_hide_180 : decode cX6_hide 180 = .ok (.aload_n 0, 1) := by decide +kernel
theorem dX6_hide_181 : decode cX6_hide 181 = .ok (.getfield 50, 3) := by decide +kernel
theorem dX6_hide_184 : decode cX6_hide 184 = .ok (.iload 4, 2) := by decide +kernel
theorem dX6_hide_186 : decode cX6_hide 186 = .ok (.aload_n 0, 1) := by decide +kernel
theorem dX6_hide_187 : decode cX6_hide 187 = .ok (.getfield 90, 3) := by decide +kernel
theorem dX6_hide_190 : decode cX6_hide 190 = .ok (.iastore, 1) := by decide +kernel
theorem dX6_hide_191 : decode cX6_hide 191 = .ok (.aload_n 0, 1) := by decide +kernel
theorem dX6_hide_192 : decode cX6_hide 192 = .ok (.getfield 53, 3) := by decide +kernel
theorem dX6_hide_195 : decode cX6_hide 195 = .ok (.iload 4, 2) := by decide +kernel
theorem dX6_hide_197 : decode cX6_hide 197 = .ok (.iload_n 2, 1) := by decide +kernel
theorem dX6_hide_198 : decode cX6_hide 198 = .ok (.iastore, 1) := by decide +kernel
theorem dX6_hide_199 : decode cX6_hide 199 = .ok (.aload_n 0, 1) := by decide +kernel
theorem dX6_hide_200 : decode cX6_hide 200 = .ok (.getfield 47, 3) := by decide +kernel
theorem dX6_hide_203 : decode cX6_hide 203 = .ok (.iload_n 1, 1) := by decide +kernel
theorem dX6_hide_204 : decode cX6_hide 204 = .ok (.dup2, 1) := by decide +kernel
theorem dX6_hide_205 : decode cX6_hide 205 = .ok (.iaload, 1) := by decide +kernel
theorem dX6_hide_206 : decode cX6_hide 206 = .ok (.iload 4, 2) := by decide +kernel
theorem dX6_hide_208 : decode cX6_hide 208 = .ok (.iload_n 3, 1) := by decide +kernel
theorem dX6_hide_209 : decode cX6_hide 209 = .ok (.if_icmp .ne 7, 3) := by decide +kernel
theorem dX6_hide_212 : decode cX6_hide 212 = .ok (.iconst 1, 1) := by decide +kernel
theorem dX6_hide_213 : decode cX6_hide 213 = .ok (.goto 4, 3) := by decide +kernel
theorem dX6_hide_216 : decode cX6_hide 216 = .ok (.iconst 0, 1) := by decide +kernel
theorem dX6_hide_217 : decode cX6_hide 217 = .ok (.iadd, 1) := by decide +kernel
theorem dX6_hide_218 : decode cX6_hide 218 = .ok (.iastore, 1) := by decide +kernel
theorem dX6_hide_219 : decode cX6_hide 219 = .ok (.iload 5, 2) := by decide +kernel
theorem dX6_hide_221 : decode cX6_hide 221 = .ok (.ireturn, 1) := by decide +kernel
theorem dX6_seen_0 : decode cX6_seen 0 = .ok (.iconst 0, 1) := by decide +kernel
theorem dX6_seen_1 : decode cX6_seen 1 = .ok (.istore_n 2, 1) := by decide +kernel
theorem dX6_seen_2 : decode cX6_seen 2 = .ok (.aload_n 0, 1) := by decide +kernel
theorem dX6_seen_3 : decode cX6_seen 3 = .ok (.iload_n 1, 1) := by decide +kernel
theorem dX6_seen_4 : decode cX6_seen 4 = .ok (.invokevirtual 99, 3) := by decide +kernel
theorem dX6_seen_7 : decode cX6_seen 7 = .ok (.istore_n 3, 1) := by decide +kernel
theorem dX6_seen_8 : decode cX6_seen 8 = .ok (.bipush 20, 2) := by decide +kernel
theorem dX6_seen_10 : decode cX6_seen 10 = .ok (.iload_n 1, 1) := by decide +kernel
theorem dX6_seen_11 : decode cX6_seen 11 = .ok (.imul, 1) := by decide +kernel
theorem dX6_seen_12 : decode cX6_seen 12 = .ok (.istore 4, 2) := by decide +kernel
theorem dX6_seen_14 : decode cX6_seen 14 = .ok (.iload_n 3, 1) := by decide +kernel
theorem dX6_seen_15 : decode cX6_seen 15 = .ok (.ifCond .eq 48, 3) := by decide +kernel
theorem dX6_seen_18 : decode cX6_seen 18 = .ok (.iload 4, 2) := by decide +kernel
theorem dX6_seen_20 : decode cX6_seen 20 = .ok (.bipush 20, 2) := by decide +kernel
theorem dX6_seen_22 : decode cX6_seen 22 = .ok (.iload_n 1, 1) := by decide +kernel
theorem dX6_seen_23 : decode cX6_seen 23 = .ok (.imul, 1) := by decide +kernel
theorem dX6_seen_24 : decode cX6_seen 24 = .ok (.aload_n 0, 1) := by decide +kernel
theorem dX6_seen_25 : decode cX6_seen 25 = .ok (.getfield 7, 3) := by decide +kernel
theorem dX6_seen_28 : decode cX6_seen 28 = .ok (.iload_n 1, 1) := by decide +kernel
theorem dX6_seen_29 : decode cX6_seen 29 = .ok (.iaload, 1) := by decide +kernel
theorem dX6_seen_30 : decode cX6_seen 30 = .ok (.iadd, 1) := by decide +kernel
theorem dX6_seen_31 : decode cX6_seen 31 = .ok (.if_icmp .ge 32, 3) := by decide +kernel
theorem dX6_seen_34 : decode cX6_seen 34 = .ok (.iload_n 2, 1) := by decide +kernel
theorem dX6_seen_35 : decode cX6_seen 35 = .ok (.aload_n 0, 1) := by decide +kernel
theorem dX6_seen_36 : decode cX6_seen 36 = .ok (.iload_n 1, 1) := by decide +kernel
theorem dX6_seen_37 : decode cX6_seen 37 = .ok (.aload_n 0, 1) := by decide +kernel
theorem dX6_seen_38 : decode cX6_seen 38 = .ok (.getfield 13, 3) := by decide +kernel
theorem dX6_seen_41 : decode cX6_seen 41 = .ok (.iload 4, 2) := by decide +kernel
theorem dX6_seen_43 : decode cX6_seen 43 = .ok (.iaload, 1) := by decide +kernel
theorem dX6_seen_44 : decode cX6_seen 44 = .ok (.invokevirtual 127, 3) := by decide +kernel
theorem dX6_seen_47 : decode cX6_seen 47 = .ok (.ifCond .eq 7, 3) := by decide +kernel
theorem dX6_seen_50 : decode cX6_seen 50 = .ok (.iconst 0, 1) := by decide +kernel
theorem dX6_seen_51 : decode cX6_seen 51 = .ok (.goto 4, 3) := by decide +kernel
theorem dX6_seen_54 : decode cX6_seen 54 = .ok (.iconst 1, 1) := by decide +kernel
theorem dX6_seen_55 : decode cX6_seen 55 = .ok (.iadd, 1) := by decide +kernel
theorem dX6_seen_56 : decode cX6_seen 56 = .ok (.istore_n 2, 1) := by decide +kernel
theorem dX6_seen_57 : decode cX6_seen 57 = .ok (.iinc 4 1, 3) := by decide +kernel
theorem dX6_seen_60 : decode cX6_seen 60 = .ok (.goto (-46), 3) := by decide +kernel
theorem dX6_seen_63 : decode cX6_seen 63 = .ok (.iload_n 2, 1) := by decide +kernel
theorem dX6_seen_64 : decode cX6_seen 64 = .ok (.ireturn, 1) := by decide +kernel
theorem dX6_sample_0 : decode cX6_sample 0 = .ok (.aload_n 0, 1) := by decide +kernel
theorem dX6_sample_1 : decode cX6_sample 1 = .ok (.iload_n 1, 1) := by decide +kernel
theorem dX6_sample_2 : decode cX6_sample 2 = .ok (.invokevirtual 99, 3) := by decide +kernel
theorem dX6_sample_5 : decode cX6_sample 5 = .ok (.ifCond .eq 11, 3) := by decide +kernel
theorem dX6_sample_8 : decode cX6_sample 8 = .ok (.aload_n 0, 1) := by decide +kernel
theorem dX6_sample_9 : decode cX6_sample 9 = .ok (.iload_n 1, 1) := by decide +kernel
theorem dX6_sample_10 : decode cX6_sample 10 = .ok (.invokevirtual 96, 3) := by decide +kernel
theorem dX6_sample_13 : decode cX6_sample 13 = .ok (.goto 4, 3) := by decide +kernel
theorem dX6_sample_16 : decode cX6_sample 16 = .ok (.iconst (-1), 1) := by decide +kernel
theorem dX6_sample_17 : decode cX6_sample 17 = .ok (.istore_n 2, 1) := by decide +kernel
theorem dX6_sample_18 : decode cX6_sample 18 = .ok (.aload_n 0, 1) := by decide +kernel
theorem dX6_sample_19 : decode cX6_sample 19 = .ok (.aload_n 0, 1) := by decide +kernel
theorem dX6_sample_20 : decode cX6_sample 20 = .ok (.getfield 71, 3) := by decide +kernel
theorem dX6_sample_23 : decode cX6_sample 23 = .ok (.ifCond .le 7, 3) := by decide +kernel
theorem dX6_sample_26 : decode cX6_sample 26 = .ok (.iconst 1, 1) := by decide +kernel
theorem dX6_sample_27 : decode cX6_sample 27 = .ok (.goto 25, 3) := by decide +kernel
theorem dX6_sample_30 : decode cX6_sample 30 = .ok (.iload_n 2, 1) := by decide +kernel
theorem dX6_sample_31 : decode cX6_sample 31 = .ok (.iconst (-1), 1) := by decide +kernel
theorem dX6_sample_32 : decode cX6_sample 32 = .ok (.if_icmp .eq 15, 3) := by decide +kernel
theorem dX6_sample_35 : decode cX6_sample 35 = .ok (.aload_n 0, 1) := by decide +kernel
theorem dX6_sample_36 : decode cX6_sample 36 = .ok (.iload_n 1, 1) := by decide +kernel
theorem dX6_sample_37 : decode cX6_sample 37 = .ok (.aload_n 0, 1) := by decide +kernel
theorem dX6_sample_38 : decode cX6_sample 38 = .ok (.getfield 90, 3) := by decide +kernel
theorem dX6_sample_41 : decode cX6_sample 41 = .ok (.invokevirtual 127, 3) := by decide +kernel
theorem dX6_sample_44 : decode cX6_sample 44 = .ok (.ifCond .eq 7, 3) := by decide +kernel
theorem dX6_sample_47 : decode cX6_sample 47 = .ok (.iconst 2, 1) := by decide +kernel
theorem dX6_sample_48 : decode cX6_sample 48 = .ok (.goto 4, 3) := by decide +kernel
theorem dX6_sample_51 : decode cX6_sample 51 = .ok (.iconst 0, 1) := by decide +kernel
theorem dX6_sample_52 : decode cX6_sample 52 = .ok (.putfield 71, 3) := by decide +kernel
theorem dX6_sample_55 : decode cX6_sample 55 = .ok (.aload_n 0, 1) := by decide +kernel
theorem dX6_sample_56 : decode cX6_sample 56 = .ok (.getfield 71, 3) := by decide +kernel
theorem dX6_sample_59 : decode cX6_sample 59 = .ok (.ifCond .le 5, 3) := by decide +kernel
theorem dX6_sample_62 : decode cX6_sample 62 = .ok (.iconst 0, 1) := by decide +kernel
theorem dX6_sample_63 : decode cX6_sample 63 = .ok (.ireturn, 1) := by decide +kernel
theorem dX6_sample_64 : decode cX6_sample 64 = .ok (.aload_n 0, 1) := by decide +kernel
theorem dX6_sample_65 : decode cX6_sample 65 = .ok (.getfield 35, 3) := by decide +kernel
theorem dX6_sample_68 : decode cX6_sample 68 = .ok (.iconst 2, 1) := by decide +kernel
theorem dX6_sample_69 : decode cX6_sample 69 = .ok (.iload_n 2, 1) := by decide +kernel
theorem dX6_sample_70 : decode cX6_sample 70 = .ok (.imul, 1) := by decide +kernel
theorem dX6_sample_71 : decode cX6_sample 71 = .ok (.aload_n 0, 1) := by decide +kernel
theorem dX6_sample_72 : decode cX6_sample 72 = .ok (.getfield 35, 3) := by decide +kernel
theorem dX6_sample_75 : decode cX6_sample 75 = .ok (.iconst 2, 1) := by decide +kernel
theorem dX6_sample_76 : decode cX6_sample 76 = .ok (.iload_n 2, 1) := by decide +kernel
theorem dX6_sample_77 : decode cX6_sample 77 = .ok (.imul, 1) := by decide +kernel
theorem dX6_sample_78 : decode cX6_sample 78 = .ok (.iconst 1, 1) := by decide +kernel
theorem dX6_sample_79 : decode cX6_sample 79 = .ok (.iadd, 1) := by decide +kernel
theorem dX6_sample_80 : decode cX6_sample 80 = .ok (.iaload, 1) := by decide +kernel
theorem dX6_sample_81 : decode cX6_sample 81 = .ok (.iastore, 1) := by decide +kernel
theorem dX6_sample_82 : decode cX6_sample 82 = .ok (.aload_n 0, 1) := by decide +kernel
theorem dX6_sample_83 : decode cX6_sample 83 = .ok (.getfield 38, 3) := by decide +kernel
theorem dX6_sample_86 : decode cX6_sample 86 = .ok (.iconst 2, 1) := by decide +kernel
theorem dX6_sample_87 : decode cX6_sample 87 = .ok (.iload_n 2, 1) := by decide +kernel
theorem dX6_sample_88 : decode cX6_sample 88 = .ok (.imul, 1) := by decide +kernel
theorem dX6_sample_89 : decode cX6_sample 89 = .ok (.aload_n 0, 1) := by decide +kernel
theorem dX6_sample_90 : decode cX6_sample 90 = .ok (.getfield 38, 3) := by decide +kernel
theorem dX6_sample_93 : decode cX6_sample 93 = .ok (.iconst 2, 1) := by decide +kernel
theorem dX6_sample_94 : decode cX6_sample 94 = .ok (.iload_n 2, 1) := by decide +kernel
theorem dX6_sample_95 : decode cX6_sample 95 = .ok (.imul, 1) := by decide +kernel
theorem dX6_sample_96 : decode cX6_sample 96 = .ok (.iconst 1, 1) := by decide +kernel
theorem dX6_sample_97 : decode cX6_sample 97 = .ok (.iadd, 1) := by decide +kernel
theorem dX6_sample_98 : decode cX6_sample 98 = .ok (.iaload, 1) := by decide +kernel
theorem dX6_sample_99 : decode cX6_sample 99 = .ok (.iastore, 1) := by decide +kernel
theorem dX6_sample_100 : decode cX6_sample 100 = .ok (.aload_n 0, 1) := by decide +kernel
theorem dX6_sample_101 : decode cX6_sample 101 = .ok (.getfield 41, 3) := by decide +kernel
theorem dX6_sample_104 : decode cX6_sample 104 = .ok (.iconst 2, 1) := by decide +kernel
theorem dX6_sample_105 : decode cX6_sample 105 = .ok (.iload_n 2, 1) := by decide +kernel
theorem dX6_sample_106 : decode cX6_sample 106 = .ok (.imul, 1) := by decide +kernel
theorem dX6_sample_107 : decode cX6_sample 107 = .ok (.aload_n 0, 1) := by decide +kernel
theorem dX6_sample_108 : decode cX6_sample 108 = .ok (.getfield 41, 3) := by decide +kernel
theorem dX6_sample_111 : decode cX6_sample 111 = .ok (.iconst 2, 1) := by decide +kernel
theorem dX6_sample_112 : decode cX6_sample 112 = .ok (.iload_n 2, 1) := by decide +kernel
theorem dX6_sample_113 : decode cX6_sample 113 = .ok (.imul, 1) := by decide +kernel
theorem dX6_sample_114 : decode cX6_sample 114 = .ok (.iconst 1, 1) := by decide +kernel
theorem dX6_sample_115 : decode cX6_sample 115 = .ok (.iadd, 1) := by decide +kernel
theorem dX6_sample_116 : decode cX6_sample 116 = .ok (.iaload, 1) := by decide +kernel
theorem dX6_sample_117 : decode cX6_sample 117 = .ok (.iastore, 1) := by decide +kernel
theorem dX6_sample_118 : decode cX6_sample 118 = .ok (.aload_n 0, 1) := by decide +kernel
theorem dX6_sample_119 : decode cX6_sample 119 = .ok (.getfield 35, 3) := by decide +kernel
theorem dX6_sample_122 : decode cX6_sample 122 = .ok (.iconst 2, 1) := by decide +kernel
theorem dX6_sample_123 : decode cX6_sample 123 = .ok (.iload_n 2, 1) := by decide +kernel
theorem dX6_sample_124 : decode cX6_sample 124 = .ok (.imul, 1) := by decide +kernel
theorem dX6_sample_125 : decode cX6_sample 125 = .ok (.iconst 1, 1) := by decide +kernel
theorem dX6_sample_126 : decode cX6_sample 126 = .ok (.iadd, 1) := by decide +kernel
theorem dX6_sample_127 : decode cX6_sample 127 = .ok (.aload_n 0, 1) := by decide +kernel
theorem dX6_sample_128 : decode cX6_sample 128 = .ok (.getfield 113, 3) := by decide +kernel
theorem dX6_sample_131 : decode cX6_sample 131 = .ok (.iastore, 1) := by decide +kernel
theorem dX6_sample_132 : decode cX6_sample 132 = .ok (.aload_n 0, 1) := by decide +kernel
theorem dX6_sample_133 : decode cX6_sample 133 = .ok (.getfield 38, 3) := by decide +kernel
theorem dX6_sample_136 : decode cX6_sample 136 = .ok (.iconst 2, 1) := by decide +kernel
theorem dX6_sample_137 : decode cX6_sample 137 = .ok (.iload_n 2, 1) := by decide +kernel
theorem dX6_sample_138 : decode cX6_sample 138 = .ok (.imul, 1) := by decide +kernel
theorem dX6_sample_139 : decode cX6_sample 139 = .ok (.iconst 1, 1) := by decide +kernel
theorem dX6_sample_140 : decode cX6_sample 140 = .ok (.iadd, 1) := by decide +kernel
theorem dX6_sample_141 : decode cX6_sample 141 = .ok (.aload_n 0, 1) := by decide +kernel
theorem dX6_sample_142 : decode cX6_sample 142 = .ok (.getfield 19, 3) := by decide +kernel
theorem dX6_sample_145 : decode cX6_sample 145 = .ok (.iload_n 2, 1) := by decide +kernel
theorem dX6_sample_146 : decode cX6_sample 146 = .ok (.iaload, 1) := by decide +kernel
theorem dX6_sample_147 : decode cX6_sample 147 = .ok (.iastore, 1) := by decide +kernel
theorem dX6_sample_148 : decode cX6_sample 148 = .ok (.aload_n 0, 1) := by decide +kernel
theorem dX6_sample_149 : decode cX6_sample 149 = .ok (.getfield 41, 3) := by decide +kernel
theorem dX6_sample_152 : decode cX6_sample 152 = .ok (.iconst 2, 1) := by decide +kernel
theorem dX6_sample_153 : decode cX6_sample 153 = .ok (.iload_n 2, 1) := by decide +kernel
theorem dX6_sample_154 : decode cX6_sample 154 = .ok (.imul, 1) := by decide +kernel
theorem dX6_sample_155 : decode cX6_sample 155 = .ok (.iconst 1, 1) := by decide +kernel
theorem dX6_sample_156 : decode cX6_sample 156 = .ok (.iadd, 1) := by decide +kernel
theorem dX6_sample_157 : decode cX6_sample 157 = .ok (.aload_n 0, 1) := by decide +kernel
theorem dX6_sample_158 : decode cX6_sample 158 = .ok (.getfield 44, 3) := by decide +kernel
theorem dX6_sample_161 : decode cX6_sample 161 = .ok (.iload_n 1, 1) := by decide +kernel
theorem dX6_sample_162 : decode cX6_sample 162 = .ok (.iaload, 1) := by decide +kernel
theorem dX6_sample_163 : decode cX6_sample 163 = .ok (.iastore, 1) := by decide +kernel
theorem dX6_sample_164 : decode cX6_sample 164 = .ok (.aload_n 0, 1) := by decide +kernel
theorem dX6_sample_165 : decode cX6_sample 165 = .ok (.getfield 32, 3) := by decide +kernel
theorem dX6_sample_168 : decode cX6_sample 168 = .ok (.iload_n 2, 1) := by decide +kernel
theorem dX6_sample_169 : decode cX6_sample 169 = .ok (.aload_n 0, 1) := by decide +kernel
theorem dX6_sample_170 : decode cX6_sample 170 = .ok (.getfield 32, 3) := by decide +kernel
theorem dX6_sample_173 : decode cX6_sample 173 = .ok (.iload_n 2, 1) := by decide +kernel
theorem dX6_sample_174 : decode cX6_sample 174 = .ok (.iaload, 1) := by decide +kernel
theorem dX6_sample_175 : decode cX6_sample 175 = .ok (.iconst 2, 1) := by decide +kernel
theorem dX6_sample_176 : decode cX6_sample 176 = .ok (.if_icmp .ge 14, 3) := by decide +kernel
theorem dX6_sample_179 : decode cX6_sample 179 = .ok (.aload_n 0, 1) := by decide +kernel
theorem dX6_sample_180 : decode cX6_sample 180 = .ok (.getfield 32, 3) := by decide +kernel
theorem dX6_sample_183 : decode cX6_sample 183 = .ok (.iload_n 2, 1) := by decide +kernel
theorem dX6_sample_184 : decode cX6_sample 184 = .ok (.iaload, 1) := by decide +kernel
theorem dX6_sample_185 : decode cX6_sample 185 = .ok (.iconst 1, 1) := by decide +kernel
theorem dX6_sample_186 : decode cX6_sample 186 = .ok (.iadd, 1) := by decide +kernel
theorem dX6_sample_187 : decode cX6_sample 187 = .ok (.goto 4, 3) := by decide +kernel
theorem dX6_sample_190 : decode cX6_sample 190 = .ok (.iconst 2, 1) := by decide +kernel
theorem dX6_sample_191 : decode cX6_sample 191 = .ok (.iastore, 1) := by decide +kernel
theorem dX6_sample_192 : decode cX6_sample 192 = .ok (.aload_n 0, 1) := by decide +kernel
theorem dX6_sample_193 : decode cX6_sample 193 = .ok (.getfield 19, 3) := by decide +kernel
theorem dX6_sample_196 : decode cX6_sample 196 = .ok (.iload_n 2, 1) := by decide +kernel
theorem dX6_sample_197 : decode cX6_sample 197 = .ok (.iaload, 1) := by decide +kernel
theorem dX6_sample_198 : decode cX6_sample 198 = .ok (.ireturn, 1) := by decide +kernel
theorem dX6_rate_0 : decode cX6_rate 0 = .ok (.aload_n 0, 1) := by decide +kernel
theorem dX6_rate_1 : decode cX6_rate 1 = .ok (.iload_n 1, 1) := by decide +kernel
theorem dX6_rate_2 : decode cX6_rate 2 = .ok (.invokevirtual 99, 3) := by decide +kernel
theorem dX6_rate_5 : decode cX6_rate 5 = .ok (.ifCond .eq 11, 3) := by decide +kernel
theorem dX6_rate_8 : decode cX6_rate 8 = .ok (.aload_n 0, 1) := by decide +kernel
theorem dX6_rate_9 : decode cX6_rate 9 = .ok (.iload_n 1, 1) := by decide +kernel
theorem dX6_rate_10 : decode cX6_rate 10 = .ok (.invokevirtual 96, 3) := by decide +kernel
theorem dX6_rate_13 : decode cX6_rate 13 = .ok (.goto 4, 3) := by decide +kernel
theorem dX6_rate_16 : decode cX6_rate 16 = .ok (.iconst (-1), 1) := by decide +kernel
theorem dX6_rate_17 : decode cX6_rate 17 = .ok (.istore_n 2, 1) := by decide +kernel
theorem dX6_rate_18 : decode cX6_rate 18 = .ok (.aload_n 0, 1) := by decide +kernel
theorem dX6_rate_19 : decode cX6_rate 19 = .ok (.aload_n 0, 1) := by decide +kernel
theorem dX6_rate_20 : decode cX6_rate 20 = .ok (.getfield 71, 3) := by decide +kernel
theorem dX6_rate_23 : decode cX6_rate 23 = .ok (.ifCond .le 7, 3) := by decide +kernel
theorem dX6_rate_26 : decode cX6_rate 26 = .ok (.iconst 1, 1) := by decide +kernel
theorem dX6_rate_27 : decode cX6_rate 27 = .ok (.goto 13, 3) := by decide +kernel
theorem dX6_rate_30 : decode cX6_rate 30 = .ok (.iload_n 2, 1) := by decide +kernel
theorem dX6_rate_31 : decode cX6_rate 31 = .ok (.iconst (-1), 1) := by decide +kernel
theorem dX6_rate_32 : decode cX6_rate 32 = .ok (.if_icmp .ne 7, 3) := by decide +kernel
theorem dX6_rate_35 : decode cX6_rate 35 = .ok (.iconst 2, 1) := by decide +kernel
theorem dX6_rate_36 : decode cX6_rate 36 = .ok (.goto 4, 3) := by decide +kernel
theorem dX6_rate_39 : decode cX6_rate 39 = .ok (.iconst 0, 1) := by decide +kernel
theorem dX6_rate_40 : decode cX6_rate 40 = .ok (.putfield 71, 3) := by decide +kernel
theorem dX6_rate_43 : decode cX6_rate 43 = .ok (.aload_n 0, 1) := by decide +kernel
theorem dX6_rate_44 : decode cX6_rate 44 = .ok (.getfield 71, 3) := by decide +kernel
theorem dX6_rate_47 : decode cX6_rate 47 = .ok (.ifCond .le 5, 3) := by decide +kernel
theorem dX6_rate_50 : decode cX6_rate 50 = .ok (.iconst 0, 1) := by decide +kernel
theorem dX6_rate_51 : decode cX6_rate 51 = .ok (.ireturn, 1) := by decide +kernel
theorem dX6_rate_52 : decode cX6_rate 52 = .ok (.aload_n 0, 1) := by decide +kernel
theorem dX6_rate_53 : decode cX6_rate 53 = .ok (.getfield 35, 3) := by decide +kernel
theorem dX6_rate_56 : decode cX6_rate 56 = .ok (.iconst 2, 1) := by decide +kernel
theorem dX6_rate_57 : decode cX6_rate 57 = .ok (.iload_n 2, 1) := by decide +kernel
theorem dX6_rate_58 : decode cX6_rate 58 = .ok (.imul, 1) := by decide +kernel
theorem dX6_rate_59 : decode cX6_rate 59 = .ok (.iconst 1, 1) := by decide +kernel
theorem dX6_rate_60 : decode cX6_rate 60 = .ok (.iadd, 1) := by decide +kernel
theorem dX6_rate_61 : decode cX6_rate 61 = .ok (.iaload, 1) := by decide +kernel
theorem dX6_rate_62 : decode cX6_rate 62 = .ok (.aload_n 0, 1) := by decide +kernel
theorem dX6_rate_63 : decode cX6_rate 63 = .ok (.getfield 35, 3) := by decide +kernel
theorem dX6_rate_66 : decode cX6_rate 66 = .ok (.iconst 2, 1) := by decide +kernel
theorem dX6_rate_67 : decode cX6_rate 67 = .ok (.iload_n 2, 1) := by decide +kernel
theorem dX6_rate_68 : decode cX6_rate 68 = .ok (.imul, 1) := by decide +kernel
theorem dX6_rate_69 : decode cX6_rate 69 = .ok (.iaload, 1) := by decide +kernel
theorem dX6_rate_70 : decode cX6_rate 70 = .ok (.isub, 1) := by decide +kernel
theorem dX6_rate_71 : decode cX6_rate 71 = .ok (.istore_n 3, 1) := by decide +kernel
theorem dX6_rate_72 : decode cX6_rate 72 = .ok (.aload_n 0, 1) := by decide +kernel
theorem dX6_rate_73 : decode cX6_rate 73 = .ok (.getfield 38, 3) := by decide +kernel
theorem dX6_rate_76 : decode cX6_rate 76 = .ok (.iconst 2, 1) := by decide +kernel
theorem dX6_rate_77 : decode cX6_rate 77 = .ok (.iload_n 2, 1) := by decide +kernel
theorem dX6_rate_78 : decode cX6_rate 78 = .ok (.imul, 1) := by decide +kernel
theorem dX6_rate_79 : decode cX6_rate 79 = .ok (.iconst 1, 1) := by decide +kernel
theorem dX6_rate_80 : decode cX6_rate 80 = .ok (.iadd, 1) := by decide +kernel
theorem dX6_rate_81 : decode cX6_rate 81 = .ok (.iaload, 1) := by decide +kernel
theorem dX6_rate_82 : decode cX6_rate 82 = .ok (.aload_n 0, 1) := by decide +kernel
theorem dX6_rate_83 : decode cX6_rate 83 = .ok (.getfield 38, 3) := by decide +kernel
theorem dX6_rate_86 : decode cX6_rate 86 = .ok (.iconst 2, 1) := by decide +kernel
theorem dX6_rate_87 : decode cX6_rate 87 = .ok (.iload_n 2, 1) := by decide +kernel
theorem dX6_rate_88 : decode cX6_rate 88 = .ok (.imul, 1) := by decide +kernel
theorem dX6_rate_89 : decode cX6_rate 89 = .ok (.iaload, 1) := by decide +kernel
theorem dX6_rate_90 : decode cX6_rate 90 = .ok (.isub, 1) := by decide +kernel
theorem dX6_rate_91 : decode cX6_rate 91 = .ok (.istore 4, 2) := by decide +kernel
theorem dX6_rate_93 : decode cX6_rate 93 = .ok (.aload_n 0, 1) := by decide +kernel
theorem dX6_rate_94 : decode cX6_rate 94 = .ok (.getfield 16, 3) := by decide +kernel
theorem dX6_rate_97 : decode cX6_rate 97 = .ok (.iload_n 2, 1) := by decide +kernel
theorem dX6_rate_98 : decode cX6_rate 98 = .ok (.iaload, 1) := by decide +kernel
theorem dX6_rate_99 : decode cX6_rate 99 = .ok (.iconst 1, 1) := by decide +kernel
theorem dX6_rate_100 : decode cX6_rate 100 = .ok (.if_icmp .ne 38, 3) := by decide +kernel
theorem dX6_rate_103 : decode cX6_rate 103 = .ok (.aload_n 0, 1) := by decide +kernel
theorem dX6_rate_104 : decode cX6_rate 104 = .ok (.getfield 32, 3) := by decide +kernel
theorem dX6_rate_107 : decode cX6_rate 107 = .ok (.iload_n 2, 1) := by decide +kernel
theorem dX6_rate_108 : decode cX6_rate 108 = .ok (.iaload, 1) := by decide +kernel
theorem dX6_rate_109 : decode cX6_rate 109 = .ok (.iconst 2, 1) := by decide +kernel
theorem dX6_rate_110 : decode cX6_rate 110 = .ok (.if_icmp .lt 28, 3) := by decide +kernel
theorem dX6_rate_113 : decode cX6_rate 113 = .ok (.iload_n 3, 1) := by decide +kernel
theorem dX6_rate_114 : decode cX6_rate 114 = .ok (.ifCond .eq 24, 3) := by decide +kernel
theorem dX6_rate_117 : decode cX6_rate 117 = .ok (.aload_n 0, 1) := by decide +kernel
theorem dX6_rate_118 : decode cX6_rate 118 = .ok (.getfield 41, 3) := by decide +kernel
theorem dX6_rate_121 : decode cX6_rate 121 = .ok (.iconst 2, 1) := by decide +kernel
theorem dX6_rate_122 : decode cX6_rate 122 = .ok (.iload_n 2, 1) := by decide +kernel
theorem dX6_rate_123 : decode cX6_rate 123 = .ok (.imul, 1) := by decide +kernel
theorem dX6_rate_124 : decode cX6_rate 124 = .ok (.iaload, 1) := by decide +kernel
theorem dX6_rate_125 : decode cX6_rate 125 = .ok (.aload_n 0, 1) := by decide +kernel
theorem dX6_rate_126 : decode cX6_rate 126 = .ok (.getfield 41, 3) := by decide +kernel
theorem dX6_rate_129 : decode cX6_rate 129 = .ok (.iconst 2, 1) := by decide +kernel
theorem dX6_rate_130 : decode cX6_rate 130 = .ok (.iload_n 2, 1) := by decide +kernel
theorem dX6_rate_131 : decode cX6_rate 131 = .ok (.imul, 1) := by decide +kernel
theorem dX6_rate_132 : decode cX6_rate 132 = .ok (.iconst 1, 1) := by decide +kernel
theorem dX6_rate_133 : decode cX6_rate 133 = .ok (.iadd, 1) := by decide +kernel
theorem dX6_rate_134 : decode cX6_rate 134 = .ok (.iaload, 1) := by decide +kernel
theorem dX6_rate_135 : decode cX6_rate 135 = .ok (.if_icmp .eq 7, 3) := by decide +kernel
theorem dX6_rate_138 : decode cX6_rate 138 = .ok (.iconst 1, 1) := by decide +kernel
theorem dX6_rate_139 : decode cX6_rate 139 = .ok (.goto 4, 3) := by decide +kernel
theorem dX6_rate_142 : decode cX6_rate 142 = .ok (.iconst 0, 1) := by decide +kernel
theorem dX6_rate_143 : decode cX6_rate 143 = .ok (.istore 5, 2) := by decide +kernel
theorem dX6_rate_145 : decode cX6_rate 145 = .ok (.iload 5, 2) := by decide +kernel
theorem dX6_rate_147 : decode cX6_rate 147 = .ok (.ifCond .eq 7, 3) := by decide +kernel
theorem dX6_rate_150 : decode cX6_rate 150 = .ok (.iconst (-1), 1) := by decide +kernel
theorem dX6_rate_151 : decode cX6_rate 151 = .ok (.goto 24, 3) := by decide +kernel
theorem dX6_rate_154 : decode cX6_rate 154 = .ok (.iload 4, 2) := by decide +kernel
theorem dX6_rate_156 : decode cX6_rate 156 = .ok (.ifCond .ge 12, 3) := by decide +kernel
theorem dX6_rate_159 : decode cX6_rate 159 = .ok (.iload 4, 2) := by decide +kernel
theorem dX6_rate_161 : decode cX6_rate 161 = .ok (.sipush 1000, 3) := by decide +kernel
theorem dX6_rate_164 : decode cX6_rate 164 = .ok (.iadd, 1) := by decide +kernel
theorem dX6_rate_165 : decode cX6_rate 165 = .ok (.goto 5, 3) := by decide +kernel
theorem dX6_rate_168 : decode cX6_rate 168 = .ok (.iload 4, 2) := by decide +kernel
theorem dX6_rate_170 : decode cX6_rate 170 = .ok (.bipush 60, 2) := by decide +kernel
theorem dX6_rate_172 : decode cX6_rate 172 = .ok (.imul, 1) := by decide +kernel
theorem dX6_rate_173 : decode cX6_rate 173 = .ok (.iload_n 3, 1) := by decide +kernel
theorem dX6_rate_174 : decode cX6_rate 174 = .ok (.idiv, 1) := by decide +kernel
theorem dX6_rate_175 : decode cX6_rate 175 = .ok (.ireturn, 1) := by decide +kernel
theorem dX6_setMarks_0 : decode cX6_setMarks 0 = .ok (.aload_n 0, 1) := by decide +kernel
theorem dX6_setMarks_1 : decode cX6_setMarks 1 = .ok (.iload_n 1, 1) := by decide +kernel
theorem dX6_setMarks_2 : decode cX6_setMarks 2 = .ok (.invokevirtual 99, 3) := by decide +kernel
theorem dX6_setMarks_5 : decode cX6_setMarks 5 = .ok (.ifCond .eq 11, 3) := by decide +kernel
theorem dX6_setMarks_8 : decode cX6_setMarks 8 = .ok (.aload_n 0, 1) := by decide +kernel
theorem dX6_setMarks_9 : decode cX6_setMarks 9 = .ok (.iload_n 1, 1) := by decide +kernel
theorem dX6_setMarks_10 : decode cX6_setMarks 10 = .ok (.invokevirtual 96, 3) := by decide +kernel
theorem dX6_setMarks_13 : decode cX6_setMarks 13 = .ok (.goto 4, 3) := by decide +kernel
theorem dX6_setMarks_16 : decode cX6_setMarks 16 = .ok (.iconst (-1), 1) := by decide +kernel
theorem dX6_setMarks_17 : decode cX6_setMarks 17 = .ok (.istore 4, 2) := by decide +kernel
theorem dX6_setMarks_19 : decode cX6_setMarks 19 = .ok (.iload_n 2, 1) := by decide +kernel
theorem dX6_setMarks_20 : decode cX6_setMarks 20 = .ok (.iconst 0, 1) := by decide +kernel
theorem dX6_setMarks_21 : decode cX6_setMarks 21 = .ok (.sipush 998, 3) := by decide +kernel
theorem dX6_setMarks_24 : decode cX6_setMarks 24 = .ok (.invokestatic 75, 3) := by decide +kernel
theorem dX6_setMarks_27 : decode cX6_setMarks 27 = .ok (.ifCond .eq 23, 3) := by decide +kernel
theorem dX6_setMarks_30 : decode cX6_setMarks 30 = .ok (.iload_n 3, 1) := by decide +kernel
theorem dX6_setMarks_31 : decode cX6_setMarks 31 = .ok (.iconst 1, 1) := by decide +kernel
theorem dX6_setMarks_32 : decode cX6_setMarks 32 = .ok (.sipush 999, 3) := by decide +kernel
theorem dX6_setMarks_35 : decode cX6_setMarks 35 = .ok (.invokestatic 75, 3) := by decide +kernel
theorem dX6_setMarks_38 : decode cX6_setMarks 38 = .ok (.ifCond .eq 12, 3) := by decide +kernel
theorem dX6_setMarks_41 : decode cX6_setMarks 41 = .ok (.iload_n 3, 1) := by decide +kernel
theorem dX6_setMarks_42 : decode cX6_setMarks 42 = .ok (.iload_n 2, 1) := by decide +kernel
theorem dX6_setMarks_43 : decode cX6_setMarks 43 = .ok (.if_icmp .le 7, 3) := by decide +kernel
theorem dX6_setMarks_46 : decode cX6_setMarks 46 = .ok (.iconst 1, 1) := by decide +kernel
theorem dX6_setMarks_47 : decode cX6_setMarks 47 = .ok (.goto 4, 3) := by decide +kernel
theorem dX6_setMarks_50 : decode cX6_setMarks 50 = .ok (.iconst 0, 1) := by decide +kernel
theorem dX6_setMarks_51 : decode cX6_setMarks 51 = .ok (.istore 5, 2) := by decide +kernel
theorem dX6_setMarks_53 : decode cX6_setMarks 53 = .ok (.aload_n 0, 1) := by decide +kernel
theorem dX6_setMarks_54 : decode cX6_setMarks 54 = .ok (.aload_n 0, 1) := by decide +kernel
theorem dX6_setMarks_55 : decode cX6_setMarks 55 = .ok (.getfield 71, 3) := by decide +kernel
theorem dX6_setMarks_58 : decode cX6_setMarks 58 = .ok (.ifCond .le 7, 3) := by decide +kernel
theorem dX6_setMarks_61 : decode cX6_setMarks 61 = .ok (.iconst 1, 1) := by decide +kernel
theorem dX6_setMarks_62 : decode cX6_setMarks 62 = .ok (.goto 23, 3) := by decide +kernel
theorem dX6_setMarks_65 : decode cX6_setMarks 65 = .ok (.iload 5, 2) := by decide +kernel
theorem dX6_setMarks_67 : decode cX6_setMarks 67 = .ok (.ifCond .ne 7, 3) := by decide +kernel
theorem dX6_setMarks_70 : decode cX6_setMarks 70 = .ok (.iconst 2, 1) := by decide +kernel
theorem dX6_setMarks_71 : decode cX6_setMarks 71 = .ok (.goto 14, 3) := by decide +kernel
theorem dX6_setMarks_74 : decode cX6_setMarks 74 = .ok (.iload 4, 2) := by decide +kernel
theorem dX6_setMarks_76 : decode cX6_setMarks 76 = .ok (.iconst (-1), 1) := by decide +kernel
theorem dX6_setMarks_77 : decode cX6_setMarks 77 = .ok (.if_icmp .ne 7, 3) := by decide +kernel
theorem dX6_setMarks_80 : decode cX6_setMarks 80 = .ok (.iconst 3, 1) := by decide +kernel
theorem dX6_setMarks_81 : decode cX6_setMarks 81 = .ok (.goto 4, 3) := by decide +kernel
theorem dX6_setMarks_84 : decode cX6_setMarks 84 = .ok (.iconst 0, 1) := by decide +kernel
theorem dX6_setMarks_85 : decode cX6_setMarks 85 = .ok (.putfield 71, 3) := by decide +kernel
theorem dX6_setMarks_88 : decode cX6_setMarks 88 = .ok (.aload_n 0, 1) := by decide +kernel
theorem dX6_setMarks_89 : decode cX6_setMarks 89 = .ok (.getfield 71, 3) := by decide +kernel
theorem dX6_setMarks_92 : decode cX6_setMarks 92 = .ok (.ifCond .ne 27, 3) := by decide +kernel
theorem dX6_setMarks_95 : decode cX6_setMarks 95 = .ok (.aload_n 0, 1) := by decide +kernel
theorem dX6_setMarks_96 : decode cX6_setMarks 96 = .ok (.getfield 22, 3) := by decide +kernel
theorem dX6_setMarks_99 : decode cX6_setMarks 99 = .ok (.iload 4, 2) := by decide +kernel
theorem dX6_setMarks_101 : decode cX6_setMarks 101 = .ok (.iload_n 2, 1) := by decide +kernel
theorem dX6_setMarks_102 : decode cX6_setMarks 102 = .ok (.iastore, 1) := by decide +kernel
theorem dX6_setMarks_103 : decode cX6_setMarks 103 = .ok (.aload_n 0, 1) := by decide +kernel
theorem dX6_setMarks_104 : decode cX6_setMarks 104 = .ok (.getfield 25, 3) := by decide +kernel
theorem dX6_setMarks_107 : decode cX6_setMarks 107 = .ok (.iload 4, 2) := by decide +kernel
theorem dX6_setMarks_109 : decode cX6_setMarks 109 = .ok (.iload_n 3, 1) := by decide +kernel
theorem dX6_setMarks_110 : decode cX6_setMarks 110 = .ok (.iastore, 1) := by decide +kernel
theorem dX6_setMarks_111 : decode cX6_setMarks 111 = .ok (.aload_n 0, 1) := by decide +kernel
theorem dX6_setMarks_112 : decode cX6_setMarks 112 = .ok (.getfield 28, 3) := by decide +kernel
theorem dX6_setMarks_115 : decode cX6_setMarks 115 = .ok (.iload 4, 2) := by decide +kernel
theorem dX6_setMarks_117 : decode cX6_setMarks 117 = .ok (.iconst 1, 1) := by decide +kernel
theorem dX6_setMarks_118 : decode cX6_setMarks 118 = .ok (.bastore, 1) := by decide +kernel
theorem dX6_setMarks_119 : decode cX6_setMarks 119 = .ok (.return_, 1) := by decide +kernel
theorem dX6_restart_0 : decode cX6_restart 0 = .ok (.aload_n 0, 1) := by decide +kernel
theorem dX6_restart_1 : decode cX6_restart 1 = .ok (.iload_n 1, 1) := by decide +kernel
theorem dX6_restart_2 : decode cX6_restart 2 = .ok (.invokevirtual 99, 3) := by decide +kernel
theorem dX6_restart_5 : decode cX6_restart 5 = .ok (.ifCond .ne 5, 3) := by decide +kernel
theorem dX6_restart_8 : decode cX6_restart 8 = .ok (.iconst 0, 1) := by decide +kernel
theorem dX6_restart_9 : decode cX6_restart 9 = .ok (.ireturn, 1) := by decide +kernel
theorem dX6_restart_10 : decode cX6_restart 10 = .ok (.aload_n 0, 1) := by decide +kernel
theorem dX6_restart_11 : decode cX6_restart 11 = .ok (.getfield 44, 3) := by decide +kernel
theorem dX6_restart_14 : decode cX6_restart 14 = .ok (.iload_n 1, 1) := by decide +kernel
theorem dX6_restart_15 : decode cX6_restart 15 = .ok (.dup2, 1) := by decide +kernel
theorem dX6_restart_16 : decode cX6_restart 16 = .ok (.iaload, 1) := by decide +kernel
theorem dX6_restart_17 : decode cX6_restart 17 = .ok (.iconst 1, 1) := by decide +kernel
theorem dX6_restart_18 : decode cX6_restart 18 = .ok (.iadd, 1) := by decide +kernel
theorem dX6_restart_19 : decode cX6_restart 19 = .ok (.iastore, 1) := by decide +kernel
theorem dX6_restart_20 : decode cX6_restart 20 = .ok (.bipush 20, 2) := by decide +kernel
theorem dX6_restart_22 : decode cX6_restart 22 = .ok (.iload_n 1, 1) := by decide +kernel
theorem dX6_restart_23 : decode cX6_restart 23 = .ok (.imul, 1) := by decide +kernel
theorem dX6_restart_24 : decode cX6_restart 24 = .ok (.istore_n 2, 1) := by decide +kernel
theorem dX6_restart_25 : decode cX6_restart 25 = .ok (.iload_n 2, 1) := by decide +kernel
theorem dX6_restart_26 : decode cX6_restart 26 = .ok (.bipush 20, 2) := by decide +kernel
theorem dX6_restart_28 : decode cX6_restart 28 = .ok (.iload_n 1, 1) := by decide +kernel
theorem dX6_restart_29 : decode cX6_restart 29 = .ok (.imul, 1) := by decide +kernel
theorem dX6_restart_30 : decode cX6_restart 30 = .ok (.aload_n 0, 1) := by decide +kernel
theorem dX6_restart_31 : decode cX6_restart 31 = .ok (.getfield 7, 3) := by decide +kernel
theorem dX6_restart_34 : decode cX6_restart 34 = .ok (.iload_n 1, 1) := by decide +kernel
theorem dX6_restart_35 : decode cX6_restart 35 = .ok (.iaload, 1) := by decide +kernel
theorem dX6_restart_36 : decode cX6_restart 36 = .ok (.iadd, 1) := by decide +kernel
theorem dX6_restart_37 : decode cX6_restart 37 = .ok (.if_icmp .ge 26, 3) := by decide +kernel
theorem dX6_restart_40 : decode cX6_restart 40 = .ok (.aload_n 0, 1) := by decide +kernel
theorem dX6_restart_41 : decode cX6_restart 41 = .ok (.getfield 16, 3) := by decide +kernel
theorem dX6_restart_44 : decode cX6_restart 44 = .ok (.iload_n 2, 1) := by decide +kernel
theorem dX6_restart_45 : decode cX6_restart 45 = .ok (.iaload, 1) := by decide +kernel
theorem dX6_restart_46 : decode cX6_restart 46 = .ok (.iconst 1, 1) := by decide +kernel
theorem dX6_restart_47 : decode cX6_restart 47 = .ok (.if_icmp .ne 10, 3) := by decide +kernel
theorem dX6_restart_50 : decode cX6_restart 50 = .ok (.aload_n 0, 1) := by decide +kernel
theorem dX6_restart_51 : decode cX6_restart 51 = .ok (.iload_n 1, 1) := by decide +kernel
theorem dX6_restart_52 : decode cX6_restart 52 = .ok (.iload_n 2, 1) := by decide +kernel
theorem dX6_restart_53 : decode cX6_restart 53 = .ok (.iconst 0, 1) := by decide +kernel
theorem dX6_restart_54 : decode cX6_restart 54 = .ok (.invokevirtual 119, 3) := by decide +kernel
theorem dX6_restart_57 : decode cX6_restart 57 = .ok (.iinc 2 1, 3) := by decide +kernel
theorem dX6_restart_60 : decode cX6_restart 60 = .ok (.goto (-35), 3) := by decide +kernel
theorem dX6_restart_63 : decode cX6_restart 63 = .ok (.aload_n 0, 1) := by decide +kernel
theorem dX6_restart_64 : decode cX6_restart 64 = .ok (.getfield 44, 3) := by decide +kernel
theorem dX6_restart_67 : decode cX6_restart 67 = .ok (.iload_n 1, 1) := by decide +kernel
theorem dX6_restart_68 : decode cX6_restart 68 = .ok (.iaload, 1) := by decide +kernel
theorem dX6_restart_69 : decode cX6_restart 69 = .ok (.ireturn, 1) := by decide +kernel
theorem dX6_pass_0 : decode cX6_pass 0 = .ok (.aload_n 0, 1) := by decide +kernel
theorem dX6_pass_1 : decode cX6_pass 1 = .ok (.iload_n 1, 1) := by decide +kernel
theorem dX6_pass_2 : decode cX6_pass 2 = .ok (.iconst 1, 1) := by decide +kernel
theorem dX6_pass_3 : decode cX6_pass 3 = .ok (.sipush 1000, 3) := by decide +kernel
theorem dX6_pass_6 : decode cX6_pass 6 = .ok (.invokestatic 75, 3) := by decide +kernel
theorem dX6_pass_9 : decode cX6_pass 9 = .ok (.ifCond .ne 7, 3) := by decide +kernel
theorem dX6_pass_12 : decode cX6_pass 12 = .ok (.iconst 1, 1) := by decide +kernel
theorem dX6_pass_13 : decode cX6_pass 13 = .ok (.goto 19, 3) := by decide +kernel
theorem dX6_pass_16 : decode cX6_pass 16 = .ok (.aload_n 0, 1) := by decide +kernel
theorem dX6_pass_17 : decode cX6_pass 17 = .ok (.getfield 113, 3) := by decide +kernel
theorem dX6_pass_20 : decode cX6_pass 20 = .ok (.iload_n 1, 1) := by decide +kernel
theorem dX6_pass_21 : decode cX6_pass 21 = .ok (.iadd, 1) := by decide +kernel
theorem dX6_pass_22 : decode cX6_pass 22 = .ok (.ldc 133, 2) := by decide +kernel
theorem dX6_pass_24 : decode cX6_pass 24 = .ok (.if_icmp .le 7, 3) := by decide +kernel
theorem dX6_pass_27 : decode cX6_pass 27 = .ok (.iconst 2, 1) := by decide +kernel
theorem dX6_pass_28 : decode cX6_pass 28 = .ok (.goto 4, 3) := by decide +kernel
theorem dX6_pass_31 : decode cX6_pass 31 = .ok (.iconst 0, 1) := by decide +kernel
theorem dX6_pass_32 : decode cX6_pass 32 = .ok (.putfield 71, 3) := by decide +kernel
theorem dX6_pass_35 : decode cX6_pass 35 = .ok (.aload_n 0, 1) := by decide +kernel
theorem dX6_pass_36 : decode cX6_pass 36 = .ok (.dup, 1) := by decide +kernel
theorem dX6_pass_37 : decode cX6_pass 37 = .ok (.getfield 113, 3) := by decide +kernel
theorem dX6_pass_40 : decode cX6_pass 40 = .ok (.aload_n 0, 1) := by decide +kernel
theorem dX6_pass_41 : decode cX6_pass 41 = .ok (.getfield 71, 3) := by decide +kernel
theorem dX6_pass_44 : decode cX6_pass 44 = .ok (.ifCond .ne 7, 3) := by decide +kernel
theorem dX6_pass_47 : decode cX6_pass 47 = .ok (.iload_n 1, 1) := by decide +kernel
theorem dX6_pass_48 : decode cX6_pass 48 = .ok (.goto 4, 3) := by decide +kernel
theorem dX6_pass_51 : decode cX6_pass 51 = .ok (.iconst 0, 1) := by decide +kernel
theorem dX6_pass_52 : decode cX6_pass 52 = .ok (.iadd, 1) := by decide +kernel
theorem dX6_pass_53 : decode cX6_pass 53 = .ok (.putfield 113, 3) := by decide +kernel
theorem dX6_pass_56 : decode cX6_pass 56 = .ok (.aload_n 0, 1) := by decide +kernel
theorem dX6_pass_57 : decode cX6_pass 57 = .ok (.getfield 71, 3) := by decide +kernel
theorem dX6_pass_60 : decode cX6_pass 60 = .ok (.ifCond .le 7, 3) := by decide +kernel
theorem dX6_pass_63 : decode cX6_pass 63 = .ok (.iconst 0, 1) := by decide +kernel
theorem dX6_pass_64 : decode cX6_pass 64 = .ok (.goto 7, 3) := by decide +kernel
theorem dX6_pass_67 : decode cX6_pass 67 = .ok (.aload_n 0, 1) := by decide +kernel
theorem dX6_pass_68 : decode cX6_pass 68 = .ok (.getfield 113, 3) := by decide +kernel
theorem dX6_pass_71 : decode cX6_pass 71 = .ok (.ireturn, 1) := by decide +kernel
theorem dX6_traps_0 : decode cX6_traps 0 = .ok (.aload_n 0, 1) := by decide +kernel
theorem dX6_traps_1 : decode cX6_traps 1 = .ok (.iconst 0, 1) := by decide +kernel
theorem dX6_traps_2 : decode cX6_traps 2 = .ok (.putfield 71, 3) := by decide +kernel
theorem dX6_traps_5 : decode cX6_traps 5 = .ok (.aload_n 0, 1) := by decide +kernel
theorem dX6_traps_6 : decode cX6_traps 6 = .ok (.getfield 107, 3) := by decide +kernel
theorem dX6_traps_9 : decode cX6_traps 9 = .ok (.ireturn, 1) := by decide +kernel
theorem dX6_told_0 : decode cX6_told 0 = .ok (.aload_n 0, 1) := by decide +kernel
theorem dX6_told_1 : decode cX6_told 1 = .ok (.iconst 0, 1) := by decide +kernel
theorem dX6_told_2 : decode cX6_told 2 = .ok (.putfield 71, 3) := by decide +kernel
theorem dX6_told_5 : decode cX6_told 5 = .ok (.iload_n 2, 1) := by decide +kernel
theorem dX6_told_6 : decode cX6_told 6 = .ok (.iconst 0, 1) := by decide +kernel
theorem dX6_told_7 : decode cX6_told 7 = .ok (.aload_n 0, 1) := by decide +kernel
theorem dX6_told_8 : decode cX6_told 8 = .ok (.getfield 107, 3) := by decide +kernel
theorem dX6_told_11 : decode cX6_told 11 = .ok (.iconst 1, 1) := by decide +kernel
theorem dX6_told_12 : decode cX6_told 12 = .ok (.isub, 1) := by decide +kernel
theorem dX6_told_13 : decode cX6_told 13 = .ok (.invokestatic 75, 3) := by decide +kernel
theorem dX6_told_16 : decode cX6_told 16 = .ok (.ifCond .eq 9, 3) := by decide +kernel
theorem dX6_told_19 : decode cX6_told 19 = .ok (.aload_n 1, 1) := by decide +kernel
theorem dX6_told_20 : decode cX6_told 20 = .ok (.iload_n 2, 1) := by decide +kernel
theorem dX6_told_21 : decode cX6_told 21 = .ok (.iaload, 1) := by decide +kernel
theorem dX6_told_22 : decode cX6_told 22 = .ok (.goto 8, 3) := by decide +kernel
theorem dX6_told_25 : decode cX6_told 25 = .ok (.aload_n 0, 1) := by decide +kernel
theorem dX6_told_26 : decode cX6_told 26 = .ok (.iconst 1, 1) := by decide +kernel
theorem dX6_told_27 : decode cX6_told 27 = .ok (.invokevirtual 93, 3) := by decide +kernel
theorem dX6_told_30 : decode cX6_told 30 = .ok (.ireturn, 1) := by decide +kernel
theorem dX6_trapOf_0 : decode cX6_trapOf 0 = .ok (.aload_n 0, 1) := by decide +kernel
theorem dX6_trapOf_1 : decode cX6_trapOf 1 = .ok (.aload_n 0, 1) := by decide +kernel
theorem dX6_trapOf_2 : decode cX6_trapOf 2 = .ok (.getfield 56, 3) := by decide +kernel
theorem dX6_trapOf_5 : decode cX6_trapOf 5 = .ok (.iload_n 1, 1) := by decide +kernel
theorem dX6_trapOf_6 : decode cX6_trapOf 6 = .ok (.invokevirtual 134, 3) := by decide +kernel
theorem dX6_trapOf_9 : decode cX6_trapOf 9 = .ok (.ireturn, 1) := by decide +kernel
theorem dX6_trapAt_0 : decode cX6_trapAt 0 = .ok (.aload_n 0, 1) := by decide +kernel
theorem dX6_trapAt_1 : decode cX6_trapAt 1 = .ok (.aload_n 0, 1) := by decide +kernel
theorem dX6_trapAt_2 : decode cX6_trapAt 2 = .ok (.getfield 62, 3) := by decide +kernel
theorem dX6_trapAt_5 : decode cX6_trapAt 5 = .ok (.iload_n 1, 1) := by decide +kernel
theorem dX6_trapAt_6 : decode cX6_trapAt 6 = .ok (.invokevirtual 134, 3) := by decide +kernel
theorem dX6_trapAt_9 : decode cX6_trapAt 9 = .ok (.ireturn, 1) := by decide +kernel
theorem dX6_repeats_0 : decode cX6_repeats 0 = .ok (.aload_n 0, 1) := by decide +kernel
theorem dX6_repeats_1 : decode cX6_repeats 1 = .ok (.aload_n 0, 1) := by decide +kernel
theorem dX6_repeats_2 : decode cX6_repeats 2 = .ok (.getfield 65, 3) := by decide +kernel
theorem dX6_repeats_5 : decode cX6_repeats 5 = .ok (.iload_n 1, 1) := by decide +kernel
theorem dX6_repeats_6 : decode cX6_repeats 6 = .ok (.invokevirtual 134, 3) := by decide +kernel
theorem dX6_repeats_9 : decode cX6_repeats 9 = .ok (.ireturn, 1) := by decide +kernel
theorem dX6_setNeighbour_0 : decode cX6_setNeighbour 0 = .ok (.iload_n 1, 1) := by decide +kernel
theorem dX6_setNeighbour_1 : decode cX6_setNeighbour 1 = .ok (.iconst 0, 1) := by decide +kernel
theorem dX6_setNeighbour_2 : decode cX6_setNeighbour 2 = .ok (.iconst 3, 1) := by decide +kernel
theorem dX6_setNeighbour_3 : decode cX6_setNeighbour 3 = .ok (.invokestatic 75, 3) := by decide +kernel
theorem dX6_setNeighbour_6 : decode cX6_setNeighbour 6 = .ok (.ifCond .eq 25, 3) := by decide +kernel
theorem dX6_setNeighbour_9 : decode cX6_setNeighbour 9 = .ok (.iload_n 2, 1) := by decide +kernel
theorem dX6_setNeighbour_10 : decode cX6_setNeighbour 10 = .ok (.iconst 0, 1) := by decide +kernel
theorem dX6_setNeighbour_11 : decode cX6_setNeighbour 11 = .ok (.iconst 3, 1) := by decide +kernel
theorem dX6_setNeighbour_12 : decode cX6_setNeighbour 12 = .ok (.invokestatic 75, 3) := by decide +kernel
theorem dX6_setNeighbour_15 : decode cX6_setNeighbour 15 = .ok (.ifCond .eq 16, 3) := by decide +kernel
theorem dX6_setNeighbour_18 : decode cX6_setNeighbour 18 = .ok (.iload_n 3, 1) := by decide +kernel
theorem dX6_setNeighbour_19 : decode cX6_setNeighbour 19 = .ok (.iconst (-1), 1) := by decide +kernel
theorem dX6_setNeighbour_20 : decode cX6_setNeighbour 20 = .ok (.iconst 3, 1) := by decide +kernel
theorem dX6_setNeighbour_21 : decode cX6_setNeighbour 21 = .ok (.invokestatic 75, 3) := by decide +kernel
theorem dX6_setNeighbour_24 : decode cX6_setNeighbour 24 = .ok (.ifCond .eq 7, 3) := by decide +kernel
theorem dX6_setNeighbour_27 : decode cX6_setNeighbour 27 = .ok (.iconst 1, 1) := by decide +kernel
theorem dX6_setNeighbour_28 : decode cX6_setNeighbour 28 = .ok (.goto 4, 3) := by decide +kernel
theorem dX6_setNeighbour_31 : decode cX6_setNeighbour 31 = .ok (.iconst 0, 1) := by decide +kernel
theorem dX6_setNeighbour_32 : decode cX6_setNeighbour 32 = .ok (.istore 4, 2) := by decide +kernel
theorem dX6_setNeighbour_34 : decode cX6_setNeighbour 34 = .ok (.aload_n 0, 1) := by decide +kernel
theorem dX6_setNeighbour_35 : decode cX6_setNeighbour 35 = .ok (.iload 4, 2) := by decide +kernel
theorem dX6_setNeighbour_37 : decode cX6_setNeighbour 37 = .ok (.ifCond .ne 7, 3) := by decide +kernel
theorem dX6_setNeighbour_40 : decode cX6_setNeighbour 40 = .ok (.iconst 1, 1) := by decide +kernel
theorem dX6_setNeighbour_41 : decode cX6_setNeighbour 41 = .ok (.goto 13, 3) := by decide +kernel
theorem dX6_setNeighbour_44 : decode cX6_setNeighbour 44 = .ok (.iload_n 1, 1) := by decide +kernel
theorem dX6_setNeighbour_45 : decode cX6_setNeighbour 45 = .ok (.iload_n 3, 1) := by decide +kernel
theorem dX6_setNeighbour_46 : decode cX6_setNeighbour 46 = .ok (.if_icmp .ne 7, 3) := by decide +kernel
theorem dX6_setNeighbour_49 : decode cX6_setNeighbour 49 = .ok (.iconst 2, 1) := by decide +kernel
theorem dX6_setNeighbour_50 : decode cX6_setNeighbour 50 = .ok (.goto 4, 3) := by decide +kernel
theorem dX6_setNeighbour_53 : decode cX6_setNeighbour 53 = .ok (.iconst 0, 1) := by decide +kernel
theorem dX6_setNeighbour_54 : decode cX6_setNeighbour 54 = .ok (.putfield 71, 3) := by decide +kernel
theorem dX6_setNeighbour_57 : decode cX6_setNeighbour 57 = .ok (.aload_n 0, 1) := by decide +kernel
theorem dX6_setNeighbour_58 : decode cX6_setNeighbour 58 = .ok (.getfield 71, 3) := by decide +kernel
theorem dX6_setNeighbour_61 : decode cX6_setNeighbour 61 = .ok (.ifCond .le 5, 3) := by decide +kernel
theorem dX6_setNeighbour_64 : decode cX6_setNeighbour 64 = .ok (.iconst 0, 1) := by decide +kernel
theorem dX6_setNeighbour_65 : decode cX6_setNeighbour 65 = .ok (.ireturn, 1) := by decide +kernel
theorem dX6_setNeighbour_66 : decode cX6_setNeighbour 66 = .ok (.aload_n 0, 1) := by decide +kernel
theorem dX6_setNeighbour_67 : decode cX6_setNeighbour 67 = .ok (.getfield 68, 3) := by decide +kernel
theorem dX6_setNeighbour_70 : decode cX6_setNeighbour 70 = .ok (.iconst 4, 1) := by decide +kernel
theorem dX6_setNeighbour_71 : decode cX6_setNeighbour 71 = .ok (.iload_n 1, 1) := by decide +kernel
theorem dX6_setNeighbour_72 : decode cX6_setNeighbour 72 = .ok (.imul, 1) := by decide +kernel
theorem dX6_setNeighbour_73 : decode cX6_setNeighbour 73 = .ok (.iload_n 2, 1) := by decide +kernel
theorem dX6_setNeighbour_74 : decode cX6_setNeighbour 74 = .ok (.iadd, 1) := by decide +kernel
theorem dX6_setNeighbour_75 : decode cX6_setNeighbour 75 = .ok (.iaload, 1) := by decide +kernel
theorem dX6_setNeighbour_76 : decode cX6_setNeighbour 76 = .ok (.iconst 1, 1) := by decide +kernel
theorem dX6_setNeighbour_77 : decode cX6_setNeighbour 77 = .ok (.isub, 1) := by decide +kernel
theorem dX6_setNeighbour_78 : decode cX6_setNeighbour 78 = .ok (.istore 5, 2) := by decide +kernel
theorem dX6_setNeighbour_80 : decode cX6_setNeighbour 80 = .ok (.aload_n 0, 1) := by decide +kernel
theorem dX6_setNeighbour_81 : decode cX6_setNeighbour 81 = .ok (.getfield 68, 3) := by decide +kernel
theorem dX6_setNeighbour_84 : decode cX6_setNeighbour 84 = .ok (.iconst 4, 1) := by decide +kernel
theorem dX6_setNeighbour_85 : decode cX6_setNeighbour 85 = .ok (.iload_n 1, 1) := by decide +kernel
theorem dX6_setNeighbour_86 : decode cX6_setNeighbour 86 = .ok (.imul, 1) := by decide +kernel
theorem dX6_setNeighbour_87 : decode cX6_setNeighbour 87 = .ok (.iload_n 2, 1) := by decide +kernel
theorem dX6_setNeighbour_88 : decode cX6_setNeighbour 88 = .ok (.iadd, 1) := by decide +kernel
theorem dX6_setNeighbour_89 : decode cX6_setNeighbour 89 = .ok (.iload_n 3, 1) := by decide +kernel
theorem dX6_setNeighbour_90 : decode cX6_setNeighbour 90 = .ok (.iconst 1, 1) := by decide +kernel
theorem dX6_setNeighbour_91 : decode cX6_setNeighbour 91 = .ok (.iadd, 1) := by decide +kernel
theorem dX6_setNeighbour_92 : decode cX6_setNeighbour 92 = .ok (.iastore, 1) := by decide +kernel
theorem dX6_setNeighbour_93 : decode cX6_setNeighbour 93 = .ok (.iload 5, 2) := by decide +kernel
theorem dX6_setNeighbour_95 : decode cX6_setNeighbour 95 = .ok (.ireturn, 1) := by decide +kernel
theorem dX6_names_0 : decode cX6_names 0 = .ok (.iconst 0, 1) := by decide +kernel
theorem dX6_names_1 : decode cX6_names 1 = .ok (.istore_n 3, 1) := by decide +kernel
theorem dX6_names_2 : decode cX6_names 2 = .ok (.iconst 0, 1) := by decide +kernel
theorem dX6_names_3 : decode cX6_names 3 = .ok (.istore 4, 2) := by decide +kernel
theorem dX6_names_5 : decode cX6_names 5 = .ok (.iload 4, 2) := by decide +kernel
theorem dX6_names_7 : decode cX6_names 7 = .ok (.iconst 4, 1) := by decide +kernel
theorem dX6_names_8 : decode cX6_names 8 = .ok (.if_icmp .ge 36, 3) := by decide +kernel
theorem dX6_names_11 : decode cX6_names 11 = .ok (.iload_n 3, 1) := by decide +kernel
theorem dX6_names_12 : decode cX6_names 12 = .ok (.ifCond .ne 20, 3) := by decide +kernel
theorem dX6_names_15 : decode cX6_names 15 = .ok (.aload_n 0, 1) := by decide +kernel
theorem dX6_names_16 : decode cX6_names 16 = .ok (.getfield 68, 3) := by decide +kernel
theorem dX6_names_19 : decode cX6_names 19 = .ok (.iconst 4, 1) := by decide +kernel
theorem dX6_names_20 : decode cX6_names 20 = .ok (.iload_n 1, 1) := by decide +kernel
theorem dX6_names_21 : decode cX6_names 21 = .ok (.imul, 1) := by decide +kernel
theorem dX6_names_22 : decode cX6_names 22 = .ok (.iload 4, 2) := by decide +kernel
theorem dX6_names_24 : decode cX6_names 24 = .ok (.iadd, 1) := by decide +kernel
theorem dX6_names_25 : decode cX6_names 25 = .ok (.iaload, 1) := by decide +kernel
theorem dX6_names_26 : decode cX6_names 26 = .ok (.iload_n 2, 1) := by decide +kernel
theorem dX6_names_27 : decode cX6_names 27 = .ok (.iconst 1, 1) := by decide +kernel
theorem dX6_names_28 : decode cX6_names 28 = .ok (.iadd, 1) := by decide +kernel
theorem dX6_names_29 : decode cX6_names 29 = .ok (.if_icmp .ne 7, 3) := by decide +kernel
theorem dX6_names_32 : decode cX6_names 32 = .ok (.iconst 1, 1) := by decide +kernel
theorem dX6_names_33 : decode cX6_names 33 = .ok (.goto 4, 3) := by decide +kernel
theorem dX6_names_36 : decode cX6_names 36 = .ok (.iconst 0, 1) := by decide +kernel
theorem dX6_names_37 : decode cX6_names 37 = .ok (.istore_n 3, 1) := by decide +kernel
theorem dX6_names_38 : decode cX6_names 38 = .ok (.iinc 4 1, 3) := by decide +kernel
theorem dX6_names_41 : decode cX6_names 41 = .ok (.goto (-36), 3) := by decide +kernel
theorem dX6_names_44 : decode cX6_names 44 = .ok (.iload_n 3, 1) := by decide +kernel
theorem dX6_names_45 : decode cX6_names 45 = .ok (.ireturn, 1) := by decide +kernel
theorem dX6_reach_0 : decode cX6_reach 0 = .ok (.aload_n 0, 1) := by decide +kernel
theorem dX6_reach_1 : decode cX6_reach 1 = .ok (.iload_n 1, 1) := by decide +kernel
theorem dX6_reach_2 : decode cX6_reach 2 = .ok (.invokevirtual 99, 3) := by decide +kernel
theorem dX6_reach_5 : decode cX6_reach 5 = .ok (.ifCond .ne 5, 3) := by decide +kernel
theorem dX6_reach_8 : decode cX6_reach 8 = .ok (.iconst 0, 1) := by decide +kernel
theorem dX6_reach_9 : decode cX6_reach 9 = .ok (.ireturn, 1) := by decide +kernel
theorem dX6_reach_10 : decode cX6_reach 10 = .ok (.iconst 1, 1) := by decide +kernel
theorem dX6_reach_11 : decode cX6_reach 11 = .ok (.iload_n 1, 1) := by decide +kernel
theorem dX6_reach_12 : decode cX6_reach 12 = .ok (.ishl, 1) := by decide +kernel
theorem dX6_reach_13 : decode cX6_reach 13 = .ok (.istore_n 2, 1) := by decide +kernel
theorem dX6_reach_14 : decode cX6_reach 14 = .ok (.iconst 0, 1) := by decide +kernel
theorem dX6_reach_15 : decode cX6_reach 15 = .ok (.istore_n 3, 1) := by decide +kernel
theorem dX6_reach_16 : decode cX6_reach 16 = .ok (.iload_n 3, 1) := by decide +kernel
theorem dX6_reach_17 : decode cX6_reach 17 = .ok (.iconst 4, 1) := by decide +kernel
theorem dX6_reach_18 : decode cX6_reach 18 = .ok (.if_icmp .ge 92, 3) := by decide +kernel
theorem dX6_reach_21 : decode cX6_reach 21 = .ok (.iconst 0, 1) := by decide +kernel
theorem dX6_reach_22 : decode cX6_reach 22 = .ok (.istore 4, 2) := by decide +kernel
theorem dX6_reach_24 : decode cX6_reach 24 = .ok (.iload 4, 2) := by decide +kernel
theorem dX6_reach_26 : decode cX6_reach 26 = .ok (.bipush 16, 2) := by decide +kernel
theorem dX6_reach_28 : decode cX6_reach 28 = .ok (.if_icmp .ge 76, 3) := by decide +kernel
theorem dX6_reach_31 : decode cX6_reach 31 = .ok (.iload_n 2, 1) := by decide +kernel
theorem dX6_reach_32 : decode cX6_reach 32 = .ok (.iload 4, 2) := by decide +kernel
theorem dX6_reach_34 : decode cX6_reach 34 = .ok (.iconst 4, 1) := by decide +kernel
theorem dX6_reach_35 : decode cX6_reach 35 = .ok (.idiv, 1) := by decide +kernel
theorem dX6_reach_36 : decode cX6_reach 36 = .ok (.ishr, 1) := by decide +kernel
theorem dX6_reach_37 : decode cX6_reach 37 = .ok (.iconst 1, 1) := by decide +kernel
theorem dX6_reach_38 : decode cX6_reach 38 = .ok (.iand, 1) := by decide +kernel
theorem dX6_reach_39 : decode cX6_reach 39 = .ok (.iconst 1, 1) := by decide +kernel
theorem dX6_reach_40 : decode cX6_reach 40 = .ok (.if_icmp .ne 37, 3) := by decide +kernel
theorem dX6_reach_43 : decode cX6_reach 43 = .ok (.aload_n 0, 1) := by decide +kernel
theorem dX6_reach_44 : decode cX6_reach 44 = .ok (.iload 4, 2) := by decide +kernel
theorem dX6_reach_46 : decode cX6_reach 46 = .ok (.iconst 4, 1) := by decide +kernel
theorem dX6_reach_47 : decode cX6_reach 47 = .ok (.idiv, 1) := by decide +kernel
theorem dX6_reach_48 : decode cX6_reach 48 = .ok (.iload 4, 2) := by decide +kernel
theorem dX6_reach_50 : decode cX6_reach 50 = .ok (.iconst 4, 1) := by decide +kernel
theorem dX6_reach_51 : decode cX6_reach 51 = .ok (.irem, 1) := by decide +kernel
theorem dX6_reach_52 : decode cX6_reach 52 = .ok (.invokevirtual 138, 3) := by decide +kernel
theorem dX6_reach_55 : decode cX6_reach 55 = .ok (.ifCond .eq 22, 3) := by decide +kernel
theorem dX6_reach_58 : decode cX6_reach 58 = .ok (.aload_n 0, 1) := by decide +kernel
theorem dX6_reach_59 : decode cX6_reach 59 = .ok (.iload 4, 2) := by decide +kernel
theorem dX6_reach_61 : decode cX6_reach 61 = .ok (.iconst 4, 1) := by decide +kernel
theorem dX6_reach_62 : decode cX6_reach 62 = .ok (.irem, 1) := by decide +kernel
theorem dX6_reach_63 : decode cX6_reach 63 = .ok (.iload 4, 2) := by decide +kernel
theorem dX6_reach_65 : decode cX6_reach 65 = .ok (.iconst 4, 1) := by decide +kernel
theorem dX6_reach_66 : decode cX6_reach 66 = .ok (.idiv, 1) := by decide +kernel
theorem dX6_reach_67 : decode cX6_reach 67 = .ok (.invokevirtual 138, 3) := by decide +kernel
theorem dX6_reach_70 : decode cX6_reach 70 = .ok (.ifCond .eq 7, 3) := by decide +kernel
theorem dX6_reach_73 : decode cX6_reach 73 = .ok (.iconst 1, 1) := by decide +kernel
theorem dX6_reach_74 : decode cX6_reach 74 = .ok (.goto 4, 3) := by decide +kernel
theorem dX6_reach_77 : decode cX6_reach 77 = .ok (.iconst 0, 1) := by decide +kernel
theorem dX6_reach_78 : decode cX6_reach 78 = .ok (.istore 5, 2) := by decide +kernel
theorem dX6_reach_80 : decode cX6_reach 80 = .ok (.iload_n 2, 1) := by decide +kernel
theorem dX6_reach_81 : decode cX6_reach 81 = .ok (.iload 5, 2) := by decide +kernel
theorem dX6_reach_83 : decode cX6_reach 83 = .ok (.ifCond .eq 12, 3) := by decide +kernel
theorem dX6_reach_86 : decode cX6_reach 86 = .ok (.iconst 1, 1) := by decide +kernel
theorem dX6_reach_87 : decode cX6_reach 87 = .ok (.iload 4, 2) := by decide +kernel
theorem dX6_reach_89 : decode cX6_reach 89 = .ok (.iconst 4, 1) := by decide +kernel
theorem dX6_reach_90 : decode cX6_reach 90 = .ok (.irem, 1) := by decide +kernel
theorem dX6_reach_91 : decode cX6_reach 91 = .ok (.ishl, 1) := by decide +kernel
theorem dX6_reach_92 : decode cX6_reach 92 = .ok (.goto 4, 3) := by decide +kernel
theorem dX6_reach_95 : decode cX6_reach 95 = .ok (.iconst 0, 1) := by decide +kernel
theorem dX6_reach_96 : decode cX6_reach 96 = .ok (.ior, 1) := by decide +kernel
theorem dX6_reach_97 : decode cX6_reach 97 = .ok (.istore_n 2, 1) := by decide +kernel
theorem dX6_reach_98 : decode cX6_reach 98 = .ok (.iinc 4 1, 3) := by decide +kernel
theorem dX6_reach_101 : decode cX6_reach 101 = .ok (.goto (-77), 3) := by decide +kernel
theorem dX6_reach_104 : decode cX6_reach 104 = .ok (.iinc 3 1, 3) := by decide +kernel
theorem dX6_reach_107 : decode cX6_reach 107 = .ok (.goto (-91), 3) := by decide +kernel
theorem dX6_reach_110 : decode cX6_reach 110 = .ok (.iload_n 2, 1) := by decide +kernel
theorem dX6_reach_111 : decode cX6_reach 111 = .ok (.ireturn, 1) := by decide +kernel
theorem dX6_halves_0 : decode cX6_halves 0 = .ok (.aload_n 0, 1) := by decide +kernel
theorem dX6_halves_1 : decode cX6_halves 1 = .ok (.iconst 0, 1) := by decide +kernel
theorem dX6_halves_2 : decode cX6_halves 2 = .ok (.putfield 71, 3) := by decide +kernel
theorem dX6_halves_5 : decode cX6_halves 5 = .ok (.iconst 0, 1) := by decide +kernel
theorem dX6_halves_6 : decode cX6_halves 6 = .ok (.istore_n 1, 1) := by decide +kernel
theorem dX6_halves_7 : decode cX6_halves 7 = .ok (.iconst 0, 1) := by decide +kernel
theorem dX6_halves_8 : decode cX6_halves 8 = .ok (.istore_n 2, 1) := by decide +kernel
theorem dX6_halves_9 : decode cX6_halves 9 = .ok (.iload_n 2, 1) := by decide +kernel
theorem dX6_halves_10 : decode cX6_halves 10 = .ok (.iconst 4, 1) := by decide +kernel
theorem dX6_halves_11 : decode cX6_halves 11 = .ok (.if_icmp .ge 45, 3) := by decide +kernel
theorem dX6_halves_14 : decode cX6_halves 14 = .ok (.iconst 0, 1) := by decide +kernel
theorem dX6_halves_15 : decode cX6_halves 15 = .ok (.istore_n 3, 1) := by decide +kernel
theorem dX6_halves_16 : decode cX6_halves 16 = .ok (.iload_n 3, 1) := by decide +kernel
theorem dX6_halves_17 : decode cX6_halves 17 = .ok (.iload_n 2, 1) := by decide +kernel
theorem dX6_halves_18 : decode cX6_halves 18 = .ok (.if_icmp .ge 32, 3) := by decide +kernel
theorem dX6_halves_21 : decode cX6_halves 21 = .ok (.iload_n 1, 1) := by decide +kernel
theorem dX6_halves_22 : decode cX6_halves 22 = .ok (.aload_n 0, 1) := by decide +kernel
theorem dX6_halves_23 : decode cX6_halves 23 = .ok (.iload_n 2, 1) := by decide +kernel
theorem dX6_halves_24 : decode cX6_halves 24 = .ok (.iload_n 3, 1) := by decide +kernel
theorem dX6_halves_25 : decode cX6_halves 25 = .ok (.invokevirtual 138, 3) := by decide +kernel
theorem dX6_halves_28 : decode cX6_halves 28 = .ok (.aload_n 0, 1) := by decide +kernel
theorem dX6_halves_29 : decode cX6_halves 29 = .ok (.iload_n 3, 1) := by decide +kernel
theorem dX6_halves_30 : decode cX6_halves 30 = .ok (.iload_n 2, 1) := by decide +kernel
theorem dX6_halves_31 : decode cX6_halves 31 = .ok (.invokevirtual 138, 3) := by decide +kernel
theorem dX6_halves_34 : decode cX6_halves 34 = .ok (.if_icmp .ne 7, 3) := by decide +kernel
theorem dX6_halves_37 : decode cX6_halves 37 = .ok (.iconst 0, 1) := by decide +kernel
theorem dX6_halves_38 : decode cX6_halves 38 = .ok (.goto 4, 3) := by decide +kernel
theorem dX6_halves_41 : decode cX6_halves 41 = .ok (.iconst 1, 1) := by decide +kernel
theorem dX6_halves_42 : decode cX6_halves 42 = .ok (.iadd, 1) := by decide +kernel
theorem dX6_halves_43 : decode cX6_halves 43 = .ok (.istore_n 1, 1) := by decide +kernel
theorem dX6_halves_44 : decode cX6_halves 44 = .ok (.iinc 3 1, 3) := by decide +kernel
theorem dX6_halves_47 : decode cX6_halves 47 = .ok (.goto (-31), 3) := by decide +kernel
theorem dX6_halves_50 : decode cX6_halves 50 = .ok (.iinc 2 1, 3) := by decide +kernel
theorem dX6_halves_53 : decode cX6_halves 53 = .ok (.goto (-44), 3) := by decide +kernel
theorem dX6_halves_56 : decode cX6_halves 56 = .ok (.iload_n 1, 1) := by decide +kernel
theorem dX6_halves_57 : decode cX6_halves 57 = .ok (.ireturn, 1) := by decide +kernel
