theorem dM_init_0 : decode cM_init 0 = .ok (.aload_n 0, 1) := by decide +kernel
theorem dM_init_1 : decode cM_init 1 = .ok (.invokespecial 1, 3) := by decide +kernel
theorem dM_init_4 : decode cM_init 4 = .ok (.aload_n 0, 1) := by decide +kernel
theorem dM_init_5 : decode cM_init 5 = .ok (.sipush 3200, 3) := by decide +kernel
theorem dM_init_8 : decode cM_init 8 = .ok (.newarray .long, 2) := by decide +kernel
theorem dM_init_10 : decode cM_init 10 = .ok (.putfield 7, 3) := by decide +kernel
theorem dM_init_13 : decode cM_init 13 = .ok (.aload_n 0, 1) := by decide +kernel
theorem dM_init_14 : decode cM_init 14 = .ok (.bipush 50, 2) := by decide +kernel
theorem dM_init_16 : decode cM_init 16 = .ok (.newarray .boolean, 2) := by decide +kernel
theorem dM_init_18 : decode cM_init 18 = .ok (.putfield 13, 3) := by decide +kernel
theorem dM_init_21 : decode cM_init 21 = .ok (.aload_n 0, 1) := by decide +kernel
theorem dM_init_22 : decode cM_init 22 = .ok (.bipush 64, 2) := by decide +kernel
theorem dM_init_24 : decode cM_init 24 = .ok (.newarray .int, 2) := by decide +kernel
theorem dM_init_26 : decode cM_init 26 = .ok (.putfield 17, 3) := by decide +kernel
theorem dM_init_29 : decode cM_init 29 = .ok (.aload_n 0, 1) := by decide +kernel
theorem dM_init_30 : decode cM_init 30 = .ok (.bipush 64, 2) := by decide +kernel
theorem dM_init_32 : decode cM_init 32 = .ok (.newarray .int, 2) := by decide +kernel
theorem dM_init_34 : decode cM_init 34 = .ok (.putfield 21, 3) := by decide +kernel
theorem dM_init_37 : decode cM_init 37 = .ok (.return_, 1) := by decide +kernel
theorem dM_thrown_0 : decode cM_thrown 0 = .ok (.aload_n 0, 1) := by decide +kernel
theorem dM_thrown_1 : decode cM_thrown 1 = .ok (.getfield 24, 3) := by decide +kernel
theorem dM_thrown_4 : decode cM_thrown 4 = .ok (.ireturn, 1) := by decide +kernel
theorem dM_raise_0 : decode cM_raise 0 = .ok (.aload_n 0, 1) := by decide +kernel
theorem dM_raise_1 : decode cM_raise 1 = .ok (.iload_n 1, 1) := by decide +kernel
theorem dM_raise_2 : decode cM_raise 2 = .ok (.putfield 24, 3) := by decide +kernel
theorem dM_raise_5 : decode cM_raise 5 = .ok (.iconst 0, 1) := by decide +kernel
theorem dM_raise_6 : decode cM_raise 6 = .ok (.ireturn, 1) := by decide +kernel
theorem dM_in_0 : decode cM_in 0 = .ok (.iload_n 0, 1) := by decide +kernel
theorem dM_in_1 : decode cM_in 1 = .ok (.iload_n 1, 1) := by decide +kernel
theorem dM_in_2 : decode cM_in 2 = .ok (.if_icmp .lt 12, 3) := by decide +kernel
theorem dM_in_5 : decode cM_in 5 = .ok (.iload_n 0, 1) := by decide +kernel
theorem dM_in_6 : decode cM_in 6 = .ok (.iload_n 2, 1) := by decide +kernel
theorem dM_in_7 : decode cM_in 7 = .ok (.if_icmp .gt 7, 3) := by decide +kernel
theorem dM_in_10 : decode cM_in 10 = .ok (.iconst 1, 1) := by decide +kernel
theorem dM_in_11 : decode cM_in 11 = .ok (.goto 4, 3) := by decide +kernel
theorem dM_in_14 : decode cM_in 14 = .ok (.iconst 0, 1) := by decide +kernel
theorem dM_in_15 : decode cM_in 15 = .ok (.ireturn, 1) := by decide +kernel
theorem dM_made_0 : decode cM_made 0 = .ok (.iload_n 1, 1) := by decide +kernel
theorem dM_made_1 : decode cM_made 1 = .ok (.iconst 0, 1) := by decide +kernel
theorem dM_made_2 : decode cM_made 2 = .ok (.aload_n 0, 1) := by decide +kernel
theorem dM_made_3 : decode cM_made 3 = .ok (.getfield 28, 3) := by decide +kernel
theorem dM_made_6 : decode cM_made 6 = .ok (.iconst 1, 1) := by decide +kernel
theorem dM_made_7 : decode cM_made 7 = .ok (.isub, 1) := by decide +kernel
theorem dM_made_8 : decode cM_made 8 = .ok (.invokestatic 31, 3) := by decide +kernel
theorem dM_made_11 : decode cM_made 11 = .ok (.ireturn, 1) := by decide +kernel
theorem dM_value_0 : decode cM_value 0 = .ok (.iload_n 0, 1) := by decide +kernel
theorem dM_value_1 : decode cM_value 1 = .ok (.iconst 4, 1) := by decide +kernel
theorem dM_value_2 : decode cM_value 2 = .ok (.iconst 2, 1) := by decide +kernel
theorem dM_value_3 : decode cM_value 3 = .ok (.iload_n 1, 1) := by decide +kernel
theorem dM_value_4 : decode cM_value 4 = .ok (.imul, 1) := by decide +kernel
theorem dM_value_5 : decode cM_value 5 = .ok (.isub, 1) := by decide +kernel
theorem dM_value_6 : decode cM_value 6 = .ok (.ishr, 1) := by decide +kernel
theorem dM_value_7 : decode cM_value 7 = .ok (.iconst 3, 1) := by decide +kernel
theorem dM_value_8 : decode cM_value 8 = .ok (.iand, 1) := by decide +kernel
theorem dM_value_9 : decode cM_value 9 = .ok (.ireturn, 1) := by decide +kernel
theorem dM_with_0 : decode cM_with 0 = .ok (.iload_n 0, 1) := by decide +kernel
theorem dM_with_1 : decode cM_with 1 = .ok (.iload_n 2, 1) := by decide +kernel
theorem dM_with_2 : decode cM_with 2 = .ok (.iload_n 0, 1) := by decide +kernel
theorem dM_with_3 : decode cM_with 3 = .ok (.iload_n 1, 1) := by decide +kernel
theorem dM_with_4 : decode cM_with 4 = .ok (.invokestatic 35, 3) := by decide +kernel
theorem dM_with_7 : decode cM_with 7 = .ok (.isub, 1) := by decide +kernel
theorem dM_with_8 : decode cM_with 8 = .ok (.iconst 4, 1) := by decide +kernel
theorem dM_with_9 : decode cM_with 9 = .ok (.iconst 2, 1) := by decide +kernel
theorem dM_with_10 : decode cM_with 10 = .ok (.iload_n 1, 1) := by decide +kernel
theorem dM_with_11 : decode cM_with 11 = .ok (.imul, 1) := by decide +kernel
theorem dM_with_12 : decode cM_with 12 = .ok (.isub, 1) := by decide +kernel
theorem dM_with_13 : decode cM_with 13 = .ok (.ishl, 1) := by decide +kernel
theorem dM_with_14 : decode cM_with 14 = .ok (.iadd, 1) := by decide +kernel
theorem dM_with_15 : decode cM_with 15 = .ok (.ireturn, 1) := by decide +kernel
theorem dM_all_0 : decode cM_all 0 = .ok (.lconst 0, 1) := by decide +kernel
theorem dM_all_1 : decode cM_all 1 = .ok (.lstore 4, 2) := by decide +kernel
theorem dM_all_3 : decode cM_all 3 = .ok (.iconst 0, 1) := by decide +kernel
theorem dM_all_4 : decode cM_all 4 = .ok (.istore 6, 2) := by decide +kernel
theorem dM_all_6 : decode cM_all 6 = .ok (.iload 6, 2) := by decide +kernel
theorem dM_all_8 : decode cM_all 8 = .ok (.bipush 64, 2) := by decide +kernel
theorem dM_all_10 : decode cM_all 10 = .ok (.if_icmp .ge 37, 3) := by decide +kernel
theorem dM_all_13 : decode cM_all 13 = .ok (.lload_n 2, 1) := by decide +kernel
theorem dM_all_14 : decode cM_all 14 = .ok (.iload 6, 2) := by decide +kernel
theorem dM_all_16 : decode cM_all 16 = .ok (.lshr, 1) := by decide +kernel
theorem dM_all_17 : decode cM_all 17 = .ok (.lconst 1, 1) := by decide +kernel
theorem dM_all_18 : decode cM_all 18 = .ok (.land, 1) := by decide +kernel
theorem dM_all_19 : decode cM_all 19 = .ok (.lconst 0, 1) := by decide +kernel
theorem dM_all_20 : decode cM_all 20 = .ok (.lcmp, 1) := by decide +kernel
theorem dM_all_21 : decode cM_all 21 = .ok (.ifCond .eq 20, 3) := by decide +kernel
theorem dM_all_24 : decode cM_all 24 = .ok (.lload 4, 2) := by decide +kernel
theorem dM_all_26 : decode cM_all 26 = .ok (.aload_n 0, 1) := by decide +kernel
theorem dM_all_27 : decode cM_all 27 = .ok (.getfield 7, 3) := by decide +kernel
theorem dM_all_30 : decode cM_all 30 = .ok (.bipush 64, 2) := by decide +kernel
theorem dM_all_32 : decode cM_all 32 = .ok (.iload_n 1, 1) := by decide +kernel
theorem dM_all_33 : decode cM_all 33 = .ok (.imul, 1) := by decide +kernel
theorem dM_all_34 : decode cM_all 34 = .ok (.iload 6, 2) := by decide +kernel
theorem dM_all_36 : decode cM_all 36 = .ok (.iadd, 1) := by decide +kernel
theorem dM_all_37 : decode cM_all 37 = .ok (.laload, 1) := by decide +kernel
theorem dM_all_38 : decode cM_all 38 = .ok (.lor, 1) := by decide +kernel
theorem dM_all_39 : decode cM_all 39 = .ok (.lstore 4, 2) := by decide +kernel
theorem dM_all_41 : decode cM_all 41 = .ok (.iinc 6 1, 3) := by decide +kernel
theorem dM_all_44 : decode cM_all 44 = .ok (.goto (-38), 3) := by decide +kernel
theorem dM_all_47 : decode cM_all 47 = .ok (.lload 4, 2) := by decide +kernel
theorem dM_all_49 : decode cM_all 49 = .ok (.lreturn, 1) := by decide +kernel
theorem dM_star_0 : decode cM_star 0 = .ok (.lconst 1, 1) := by decide +kernel
theorem dM_star_1 : decode cM_star 1 = .ok (.iload_n 2, 1) := by decide +kernel
theorem dM_star_2 : decode cM_star 2 = .ok (.lshl, 1) := by decide +kernel
theorem dM_star_3 : decode cM_star 3 = .ok (.lstore_n 3, 1) := by decide +kernel
theorem dM_star_4 : decode cM_star 4 = .ok (.iconst 0, 1) := by decide +kernel
theorem dM_star_5 : decode cM_star 5 = .ok (.istore 5, 2) := by decide +kernel
theorem dM_star_7 : decode cM_star 7 = .ok (.iload 5, 2) := by decide +kernel
theorem dM_star_9 : decode cM_star 9 = .ok (.bipush 64, 2) := by decide +kernel
theorem dM_star_11 : decode cM_star 11 = .ok (.if_icmp .ge 18, 3) := by decide +kernel
theorem dM_star_14 : decode cM_star 14 = .ok (.lload_n 3, 1) := by decide +kernel
theorem dM_star_15 : decode cM_star 15 = .ok (.aload_n 0, 1) := by decide +kernel
theorem dM_star_16 : decode cM_star 16 = .ok (.iload_n 1, 1) := by decide +kernel
theorem dM_star_17 : decode cM_star 17 = .ok (.lload_n 3, 1) := by decide +kernel
theorem dM_star_18 : decode cM_star 18 = .ok (.invokevirtual 39, 3) := by decide +kernel
theorem dM_star_21 : decode cM_star 21 = .ok (.lor, 1) := by decide +kernel
theorem dM_star_22 : decode cM_star 22 = .ok (.lstore_n 3, 1) := by decide +kernel
theorem dM_star_23 : decode cM_star 23 = .ok (.iinc 5 1, 3) := by decide +kernel
theorem dM_star_26 : decode cM_star 26 = .ok (.goto (-19), 3) := by decide +kernel
theorem dM_star_29 : decode cM_star 29 = .ok (.lload_n 3, 1) := by decide +kernel
theorem dM_star_30 : decode cM_star 30 = .ok (.lreturn, 1) := by decide +kernel
theorem dM_worked_0 : decode cM_worked 0 = .ok (.lconst 1, 1) := by decide +kernel
theorem dM_worked_1 : decode cM_worked 1 = .ok (.iload 5, 2) := by decide +kernel
theorem dM_worked_3 : decode cM_worked 3 = .ok (.lshl, 1) := by decide +kernel
theorem dM_worked_4 : decode cM_worked 4 = .ok (.lstore 6, 2) := by decide +kernel
theorem dM_worked_6 : decode cM_worked 6 = .ok (.iload_n 1, 1) := by decide +kernel
theorem dM_worked_7 : decode cM_worked 7 = .ok (.tableswitch 153 0 7 #[45, 47, 50, 67, 77, 103, 121, 129], 45) := by decide +kernel
theorem dM_worked_52 : decode cM_worked 52 = .ok (.lconst 0, 1) := by decide +kernel
theorem dM_worked_53 : decode cM_worked 53 = .ok (.lreturn, 1) := by decide +kernel
theorem dM_worked_54 : decode cM_worked 54 = .ok (.lload 6, 2) := by decide +kernel
theorem dM_worked_56 : decode cM_worked 56 = .ok (.lreturn, 1) := by decide +kernel
theorem dM_worked_57 : decode cM_worked 57 = .ok (.iload 5, 2) := by decide +kernel
theorem dM_worked_59 : decode cM_worked 59 = .ok (.iload_n 2, 1) := by decide +kernel
theorem dM_worked_60 : decode cM_worked 60 = .ok (.invokestatic 35, 3) := by decide +kernel
theorem dM_worked_63 : decode cM_worked 63 = .ok (.iload_n 3, 1) := by decide +kernel
theorem dM_worked_64 : decode cM_worked 64 = .ok (.if_icmp .ne 8, 3) := by decide +kernel
theorem dM_worked_67 : decode cM_worked 67 = .ok (.lload 6, 2) := by decide +kernel
theorem dM_worked_69 : decode cM_worked 69 = .ok (.goto 4, 3) := by decide +kernel
theorem dM_worked_72 : decode cM_worked 72 = .ok (.lconst 0, 1) := by decide +kernel
theorem dM_worked_73 : decode cM_worked 73 = .ok (.lreturn, 1) := by decide +kernel
theorem dM_worked_74 : decode cM_worked 74 = .ok (.lconst 1, 1) := by decide +kernel
theorem dM_worked_75 : decode cM_worked 75 = .ok (.iload 5, 2) := by decide +kernel
theorem dM_worked_77 : decode cM_worked 77 = .ok (.iload_n 2, 1) := by decide +kernel
theorem dM_worked_78 : decode cM_worked 78 = .ok (.iload_n 3, 1) := by decide +kernel
theorem dM_worked_79 : decode cM_worked 79 = .ok (.invokestatic 43, 3) := by decide +kernel
theorem dM_worked_82 : decode cM_worked 82 = .ok (.lshl, 1) := by decide +kernel
theorem dM_worked_83 : decode cM_worked 83 = .ok (.lreturn, 1) := by decide +kernel
theorem dM_worked_84 : decode cM_worked 84 = .ok (.aload_n 0, 1) := by decide +kernel
theorem dM_worked_85 : decode cM_worked 85 = .ok (.getfield 7, 3) := by decide +kernel
theorem dM_worked_88 : decode cM_worked 88 = .ok (.bipush 64, 2) := by decide +kernel
theorem dM_worked_90 : decode cM_worked 90 = .ok (.iload_n 2, 1) := by decide +kernel
theorem dM_worked_91 : decode cM_worked 91 = .ok (.imul, 1) := by decide +kernel
theorem dM_worked_92 : decode cM_worked 92 = .ok (.iload 5, 2) := by decide +kernel
theorem dM_worked_94 : decode cM_worked 94 = .ok (.iadd, 1) := by decide +kernel
theorem dM_worked_95 : decode cM_worked 95 = .ok (.laload, 1) := by decide +kernel
theorem dM_worked_96 : decode cM_worked 96 = .ok (.aload_n 0, 1) := by decide +kernel
theorem dM_worked_97 : decode cM_worked 97 = .ok (.getfield 7, 3) := by decide +kernel
theorem dM_worked_100 : decode cM_worked 100 = .ok (.bipush 64, 2) := by decide +kernel
theorem dM_worked_102 : decode cM_worked 102 = .ok (.iload_n 3, 1) := by decide +kernel
theorem dM_worked_103 : decode cM_worked 103 = .ok (.imul, 1) := by decide +kernel
theorem dM_worked_104 : decode cM_worked 104 = .ok (.iload 5, 2) := by decide +kernel
theorem dM_worked_106 : decode cM_worked 106 = .ok (.iadd, 1) := by decide +kernel
theorem dM_worked_107 : decode cM_worked 107 = .ok (.laload, 1) := by decide +kernel
theorem dM_worked_108 : decode cM_worked 108 = .ok (.lor, 1) := by decide +kernel
theorem dM_worked_109 : decode cM_worked 109 = .ok (.lreturn, 1) := by decide +kernel
theorem dM_worked_110 : decode cM_worked 110 = .ok (.aload_n 0, 1) := by decide +kernel
theorem dM_worked_111 : decode cM_worked 111 = .ok (.iload_n 3, 1) := by decide +kernel
theorem dM_worked_112 : decode cM_worked 112 = .ok (.aload_n 0, 1) := by decide +kernel
theorem dM_worked_113 : decode cM_worked 113 = .ok (.getfield 7, 3) := by decide +kernel
theorem dM_worked_116 : decode cM_worked 116 = .ok (.bipush 64, 2) := by decide +kernel
theorem dM_worked_118 : decode cM_worked 118 = .ok (.iload_n 2, 1) := by decide +kernel
theorem dM_worked_119 : decode cM_worked 119 = .ok (.imul, 1) := by decide +kernel
theorem dM_worked_120 : decode cM_worked 120 = .ok (.iload 5, 2) := by decide +kernel
theorem dM_worked_122 : decode cM_worked 122 = .ok (.iadd, 1) := by decide +kernel
theorem dM_worked_123 : decode cM_worked 123 = .ok (.laload, 1) := by decide +kernel
theorem dM_worked_124 : decode cM_worked 124 = .ok (.invokevirtual 39, 3) := by decide +kernel
theorem dM_worked_127 : decode cM_worked 127 = .ok (.lreturn, 1) := by decide +kernel
theorem dM_worked_128 : decode cM_worked 128 = .ok (.aload_n 0, 1) := by decide +kernel
theorem dM_worked_129 : decode cM_worked 129 = .ok (.iload_n 2, 1) := by decide +kernel
theorem dM_worked_130 : decode cM_worked 130 = .ok (.iload 5, 2) := by decide +kernel
theorem dM_worked_132 : decode cM_worked 132 = .ok (.invokevirtual 47, 3) := by decide +kernel
theorem dM_worked_135 : decode cM_worked 135 = .ok (.lreturn, 1) := by decide +kernel
theorem dM_worked_136 : decode cM_worked 136 = .ok (.aload_n 0, 1) := by decide +kernel
theorem dM_worked_137 : decode cM_worked 137 = .ok (.getfield 7, 3) := by decide +kernel
theorem dM_worked_140 : decode cM_worked 140 = .ok (.bipush 64, 2) := by decide +kernel
theorem dM_worked_142 : decode cM_worked 142 = .ok (.iload_n 2, 1) := by decide +kernel
theorem dM_worked_143 : decode cM_worked 143 = .ok (.imul, 1) := by decide +kernel
theorem dM_worked_144 : decode cM_worked 144 = .ok (.iload 5, 2) := by decide +kernel
theorem dM_worked_146 : decode cM_worked 146 = .ok (.iadd, 1) := by decide +kernel
theorem dM_worked_147 : decode cM_worked 147 = .ok (.laload, 1) := by decide +kernel
theorem dM_worked_148 : decode cM_worked 148 = .ok (.lconst 0, 1) := by decide +kernel
theorem dM_worked_149 : decode cM_worked 149 = .ok (.lcmp, 1) := by decide +kernel
theorem dM_worked_150 : decode cM_worked 150 = .ok (.ifCond .ne 8, 3) := by decide +kernel
theorem dM_worked_153 : decode cM_worked 153 = .ok (.lload 6, 2) := by decide +kernel
theorem dM_worked_155 : decode cM_worked 155 = .ok (.goto 4, 3) := by decide +kernel
theorem dM_worked_158 : decode cM_worked 158 = .ok (.lconst 0, 1) := by decide +kernel
theorem dM_worked_159 : decode cM_worked 159 = .ok (.lreturn, 1) := by decide +kernel
theorem dM_worked_160 : decode cM_worked 160 = .ok (.aload_n 0, 1) := by decide +kernel
theorem dM_worked_161 : decode cM_worked 161 = .ok (.getfield 7, 3) := by decide +kernel
theorem dM_worked_164 : decode cM_worked 164 = .ok (.bipush 64, 2) := by decide +kernel
theorem dM_worked_166 : decode cM_worked 166 = .ok (.aload_n 0, 1) := by decide +kernel
theorem dM_worked_167 : decode cM_worked 167 = .ok (.getfield 7, 3) := by decide +kernel
theorem dM_worked_170 : decode cM_worked 170 = .ok (.bipush 64, 2) := by decide +kernel
theorem dM_worked_172 : decode cM_worked 172 = .ok (.iload_n 2, 1) := by decide +kernel
theorem dM_worked_173 : decode cM_worked 173 = .ok (.imul, 1) := by decide +kernel
theorem dM_worked_174 : decode cM_worked 174 = .ok (.iload 5, 2) := by decide +kernel
theorem dM_worked_176 : decode cM_worked 176 = .ok (.iadd, 1) := by decide +kernel
theorem dM_worked_177 : decode cM_worked 177 = .ok (.laload, 1) := by decide +kernel
theorem dM_worked_178 : decode cM_worked 178 = .ok (.lconst 0, 1) := by decide +kernel
theorem dM_worked_179 : decode cM_worked 179 = .ok (.lcmp, 1) := by decide +kernel
theorem dM_worked_180 : decode cM_worked 180 = .ok (.ifCond .eq 7, 3) := by decide +kernel
theorem dM_worked_183 : decode cM_worked 183 = .ok (.iload_n 3, 1) := by decide +kernel
theorem dM_worked_184 : decode cM_worked 184 = .ok (.goto 5, 3) := by decide +kernel
theorem dM_worked_187 : decode cM_worked 187 = .ok (.iload 4, 2) := by decide +kernel
theorem dM_worked_189 : decode cM_worked 189 = .ok (.imul, 1) := by decide +kernel
theorem dM_worked_190 : decode cM_worked 190 = .ok (.iload 5, 2) := by decide +kernel
theorem dM_worked_192 : decode cM_worked 192 = .ok (.iadd, 1) := by decide +kernel
theorem dM_worked_193 : decode cM_worked 193 = .ok (.laload, 1) := by decide +kernel
theorem dM_worked_194 : decode cM_worked 194 = .ok (.lreturn, 1) := by decide +kernel
theorem dM_passes_0 : decode cM_passes 0 = .ok (.iload_n 1, 1) := by decide +kernel
theorem dM_passes_1 : decode cM_passes 1 = .ok (.iconst 3, 1) := by decide +kernel
theorem dM_passes_2 : decode cM_passes 2 = .ok (.if_icmp .lt 9, 3) := by decide +kernel
theorem dM_passes_5 : decode cM_passes 5 = .ok (.iload_n 1, 1) := by decide +kernel
theorem dM_passes_6 : decode cM_passes 6 = .ok (.bipush 7, 2) := by decide +kernel
theorem dM_passes_8 : decode cM_passes 8 = .ok (.if_icmp .ne 5, 3) := by decide +kernel
theorem dM_passes_11 : decode cM_passes 11 = .ok (.iconst 1, 1) := by decide +kernel
theorem dM_passes_12 : decode cM_passes 12 = .ok (.ireturn, 1) := by decide +kernel
theorem dM_passes_13 : decode cM_passes 13 = .ok (.iload_n 1, 1) := by decide +kernel
theorem dM_passes_14 : decode cM_passes 14 = .ok (.iconst 3, 1) := by decide +kernel
theorem dM_passes_15 : decode cM_passes 15 = .ok (.if_icmp .ne 5, 3) := by decide +kernel
theorem dM_passes_18 : decode cM_passes 18 = .ok (.iconst 0, 1) := by decide +kernel
theorem dM_passes_19 : decode cM_passes 19 = .ok (.ireturn, 1) := by decide +kernel
theorem dM_passes_20 : decode cM_passes 20 = .ok (.iload_n 1, 1) := by decide +kernel
theorem dM_passes_21 : decode cM_passes 21 = .ok (.bipush 6, 2) := by decide +kernel
theorem dM_passes_23 : decode cM_passes 23 = .ok (.if_icmp .ne 10, 3) := by decide +kernel
theorem dM_passes_26 : decode cM_passes 26 = .ok (.aload_n 0, 1) := by decide +kernel
theorem dM_passes_27 : decode cM_passes 27 = .ok (.getfield 13, 3) := by decide +kernel
theorem dM_passes_30 : decode cM_passes 30 = .ok (.iload_n 2, 1) := by decide +kernel
theorem dM_passes_31 : decode cM_passes 31 = .ok (.baload, 1) := by decide +kernel
theorem dM_passes_32 : decode cM_passes 32 = .ok (.ireturn, 1) := by decide +kernel
theorem dM_passes_33 : decode cM_passes 33 = .ok (.aload_n 0, 1) := by decide +kernel
theorem dM_passes_34 : decode cM_passes 34 = .ok (.getfield 13, 3) := by decide +kernel
theorem dM_passes_37 : decode cM_passes 37 = .ok (.iload_n 2, 1) := by decide +kernel
theorem dM_passes_38 : decode cM_passes 38 = .ok (.baload, 1) := by decide +kernel
theorem dM_passes_39 : decode cM_passes 39 = .ok (.ifCond .eq 32, 3) := by decide +kernel
theorem dM_passes_42 : decode cM_passes 42 = .ok (.aload_n 0, 1) := by decide +kernel
theorem dM_passes_43 : decode cM_passes 43 = .ok (.getfield 13, 3) := by decide +kernel
theorem dM_passes_46 : decode cM_passes 46 = .ok (.iload_n 3, 1) := by decide +kernel
theorem dM_passes_47 : decode cM_passes 47 = .ok (.baload, 1) := by decide +kernel
theorem dM_passes_48 : decode cM_passes 48 = .ok (.ifCond .eq 23, 3) := by decide +kernel
theorem dM_passes_51 : decode cM_passes 51 = .ok (.iload_n 1, 1) := by decide +kernel
theorem dM_passes_52 : decode cM_passes 52 = .ok (.bipush 8, 2) := by decide +kernel
theorem dM_passes_54 : decode cM_passes 54 = .ok (.if_icmp .lt 13, 3) := by decide +kernel
theorem dM_passes_57 : decode cM_passes 57 = .ok (.aload_n 0, 1) := by decide +kernel
theorem dM_passes_58 : decode cM_passes 58 = .ok (.getfield 13, 3) := by decide +kernel
theorem dM_passes_61 : decode cM_passes 61 = .ok (.iload 4, 2) := by decide +kernel
theorem dM_passes_63 : decode cM_passes 63 = .ok (.baload, 1) := by decide +kernel
theorem dM_passes_64 : decode cM_passes 64 = .ok (.ifCond .eq 7, 3) := by decide +kernel
theorem dM_passes_67 : decode cM_passes 67 = .ok (.iconst 1, 1) := by decide +kernel
theorem dM_passes_68 : decode cM_passes 68 = .ok (.goto 4, 3) := by decide +kernel
theorem dM_passes_71 : decode cM_passes 71 = .ok (.iconst 0, 1) := by decide +kernel
theorem dM_passes_72 : decode cM_passes 72 = .ok (.ireturn, 1) := by decide +kernel
theorem dM_can_0 : decode cM_can 0 = .ok (.iload_n 1, 1) := by decide +kernel
theorem dM_can_1 : decode cM_can 1 = .ok (.tableswitch 136 0 8 #[51, 51, 53, 53, 77, 77, 99, 99, 105], 51) := by decide +kernel
theorem dM_can_52 : decode cM_can 52 = .ok (.iconst 1, 1) := by decide +kernel
theorem dM_can_53 : decode cM_can 53 = .ok (.ireturn, 1) := by decide +kernel
theorem dM_can_54 : decode cM_can 54 = .ok (.iload_n 2, 1) := by decide +kernel
theorem dM_can_55 : decode cM_can 55 = .ok (.iconst 0, 1) := by decide +kernel
theorem dM_can_56 : decode cM_can 56 = .ok (.iconst 2, 1) := by decide +kernel
theorem dM_can_57 : decode cM_can 57 = .ok (.invokestatic 31, 3) := by decide +kernel
theorem dM_can_60 : decode cM_can 60 = .ok (.ifCond .eq 16, 3) := by decide +kernel
theorem dM_can_63 : decode cM_can 63 = .ok (.iload_n 3, 1) := by decide +kernel
theorem dM_can_64 : decode cM_can 64 = .ok (.iconst 0, 1) := by decide +kernel
theorem dM_can_65 : decode cM_can 65 = .ok (.iconst 3, 1) := by decide +kernel
theorem dM_can_66 : decode cM_can 66 = .ok (.invokestatic 31, 3) := by decide +kernel
theorem dM_can_69 : decode cM_can 69 = .ok (.ifCond .eq 7, 3) := by decide +kernel
theorem dM_can_72 : decode cM_can 72 = .ok (.iconst 1, 1) := by decide +kernel
theorem dM_can_73 : decode cM_can 73 = .ok (.goto 4, 3) := by decide +kernel
theorem dM_can_76 : decode cM_can 76 = .ok (.iconst 0, 1) := by decide +kernel
theorem dM_can_77 : decode cM_can 77 = .ok (.ireturn, 1) := by decide +kernel
theorem dM_can_78 : decode cM_can 78 = .ok (.aload_n 0, 1) := by decide +kernel
theorem dM_can_79 : decode cM_can 79 = .ok (.iload_n 2, 1) := by decide +kernel
theorem dM_can_80 : decode cM_can 80 = .ok (.invokevirtual 51, 3) := by decide +kernel
theorem dM_can_83 : decode cM_can 83 = .ok (.ifCond .eq 15, 3) := by decide +kernel
theorem dM_can_86 : decode cM_can 86 = .ok (.aload_n 0, 1) := by decide +kernel
theorem dM_can_87 : decode cM_can 87 = .ok (.iload_n 3, 1) := by decide +kernel
theorem dM_can_88 : decode cM_can 88 = .ok (.invokevirtual 51, 3) := by decide +kernel
theorem dM_can_91 : decode cM_can 91 = .ok (.ifCond .eq 7, 3) := by decide +kernel
theorem dM_can_94 : decode cM_can 94 = .ok (.iconst 1, 1) := by decide +kernel
theorem dM_can_95 : decode cM_can 95 = .ok (.goto 4, 3) := by decide +kernel
theorem dM_can_98 : decode cM_can 98 = .ok (.iconst 0, 1) := by decide +kernel
theorem dM_can_99 : decode cM_can 99 = .ok (.ireturn, 1) := by decide +kernel
theorem dM_can_100 : decode cM_can 100 = .ok (.aload_n 0, 1) := by decide +kernel
theorem dM_can_101 : decode cM_can 101 = .ok (.iload_n 2, 1) := by decide +kernel
theorem dM_can_102 : decode cM_can 102 = .ok (.invokevirtual 51, 3) := by decide +kernel
theorem dM_can_105 : decode cM_can 105 = .ok (.ireturn, 1) := by decide +kernel
theorem dM_can_106 : decode cM_can 106 = .ok (.aload_n 0, 1) := by decide +kernel
theorem dM_can_107 : decode cM_can 107 = .ok (.iload_n 2, 1) := by decide +kernel
theorem dM_can_108 : decode cM_can 108 = .ok (.invokevirtual 51, 3) := by decide +kernel
theorem dM_can_111 : decode cM_can 111 = .ok (.ifCond .eq 24, 3) := by decide +kernel
theorem dM_can_114 : decode cM_can 114 = .ok (.aload_n 0, 1) := by decide +kernel
theorem dM_can_115 : decode cM_can 115 = .ok (.iload_n 3, 1) := by decide +kernel
theorem dM_can_116 : decode cM_can 116 = .ok (.invokevirtual 51, 3) := by decide +kernel
theorem dM_can_119 : decode cM_can 119 = .ok (.ifCond .eq 16, 3) := by decide +kernel
theorem dM_can_122 : decode cM_can 122 = .ok (.aload_n 0, 1) := by decide +kernel
theorem dM_can_123 : decode cM_can 123 = .ok (.iload 4, 2) := by decide +kernel
theorem dM_can_125 : decode cM_can 125 = .ok (.invokevirtual 51, 3) := by decide +kernel
theorem dM_can_128 : decode cM_can 128 = .ok (.ifCond .eq 7, 3) := by decide +kernel
theorem dM_can_131 : decode cM_can 131 = .ok (.iconst 1, 1) := by decide +kernel
theorem dM_can_132 : decode cM_can 132 = .ok (.goto 4, 3) := by decide +kernel
theorem dM_can_135 : decode cM_can 135 = .ok (.iconst 0, 1) := by decide +kernel
theorem dM_can_136 : decode cM_can 136 = .ok (.ireturn, 1) := by decide +kernel
theorem dM_can_137 : decode cM_can 137 = .ok (.iconst 0, 1) := by decide +kernel
theorem dM_can_138 : decode cM_can 138 = .ok (.ireturn, 1) := by decide +kernel
theorem dM_policy_0 : decode cM_policy 0 = .ok (.aload_n 0, 1) := by decide +kernel
theorem dM_policy_1 : decode cM_policy 1 = .ok (.iconst 0, 1) := by decide +kernel
theorem dM_policy_2 : decode cM_policy 2 = .ok (.putfield 24, 3) := by decide +kernel
theorem dM_policy_5 : decode cM_policy 5 = .ok (.aload_n 0, 1) := by decide +kernel
theorem dM_policy_6 : decode cM_policy 6 = .ok (.iload_n 1, 1) := by decide +kernel
theorem dM_policy_7 : decode cM_policy 7 = .ok (.iload_n 2, 1) := by decide +kernel
theorem dM_policy_8 : decode cM_policy 8 = .ok (.iload_n 3, 1) := by decide +kernel
theorem dM_policy_9 : decode cM_policy 9 = .ok (.iload 4, 2) := by decide +kernel
theorem dM_policy_11 : decode cM_policy 11 = .ok (.invokevirtual 55, 3) := by decide +kernel
theorem dM_policy_14 : decode cM_policy 14 = .ok (.ifCond .ne 9, 3) := by decide +kernel
theorem dM_policy_17 : decode cM_policy 17 = .ok (.aload_n 0, 1) := by decide +kernel
theorem dM_policy_18 : decode cM_policy 18 = .ok (.iconst 1, 1) := by decide +kernel
theorem dM_policy_19 : decode cM_policy 19 = .ok (.invokevirtual 59, 3) := by decide +kernel
theorem dM_policy_22 : decode cM_policy 22 = .ok (.ireturn, 1) := by decide +kernel
theorem dM_policy_23 : decode cM_policy 23 = .ok (.iload_n 1, 1) := by decide +kernel
theorem dM_policy_24 : decode cM_policy 24 = .ok (.bipush 6, 2) := by decide +kernel
theorem dM_policy_26 : decode cM_policy 26 = .ok (.if_icmp .le 18, 3) := by decide +kernel
theorem dM_policy_29 : decode cM_policy 29 = .ok (.aload_n 0, 1) := by decide +kernel
theorem dM_policy_30 : decode cM_policy 30 = .ok (.getfield 13, 3) := by decide +kernel
theorem dM_policy_33 : decode cM_policy 33 = .ok (.iload_n 2, 1) := by decide +kernel
theorem dM_policy_34 : decode cM_policy 34 = .ok (.baload, 1) := by decide +kernel
theorem dM_policy_35 : decode cM_policy 35 = .ok (.ifCond .ne 9, 3) := by decide +kernel
theorem dM_policy_38 : decode cM_policy 38 = .ok (.aload_n 0, 1) := by decide +kernel
theorem dM_policy_39 : decode cM_policy 39 = .ok (.iconst 2, 1) := by decide +kernel
theorem dM_policy_40 : decode cM_policy 40 = .ok (.invokevirtual 59, 3) := by decide +kernel
theorem dM_policy_43 : decode cM_policy 43 = .ok (.ireturn, 1) := by decide +kernel
theorem dM_policy_44 : decode cM_policy 44 = .ok (.aload_n 0, 1) := by decide +kernel
theorem dM_policy_45 : decode cM_policy 45 = .ok (.getfield 28, 3) := by decide +kernel
theorem dM_policy_48 : decode cM_policy 48 = .ok (.bipush 50, 2) := by decide +kernel
theorem dM_policy_50 : decode cM_policy 50 = .ok (.if_icmp .ne 9, 3) := by decide +kernel
theorem dM_policy_53 : decode cM_policy 53 = .ok (.aload_n 0, 1) := by decide +kernel
theorem dM_policy_54 : decode cM_policy 54 = .ok (.iconst 3, 1) := by decide +kernel
theorem dM_policy_55 : decode cM_policy 55 = .ok (.invokevirtual 59, 3) := by decide +kernel
theorem dM_policy_58 : decode cM_policy 58 = .ok (.ireturn, 1) := by decide +kernel
theorem dM_policy_59 : decode cM_policy 59 = .ok (.iconst 0, 1) := by decide +kernel
theorem dM_policy_60 : decode cM_policy 60 = .ok (.istore 5, 2) := by decide +kernel
theorem dM_policy_62 : decode cM_policy 62 = .ok (.iload 5, 2) := by decide +kernel
theorem dM_policy_64 : decode cM_policy 64 = .ok (.bipush 64, 2) := by decide +kernel
theorem dM_policy_66 : decode cM_policy 66 = .ok (.if_icmp .ge 35, 3) := by decide +kernel
theorem dM_policy_69 : decode cM_policy 69 = .ok (.aload_n 0, 1) := by decide +kernel
theorem dM_policy_70 : decode cM_policy 70 = .ok (.getfield 7, 3) := by decide +kernel
theorem dM_policy_73 : decode cM_policy 73 = .ok (.bipush 64, 2) := by decide +kernel
theorem dM_policy_75 : decode cM_policy 75 = .ok (.aload_n 0, 1) := by decide +kernel
theorem dM_policy_76 : decode cM_policy 76 = .ok (.getfield 28, 3) := by decide +kernel
theorem dM_policy_79 : decode cM_policy 79 = .ok (.imul, 1) := by decide +kernel
theorem dM_policy_80 : decode cM_policy 80 = .ok (.iload 5, 2) := by decide +kernel
theorem dM_policy_82 : decode cM_policy 82 = .ok (.iadd, 1) := by decide +kernel
theorem dM_policy_83 : decode cM_policy 83 = .ok (.aload_n 0, 1) := by decide +kernel
theorem dM_policy_84 : decode cM_policy 84 = .ok (.iload_n 1, 1) := by decide +kernel
theorem dM_policy_85 : decode cM_policy 85 = .ok (.iload_n 2, 1) := by decide +kernel
theorem dM_policy_86 : decode cM_policy 86 = .ok (.iload_n 3, 1) := by decide +kernel
theorem dM_policy_87 : decode cM_policy 87 = .ok (.iload 4, 2) := by decide +kernel
theorem dM_policy_89 : decode cM_policy 89 = .ok (.iload 5, 2) := by decide +kernel
theorem dM_policy_91 : decode cM_policy 91 = .ok (.invokevirtual 63, 3) := by decide +kernel
theorem dM_policy_94 : decode cM_policy 94 = .ok (.lastore, 1) := by decide +kernel
theorem dM_policy_95 : decode cM_policy 95 = .ok (.iinc 5 1, 3) := by decide +kernel
theorem dM_policy_98 : decode cM_policy 98 = .ok (.goto (-36), 3) := by decide +kernel
theorem dM_policy_101 : decode cM_policy 101 = .ok (.aload_n 0, 1) := by decide +kernel
theorem dM_policy_102 : decode cM_policy 102 = .ok (.getfield 13, 3) := by decide +kernel
theorem dM_policy_105 : decode cM_policy 105 = .ok (.aload_n 0, 1) := by decide +kernel
theorem dM_policy_106 : decode cM_policy 106 = .ok (.getfield 28, 3) := by decide +kernel
theorem dM_policy_109 : decode cM_policy 109 = .ok (.aload_n 0, 1) := by decide +kernel
theorem dM_policy_110 : decode cM_policy 110 = .ok (.iload_n 1, 1) := by decide +kernel
theorem dM_policy_111 : decode cM_policy 111 = .ok (.iload_n 2, 1) := by decide +kernel
theorem dM_policy_112 : decode cM_policy 112 = .ok (.iload_n 3, 1) := by decide +kernel
theorem dM_policy_113 : decode cM_policy 113 = .ok (.iload 4, 2) := by decide +kernel
theorem dM_policy_115 : decode cM_policy 115 = .ok (.invokevirtual 67, 3) := by decide +kernel
theorem dM_policy_118 : decode cM_policy 118 = .ok (.bastore, 1) := by decide +kernel
theorem dM_policy_119 : decode cM_policy 119 = .ok (.aload_n 0, 1) := by decide +kernel
theorem dM_policy_120 : decode cM_policy 120 = .ok (.dup, 1) := by decide +kernel
theorem dM_policy_121 : decode cM_policy 121 = .ok (.getfield 28, 3) := by decide +kernel
theorem dM_policy_124 : decode cM_policy 124 = .ok (.iconst 1, 1) := by decide +kernel
theorem dM_policy_125 : decode cM_policy 125 = .ok (.iadd, 1) := by decide +kernel
theorem dM_policy_126 : decode cM_policy 126 = .ok (.putfield 28, 3) := by decide +kernel
theorem dM_policy_129 : decode cM_policy 129 = .ok (.aload_n 0, 1) := by decide +kernel
theorem dM_policy_130 : decode cM_policy 130 = .ok (.getfield 28, 3) := by decide +kernel
theorem dM_policy_133 : decode cM_policy 133 = .ok (.iconst 1, 1) := by decide +kernel
theorem dM_policy_134 : decode cM_policy 134 = .ok (.isub, 1) := by decide +kernel
theorem dM_policy_135 : decode cM_policy 135 = .ok (.ireturn, 1) := by decide +kernel
theorem dM_outcome_0 : decode cM_outcome 0 = .ok (.aload_n 0, 1) := by decide +kernel
theorem dM_outcome_1 : decode cM_outcome 1 = .ok (.iconst 0, 1) := by decide +kernel
theorem dM_outcome_2 : decode cM_outcome 2 = .ok (.putfield 24, 3) := by decide +kernel
theorem dM_outcome_5 : decode cM_outcome 5 = .ok (.aload_n 0, 1) := by decide +kernel
theorem dM_outcome_6 : decode cM_outcome 6 = .ok (.iload_n 1, 1) := by decide +kernel
theorem dM_outcome_7 : decode cM_outcome 7 = .ok (.invokevirtual 51, 3) := by decide +kernel
theorem dM_outcome_10 : decode cM_outcome 10 = .ok (.ifCond .ne 10, 3) := by decide +kernel
theorem dM_outcome_13 : decode cM_outcome 13 = .ok (.aload_n 0, 1) := by decide +kernel
theorem dM_outcome_14 : decode cM_outcome 14 = .ok (.iconst 1, 1) := by decide +kernel
theorem dM_outcome_15 : decode cM_outcome 15 = .ok (.invokevirtual 59, 3) := by decide +kernel
theorem dM_outcome_18 : decode cM_outcome 18 = .ok (.i2l, 1) := by decide +kernel
theorem dM_outcome_19 : decode cM_outcome 19 = .ok (.lreturn, 1) := by decide +kernel
theorem dM_outcome_20 : decode cM_outcome 20 = .ok (.iload_n 2, 1) := by decide +kernel
theorem dM_outcome_21 : decode cM_outcome 21 = .ok (.iconst 0, 1) := by decide +kernel
theorem dM_outcome_22 : decode cM_outcome 22 = .ok (.bipush 63, 2) := by decide +kernel
theorem dM_outcome_24 : decode cM_outcome 24 = .ok (.invokestatic 31, 3) := by decide +kernel
theorem dM_outcome_27 : decode cM_outcome 27 = .ok (.ifCond .eq 17, 3) := by decide +kernel
theorem dM_outcome_30 : decode cM_outcome 30 = .ok (.aload_n 0, 1) := by decide +kernel
theorem dM_outcome_31 : decode cM_outcome 31 = .ok (.getfield 7, 3) := by decide +kernel
theorem dM_outcome_34 : decode cM_outcome 34 = .ok (.bipush 64, 2) := by decide +kernel
theorem dM_outcome_36 : decode cM_outcome 36 = .ok (.iload_n 1, 1) := by decide +kernel
theorem dM_outcome_37 : decode cM_outcome 37 = .ok (.imul, 1) := by decide +kernel
theorem dM_outcome_38 : decode cM_outcome 38 = .ok (.iload_n 2, 1) := by decide +kernel
theorem dM_outcome_39 : decode cM_outcome 39 = .ok (.iadd, 1) := by decide +kernel
theorem dM_outcome_40 : decode cM_outcome 40 = .ok (.laload, 1) := by decide +kernel
theorem dM_outcome_41 : decode cM_outcome 41 = .ok (.goto 9, 3) := by decide +kernel
theorem dM_outcome_44 : decode cM_outcome 44 = .ok (.aload_n 0, 1) := by decide +kernel
theorem dM_outcome_45 : decode cM_outcome 45 = .ok (.iconst 2, 1) := by decide +kernel
theorem dM_outcome_46 : decode cM_outcome 46 = .ok (.invokevirtual 59, 3) := by decide +kernel
theorem dM_outcome_49 : decode cM_outcome 49 = .ok (.i2l, 1) := by decide +kernel
theorem dM_outcome_50 : decode cM_outcome 50 = .ok (.lreturn, 1) := by decide +kernel
theorem dM_image_0 : decode cM_image 0 = .ok (.aload_n 0, 1) := by decide +kernel
theorem dM_image_1 : decode cM_image 1 = .ok (.iconst 0, 1) := by decide +kernel
theorem dM_image_2 : decode cM_image 2 = .ok (.putfield 24, 3) := by decide +kernel
theorem dM_image_5 : decode cM_image 5 = .ok (.aload_n 0, 1) := by decide +kernel
theorem dM_image_6 : decode cM_image 6 = .ok (.iload_n 1, 1) := by decide +kernel
theorem dM_image_7 : decode cM_image 7 = .ok (.invokevirtual 51, 3) := by decide +kernel
theorem dM_image_10 : decode cM_image 10 = .ok (.ifCond .eq 12, 3) := by decide +kernel
theorem dM_image_13 : decode cM_image 13 = .ok (.aload_n 0, 1) := by decide +kernel
theorem dM_image_14 : decode cM_image 14 = .ok (.iload_n 1, 1) := by decide +kernel
theorem dM_image_15 : decode cM_image 15 = .ok (.lload_n 2, 1) := by decide +kernel
theorem dM_image_16 : decode cM_image 16 = .ok (.invokevirtual 39, 3) := by decide +kernel
theorem dM_image_19 : decode cM_image 19 = .ok (.goto 9, 3) := by decide +kernel
theorem dM_image_22 : decode cM_image 22 = .ok (.aload_n 0, 1) := by decide +kernel
theorem dM_image_23 : decode cM_image 23 = .ok (.iconst 1, 1) := by decide +kernel
theorem dM_image_24 : decode cM_image 24 = .ok (.invokevirtual 59, 3) := by decide +kernel
theorem dM_image_27 : decode cM_image 27 = .ok (.i2l, 1) := by decide +kernel
theorem dM_image_28 : decode cM_image 28 = .ok (.lreturn, 1) := by decide +kernel
theorem dM_source_0 : decode cM_source 0 = .ok (.aload_n 0, 1) := by decide +kernel
theorem dM_source_1 : decode cM_source 1 = .ok (.iconst 0, 1) := by decide +kernel
theorem dM_source_2 : decode cM_source 2 = .ok (.putfield 24, 3) := by decide +kernel
theorem dM_source_5 : decode cM_source 5 = .ok (.aload_n 0, 1) := by decide +kernel
theorem dM_source_6 : decode cM_source 6 = .ok (.iload_n 1, 1) := by decide +kernel
theorem dM_source_7 : decode cM_source 7 = .ok (.invokevirtual 51, 3) := by decide +kernel
theorem dM_source_10 : decode cM_source 10 = .ok (.ifCond .ne 10, 3) := by decide +kernel
theorem dM_source_13 : decode cM_source 13 = .ok (.aload_n 0, 1) := by decide +kernel
theorem dM_source_14 : decode cM_source 14 = .ok (.iconst 1, 1) := by decide +kernel
theorem dM_source_15 : decode cM_source 15 = .ok (.invokevirtual 59, 3) := by decide +kernel
theorem dM_source_18 : decode cM_source 18 = .ok (.i2l, 1) := by decide +kernel
theorem dM_source_19 : decode cM_source 19 = .ok (.lreturn, 1) := by decide +kernel
theorem dM_source_20 : decode cM_source 20 = .ok (.lconst 0, 1) := by decide +kernel
theorem dM_source_21 : decode cM_source 21 = .ok (.lstore 4, 2) := by decide +kernel
theorem dM_source_23 : decode cM_source 23 = .ok (.iconst 0, 1) := by decide +kernel
theorem dM_source_24 : decode cM_source 24 = .ok (.istore 6, 2) := by decide +kernel
theorem dM_source_26 : decode cM_source 26 = .ok (.iload 6, 2) := by decide +kernel
theorem dM_source_28 : decode cM_source 28 = .ok (.bipush 64, 2) := by decide +kernel
theorem dM_source_30 : decode cM_source 30 = .ok (.if_icmp .ge 37, 3) := by decide +kernel
theorem dM_source_33 : decode cM_source 33 = .ok (.aload_n 0, 1) := by decide +kernel
theorem dM_source_34 : decode cM_source 34 = .ok (.getfield 7, 3) := by decide +kernel
theorem dM_source_37 : decode cM_source 37 = .ok (.bipush 64, 2) := by decide +kernel
theorem dM_source_39 : decode cM_source 39 = .ok (.iload_n 1, 1) := by decide +kernel
theorem dM_source_40 : decode cM_source 40 = .ok (.imul, 1) := by decide +kernel
theorem dM_source_41 : decode cM_source 41 = .ok (.iload 6, 2) := by decide +kernel
theorem dM_source_43 : decode cM_source 43 = .ok (.iadd, 1) := by decide +kernel
theorem dM_source_44 : decode cM_source 44 = .ok (.laload, 1) := by decide +kernel
theorem dM_source_45 : decode cM_source 45 = .ok (.lload_n 2, 1) := by decide +kernel
theorem dM_source_46 : decode cM_source 46 = .ok (.land, 1) := by decide +kernel
theorem dM_source_47 : decode cM_source 47 = .ok (.lconst 0, 1) := by decide +kernel
theorem dM_source_48 : decode cM_source 48 = .ok (.lcmp, 1) := by decide +kernel
theorem dM_source_49 : decode cM_source 49 = .ok (.ifCond .eq 12, 3) := by decide +kernel
theorem dM_source_52 : decode cM_source 52 = .ok (.lload 4, 2) := by decide +kernel
theorem dM_source_54 : decode cM_source 54 = .ok (.lconst 1, 1) := by decide +kernel
theorem dM_source_55 : decode cM_source 55 = .ok (.iload 6, 2) := by decide +kernel
theorem dM_source_57 : decode cM_source 57 = .ok (.lshl, 1) := by decide +kernel
theorem dM_source_58 : decode cM_source 58 = .ok (.lor, 1) := by decide +kernel
theorem dM_source_59 : decode cM_source 59 = .ok (.lstore 4, 2) := by decide +kernel
theorem dM_source_61 : decode cM_source 61 = .ok (.iinc 6 1, 3) := by decide +kernel
theorem dM_source_64 : decode cM_source 64 = .ok (.goto (-38), 3) := by decide +kernel
theorem dM_source_67 : decode cM_source 67 = .ok (.lload 4, 2) := by decide +kernel
theorem dM_source_69 : decode cM_source 69 = .ok (.lreturn, 1) := by decide +kernel
theorem dM_filter_0 : decode cM_filter 0 = .ok (.aload_n 0, 1) := by decide +kernel
theorem dM_filter_1 : decode cM_filter 1 = .ok (.iconst 0, 1) := by decide +kernel
theorem dM_filter_2 : decode cM_filter 2 = .ok (.putfield 24, 3) := by decide +kernel
theorem dM_filter_5 : decode cM_filter 5 = .ok (.aload_n 0, 1) := by decide +kernel
theorem dM_filter_6 : decode cM_filter 6 = .ok (.iload_n 1, 1) := by decide +kernel
theorem dM_filter_7 : decode cM_filter 7 = .ok (.invokevirtual 51, 3) := by decide +kernel
theorem dM_filter_10 : decode cM_filter 10 = .ok (.ifCond .ne 9, 3) := by decide +kernel
theorem dM_filter_13 : decode cM_filter 13 = .ok (.aload_n 0, 1) := by decide +kernel
theorem dM_filter_14 : decode cM_filter 14 = .ok (.iconst 1, 1) := by decide +kernel
theorem dM_filter_15 : decode cM_filter 15 = .ok (.invokevirtual 59, 3) := by decide +kernel
theorem dM_filter_18 : decode cM_filter 18 = .ok (.ireturn, 1) := by decide +kernel
theorem dM_filter_19 : decode cM_filter 19 = .ok (.aload_n 0, 1) := by decide +kernel
theorem dM_filter_20 : decode cM_filter 20 = .ok (.getfield 13, 3) := by decide +kernel
theorem dM_filter_23 : decode cM_filter 23 = .ok (.iload_n 1, 1) := by decide +kernel
theorem dM_filter_24 : decode cM_filter 24 = .ok (.baload, 1) := by decide +kernel
theorem dM_filter_25 : decode cM_filter 25 = .ok (.ifCond .eq 7, 3) := by decide +kernel
theorem dM_filter_28 : decode cM_filter 28 = .ok (.iconst 1, 1) := by decide +kernel
theorem dM_filter_29 : decode cM_filter 29 = .ok (.goto 4, 3) := by decide +kernel
theorem dM_filter_32 : decode cM_filter 32 = .ok (.iconst 0, 1) := by decide +kernel
theorem dM_filter_33 : decode cM_filter 33 = .ok (.ireturn, 1) := by decide +kernel
theorem dM_apart_0 : decode cM_apart 0 = .ok (.iconst 0, 1) := by decide +kernel
theorem dM_apart_1 : decode cM_apart 1 = .ok (.istore_n 3, 1) := by decide +kernel
theorem dM_apart_2 : decode cM_apart 2 = .ok (.iload_n 3, 1) := by decide +kernel
theorem dM_apart_3 : decode cM_apart 3 = .ok (.bipush 64, 2) := by decide +kernel
theorem dM_apart_5 : decode cM_apart 5 = .ok (.if_icmp .ge 35, 3) := by decide +kernel
theorem dM_apart_8 : decode cM_apart 8 = .ok (.aload_n 0, 1) := by decide +kernel
theorem dM_apart_9 : decode cM_apart 9 = .ok (.getfield 7, 3) := by decide +kernel
theorem dM_apart_12 : decode cM_apart 12 = .ok (.bipush 64, 2) := by decide +kernel
theorem dM_apart_14 : decode cM_apart 14 = .ok (.iload_n 1, 1) := by decide +kernel
theorem dM_apart_15 : decode cM_apart 15 = .ok (.imul, 1) := by decide +kernel
theorem dM_apart_16 : decode cM_apart 16 = .ok (.iload_n 3, 1) := by decide +kernel
theorem dM_apart_17 : decode cM_apart 17 = .ok (.iadd, 1) := by decide +kernel
theorem dM_apart_18 : decode cM_apart 18 = .ok (.laload, 1) := by decide +kernel
theorem dM_apart_19 : decode cM_apart 19 = .ok (.aload_n 0, 1) := by decide +kernel
theorem dM_apart_20 : decode cM_apart 20 = .ok (.getfield 7, 3) := by decide +kernel
theorem dM_apart_23 : decode cM_apart 23 = .ok (.bipush 64, 2) := by decide +kernel
theorem dM_apart_25 : decode cM_apart 25 = .ok (.iload_n 2, 1) := by decide +kernel
theorem dM_apart_26 : decode cM_apart 26 = .ok (.imul, 1) := by decide +kernel
theorem dM_apart_27 : decode cM_apart 27 = .ok (.iload_n 3, 1) := by decide +kernel
theorem dM_apart_28 : decode cM_apart 28 = .ok (.iadd, 1) := by decide +kernel
theorem dM_apart_29 : decode cM_apart 29 = .ok (.laload, 1) := by decide +kernel
theorem dM_apart_30 : decode cM_apart 30 = .ok (.lcmp, 1) := by decide +kernel
theorem dM_apart_31 : decode cM_apart 31 = .ok (.ifCond .ne 9, 3) := by decide +kernel
theorem dM_apart_34 : decode cM_apart 34 = .ok (.iinc 3 1, 3) := by decide +kernel
theorem dM_apart_37 : decode cM_apart 37 = .ok (.goto (-35), 3) := by decide +kernel
theorem dM_apart_40 : decode cM_apart 40 = .ok (.iload_n 3, 1) := by decide +kernel
theorem dM_apart_41 : decode cM_apart 41 = .ok (.ireturn, 1) := by decide +kernel
theorem dM_same_0 : decode cM_same 0 = .ok (.aload_n 0, 1) := by decide +kernel
theorem dM_same_1 : decode cM_same 1 = .ok (.iconst 0, 1) := by decide +kernel
theorem dM_same_2 : decode cM_same 2 = .ok (.putfield 24, 3) := by decide +kernel
theorem dM_same_5 : decode cM_same 5 = .ok (.aload_n 0, 1) := by decide +kernel
theorem dM_same_6 : decode cM_same 6 = .ok (.iload_n 1, 1) := by decide +kernel
theorem dM_same_7 : decode cM_same 7 = .ok (.invokevirtual 51, 3) := by decide +kernel
theorem dM_same_10 : decode cM_same 10 = .ok (.ifCond .eq 11, 3) := by decide +kernel
theorem dM_same_13 : decode cM_same 13 = .ok (.aload_n 0, 1) := by decide +kernel
theorem dM_same_14 : decode cM_same 14 = .ok (.iload_n 2, 1) := by decide +kernel
theorem dM_same_15 : decode cM_same 15 = .ok (.invokevirtual 51, 3) := by decide +kernel
theorem dM_same_18 : decode cM_same 18 = .ok (.ifCond .ne 9, 3) := by decide +kernel
theorem dM_same_21 : decode cM_same 21 = .ok (.aload_n 0, 1) := by decide +kernel
theorem dM_same_22 : decode cM_same 22 = .ok (.iconst 1, 1) := by decide +kernel
theorem dM_same_23 : decode cM_same 23 = .ok (.invokevirtual 59, 3) := by decide +kernel
theorem dM_same_26 : decode cM_same 26 = .ok (.ireturn, 1) := by decide +kernel
theorem dM_same_27 : decode cM_same 27 = .ok (.aload_n 0, 1) := by decide +kernel
theorem dM_same_28 : decode cM_same 28 = .ok (.iload_n 1, 1) := by decide +kernel
theorem dM_same_29 : decode cM_same 29 = .ok (.iload_n 2, 1) := by decide +kernel
theorem dM_same_30 : decode cM_same 30 = .ok (.invokevirtual 70, 3) := by decide +kernel
theorem dM_same_33 : decode cM_same 33 = .ok (.bipush 64, 2) := by decide +kernel
theorem dM_same_35 : decode cM_same 35 = .ok (.if_icmp .ne 7, 3) := by decide +kernel
theorem dM_same_38 : decode cM_same 38 = .ok (.iconst 1, 1) := by decide +kernel
theorem dM_same_39 : decode cM_same 39 = .ok (.goto 4, 3) := by decide +kernel
theorem dM_same_42 : decode cM_same 42 = .ok (.iconst 0, 1) := by decide +kernel
theorem dM_same_43 : decode cM_same 43 = .ok (.ireturn, 1) := by decide +kernel
theorem dM_covers_0 : decode cM_covers 0 = .ok (.aload_n 0, 1) := by decide +kernel
theorem dM_covers_1 : decode cM_covers 1 = .ok (.iconst 0, 1) := by decide +kernel
theorem dM_covers_2 : decode cM_covers 2 = .ok (.putfield 24, 3) := by decide +kernel
theorem dM_covers_5 : decode cM_covers 5 = .ok (.aload_n 0, 1) := by decide +kernel
theorem dM_covers_6 : decode cM_covers 6 = .ok (.iload_n 1, 1) := by decide +kernel
theorem dM_covers_7 : decode cM_covers 7 = .ok (.invokevirtual 51, 3) := by decide +kernel
theorem dM_covers_10 : decode cM_covers 10 = .ok (.ifCond .eq 11, 3) := by decide +kernel
theorem dM_covers_13 : decode cM_covers 13 = .ok (.aload_n 0, 1) := by decide +kernel
theorem dM_covers_14 : decode cM_covers 14 = .ok (.iload_n 2, 1) := by decide +kernel
theorem dM_covers_15 : decode cM_covers 15 = .ok (.invokevirtual 51, 3) := by decide +kernel
theorem dM_covers_18 : decode cM_covers 18 = .ok (.ifCond .ne 9, 3) := by decide +kernel
theorem dM_covers_21 : decode cM_covers 21 = .ok (.aload_n 0, 1) := by decide +kernel
theorem dM_covers_22 : decode cM_covers 22 = .ok (.iconst 1, 1) := by decide +kernel
theorem dM_covers_23 : decode cM_covers 23 = .ok (.invokevirtual 59, 3) := by decide +kernel
theorem dM_covers_26 : decode cM_covers 26 = .ok (.ireturn, 1) := by decide +kernel
theorem dM_covers_27 : decode cM_covers 27 = .ok (.iconst 0, 1) := by decide +kernel
theorem dM_covers_28 : decode cM_covers 28 = .ok (.istore_n 3, 1) := by decide +kernel
theorem dM_covers_29 : decode cM_covers 29 = .ok (.iload_n 3, 1) := by decide +kernel
theorem dM_covers_30 : decode cM_covers 30 = .ok (.bipush 64, 2) := by decide +kernel
theorem dM_covers_32 : decode cM_covers 32 = .ok (.if_icmp .ge 43, 3) := by decide +kernel
theorem dM_covers_35 : decode cM_covers 35 = .ok (.aload_n 0, 1) := by decide +kernel
theorem dM_covers_36 : decode cM_covers 36 = .ok (.getfield 7, 3) := by decide +kernel
theorem dM_covers_39 : decode cM_covers 39 = .ok (.bipush 64, 2) := by decide +kernel
theorem dM_covers_41 : decode cM_covers 41 = .ok (.iload_n 2, 1) := by decide +kernel
theorem dM_covers_42 : decode cM_covers 42 = .ok (.imul, 1) := by decide +kernel
theorem dM_covers_43 : decode cM_covers 43 = .ok (.iload_n 3, 1) := by decide +kernel
theorem dM_covers_44 : decode cM_covers 44 = .ok (.iadd, 1) := by decide +kernel
theorem dM_covers_45 : decode cM_covers 45 = .ok (.laload, 1) := by decide +kernel
theorem dM_covers_46 : decode cM_covers 46 = .ok (.aload_n 0, 1) := by decide +kernel
theorem dM_covers_47 : decode cM_covers 47 = .ok (.getfield 7, 3) := by decide +kernel
theorem dM_covers_50 : decode cM_covers 50 = .ok (.bipush 64, 2) := by decide +kernel
theorem dM_covers_52 : decode cM_covers 52 = .ok (.iload_n 1, 1) := by decide +kernel
theorem dM_covers_53 : decode cM_covers 53 = .ok (.imul, 1) := by decide +kernel
theorem dM_covers_54 : decode cM_covers 54 = .ok (.iload_n 3, 1) := by decide +kernel
theorem dM_covers_55 : decode cM_covers 55 = .ok (.iadd, 1) := by decide +kernel
theorem dM_covers_56 : decode cM_covers 56 = .ok (.laload, 1) := by decide +kernel
theorem dM_covers_57 : decode cM_covers 57 = .ok (.ldc2_w 73, 3) := by decide +kernel
theorem dM_covers_60 : decode cM_covers 60 = .ok (.lxor, 1) := by decide +kernel
theorem dM_covers_61 : decode cM_covers 61 = .ok (.land, 1) := by decide +kernel
theorem dM_covers_62 : decode cM_covers 62 = .ok (.lconst 0, 1) := by decide +kernel
theorem dM_covers_63 : decode cM_covers 63 = .ok (.lcmp, 1) := by decide +kernel
theorem dM_covers_64 : decode cM_covers 64 = .ok (.ifCond .eq 5, 3) := by decide +kernel
theorem dM_covers_67 : decode cM_covers 67 = .ok (.iconst 0, 1) := by decide +kernel
theorem dM_covers_68 : decode cM_covers 68 = .ok (.ireturn, 1) := by decide +kernel
theorem dM_covers_69 : decode cM_covers 69 = .ok (.iinc 3 1, 3) := by decide +kernel
theorem dM_covers_72 : decode cM_covers 72 = .ok (.goto (-43), 3) := by decide +kernel
theorem dM_covers_75 : decode cM_covers 75 = .ok (.iconst 1, 1) := by decide +kernel
theorem dM_covers_76 : decode cM_covers 76 = .ok (.ireturn, 1) := by decide +kernel
theorem dM_differ_0 : decode cM_differ 0 = .ok (.aload_n 0, 1) := by decide +kernel
theorem dM_differ_1 : decode cM_differ 1 = .ok (.iconst 0, 1) := by decide +kernel
theorem dM_differ_2 : decode cM_differ 2 = .ok (.putfield 24, 3) := by decide +kernel
theorem dM_differ_5 : decode cM_differ 5 = .ok (.aload_n 0, 1) := by decide +kernel
theorem dM_differ_6 : decode cM_differ 6 = .ok (.iload_n 1, 1) := by decide +kernel
theorem dM_differ_7 : decode cM_differ 7 = .ok (.invokevirtual 51, 3) := by decide +kernel
theorem dM_differ_10 : decode cM_differ 10 = .ok (.ifCond .eq 11, 3) := by decide +kernel
theorem dM_differ_13 : decode cM_differ 13 = .ok (.aload_n 0, 1) := by decide +kernel
theorem dM_differ_14 : decode cM_differ 14 = .ok (.iload_n 2, 1) := by decide +kernel
theorem dM_differ_15 : decode cM_differ 15 = .ok (.invokevirtual 51, 3) := by decide +kernel
theorem dM_differ_18 : decode cM_differ 18 = .ok (.ifCond .ne 9, 3) := by decide +kernel
theorem dM_differ_21 : decode cM_differ 21 = .ok (.aload_n 0, 1) := by decide +kernel
theorem dM_differ_22 : decode cM_differ 22 = .ok (.iconst 1, 1) := by decide +kernel
theorem dM_differ_23 : decode cM_differ 23 = .ok (.invokevirtual 59, 3) := by decide +kernel
theorem dM_differ_26 : decode cM_differ 26 = .ok (.ireturn, 1) := by decide +kernel
theorem dM_differ_27 : decode cM_differ 27 = .ok (.aload_n 0, 1) := by decide +kernel
theorem dM_differ_28 : decode cM_differ 28 = .ok (.iload_n 1, 1) := by decide +kernel
theorem dM_differ_29 : decode cM_differ 29 = .ok (.iload_n 2, 1) := by decide +kernel
theorem dM_differ_30 : decode cM_differ 30 = .ok (.invokevirtual 70, 3) := by decide +kernel
theorem dM_differ_33 : decode cM_differ 33 = .ok (.istore_n 3, 1) := by decide +kernel
theorem dM_differ_34 : decode cM_differ 34 = .ok (.iload_n 3, 1) := by decide +kernel
theorem dM_differ_35 : decode cM_differ 35 = .ok (.bipush 64, 2) := by decide +kernel
theorem dM_differ_37 : decode cM_differ 37 = .ok (.if_icmp .ne 11, 3) := by decide +kernel
theorem dM_differ_40 : decode cM_differ 40 = .ok (.aload_n 0, 1) := by decide +kernel
theorem dM_differ_41 : decode cM_differ 41 = .ok (.iconst 2, 1) := by decide +kernel
theorem dM_differ_42 : decode cM_differ 42 = .ok (.invokevirtual 59, 3) := by decide +kernel
theorem dM_differ_45 : decode cM_differ 45 = .ok (.goto 4, 3) := by decide +kernel
theorem dM_differ_48 : decode cM_differ 48 = .ok (.iload_n 3, 1) := by decide +kernel
theorem dM_differ_49 : decode cM_differ 49 = .ok (.ireturn, 1) := by decide +kernel
theorem dM_action_0 : decode cM_action 0 = .ok (.iconst 0, 1) := by decide +kernel
theorem dM_action_1 : decode cM_action 1 = .ok (.istore_n 2, 1) := by decide +kernel
theorem dM_action_2 : decode cM_action 2 = .ok (.iconst 0, 1) := by decide +kernel
theorem dM_action_3 : decode cM_action 3 = .ok (.istore_n 3, 1) := by decide +kernel
theorem dM_action_4 : decode cM_action 4 = .ok (.iload_n 3, 1) := by decide +kernel
theorem dM_action_5 : decode cM_action 5 = .ok (.iconst 3, 1) := by decide +kernel
theorem dM_action_6 : decode cM_action 6 = .ok (.if_icmp .ge 36, 3) := by decide +kernel
theorem dM_action_9 : decode cM_action 9 = .ok (.iconst 5, 1) := by decide +kernel
theorem dM_action_10 : decode cM_action 10 = .ok (.iload_n 2, 1) := by decide +kernel
theorem dM_action_11 : decode cM_action 11 = .ok (.imul, 1) := by decide +kernel
theorem dM_action_12 : decode cM_action 12 = .ok (.iload_n 0, 1) := by decide +kernel
theorem dM_action_13 : decode cM_action 13 = .ok (.iload_n 3, 1) := by decide +kernel
theorem dM_action_14 : decode cM_action 14 = .ok (.invokestatic 35, 3) := by decide +kernel
theorem dM_action_17 : decode cM_action 17 = .ok (.iload_n 1, 1) := by decide +kernel
theorem dM_action_18 : decode cM_action 18 = .ok (.iload_n 3, 1) := by decide +kernel
theorem dM_action_19 : decode cM_action 19 = .ok (.invokestatic 35, 3) := by decide +kernel
theorem dM_action_22 : decode cM_action 22 = .ok (.if_icmp .ne 7, 3) := by decide +kernel
theorem dM_action_25 : decode cM_action 25 = .ok (.iconst 4, 1) := by decide +kernel
theorem dM_action_26 : decode cM_action 26 = .ok (.goto 8, 3) := by decide +kernel
theorem dM_action_29 : decode cM_action 29 = .ok (.iload_n 1, 1) := by decide +kernel
theorem dM_action_30 : decode cM_action 30 = .ok (.iload_n 3, 1) := by decide +kernel
theorem dM_action_31 : decode cM_action 31 = .ok (.invokestatic 35, 3) := by decide +kernel
theorem dM_action_34 : decode cM_action 34 = .ok (.iadd, 1) := by decide +kernel
theorem dM_action_35 : decode cM_action 35 = .ok (.istore_n 2, 1) := by decide +kernel
theorem dM_action_36 : decode cM_action 36 = .ok (.iinc 3 1, 3) := by decide +kernel
theorem dM_action_39 : decode cM_action 39 = .ok (.goto (-35), 3) := by decide +kernel
theorem dM_action_42 : decode cM_action 42 = .ok (.iload_n 2, 1) := by decide +kernel
theorem dM_action_43 : decode cM_action 43 = .ok (.ireturn, 1) := by decide +kernel
theorem dM_respond_0 : decode cM_respond 0 = .ok (.aload_n 0, 1) := by decide +kernel
theorem dM_respond_1 : decode cM_respond 1 = .ok (.lconst 0, 1) := by decide +kernel
theorem dM_respond_2 : decode cM_respond 2 = .ok (.putfield 75, 3) := by decide +kernel
theorem dM_respond_5 : decode cM_respond 5 = .ok (.aload_n 0, 1) := by decide +kernel
theorem dM_respond_6 : decode cM_respond 6 = .ok (.lconst 0, 1) := by decide +kernel
theorem dM_respond_7 : decode cM_respond 7 = .ok (.putfield 79, 3) := by decide +kernel
theorem dM_respond_10 : decode cM_respond 10 = .ok (.aload_n 0, 1) := by decide +kernel
theorem dM_respond_11 : decode cM_respond 11 = .ok (.getfield 7, 3) := by decide +kernel
theorem dM_respond_14 : decode cM_respond 14 = .ok (.bipush 64, 2) := by decide +kernel
theorem dM_respond_16 : decode cM_respond 16 = .ok (.iload_n 1, 1) := by decide +kernel
theorem dM_respond_17 : decode cM_respond 17 = .ok (.imul, 1) := by decide +kernel
theorem dM_respond_18 : decode cM_respond 18 = .ok (.iload_n 2, 1) := by decide +kernel
theorem dM_respond_19 : decode cM_respond 19 = .ok (.iadd, 1) := by decide +kernel
theorem dM_respond_20 : decode cM_respond 20 = .ok (.laload, 1) := by decide +kernel
theorem dM_respond_21 : decode cM_respond 21 = .ok (.lstore_n 3, 1) := by decide +kernel
theorem dM_respond_22 : decode cM_respond 22 = .ok (.iconst 0, 1) := by decide +kernel
theorem dM_respond_23 : decode cM_respond 23 = .ok (.istore 5, 2) := by decide +kernel
theorem dM_respond_25 : decode cM_respond 25 = .ok (.iload 5, 2) := by decide +kernel
theorem dM_respond_27 : decode cM_respond 27 = .ok (.bipush 64, 2) := by decide +kernel
theorem dM_respond_29 : decode cM_respond 29 = .ok (.if_icmp .ge 70, 3) := by decide +kernel
theorem dM_respond_32 : decode cM_respond 32 = .ok (.lload_n 3, 1) := by decide +kernel
theorem dM_respond_33 : decode cM_respond 33 = .ok (.iload 5, 2) := by decide +kernel
theorem dM_respond_35 : decode cM_respond 35 = .ok (.lshr, 1) := by decide +kernel
theorem dM_respond_36 : decode cM_respond 36 = .ok (.lconst 1, 1) := by decide +kernel
theorem dM_respond_37 : decode cM_respond 37 = .ok (.land, 1) := by decide +kernel
theorem dM_respond_38 : decode cM_respond 38 = .ok (.lconst 0, 1) := by decide +kernel
theorem dM_respond_39 : decode cM_respond 39 = .ok (.lcmp, 1) := by decide +kernel
theorem dM_respond_40 : decode cM_respond 40 = .ok (.ifCond .ne 6, 3) := by decide +kernel
theorem dM_respond_43 : decode cM_respond 43 = .ok (.goto 50, 3) := by decide +kernel
theorem dM_respond_46 : decode cM_respond 46 = .ok (.iload_n 2, 1) := by decide +kernel
theorem dM_respond_47 : decode cM_respond 47 = .ok (.iload 5, 2) := by decide +kernel
theorem dM_respond_49 : decode cM_respond 49 = .ok (.invokestatic 82, 3) := by decide +kernel
theorem dM_respond_52 : decode cM_respond 52 = .ok (.istore 6, 2) := by decide +kernel
theorem dM_respond_54 : decode cM_respond 54 = .ok (.iload 6, 2) := by decide +kernel
theorem dM_respond_56 : decode cM_respond 56 = .ok (.bipush 63, 2) := by decide +kernel
theorem dM_respond_58 : decode cM_respond 58 = .ok (.if_icmp .ge 19, 3) := by decide +kernel
theorem dM_respond_61 : decode cM_respond 61 = .ok (.aload_n 0, 1) := by decide +kernel
theorem dM_respond_62 : decode cM_respond 62 = .ok (.dup, 1) := by decide +kernel
theorem dM_respond_63 : decode cM_respond 63 = .ok (.getfield 75, 3) := by decide +kernel
theorem dM_respond_66 : decode cM_respond 66 = .ok (.lconst 1, 1) := by decide +kernel
theorem dM_respond_67 : decode cM_respond 67 = .ok (.iload 6, 2) := by decide +kernel
theorem dM_respond_69 : decode cM_respond 69 = .ok (.lshl, 1) := by decide +kernel
theorem dM_respond_70 : decode cM_respond 70 = .ok (.lor, 1) := by decide +kernel
theorem dM_respond_71 : decode cM_respond 71 = .ok (.putfield 75, 3) := by decide +kernel
theorem dM_respond_74 : decode cM_respond 74 = .ok (.goto 19, 3) := by decide +kernel
theorem dM_respond_77 : decode cM_respond 77 = .ok (.aload_n 0, 1) := by decide +kernel
theorem dM_respond_78 : decode cM_respond 78 = .ok (.dup, 1) := by decide +kernel
theorem dM_respond_79 : decode cM_respond 79 = .ok (.getfield 79, 3) := by decide +kernel
theorem dM_respond_82 : decode cM_respond 82 = .ok (.lconst 1, 1) := by decide +kernel
theorem dM_respond_83 : decode cM_respond 83 = .ok (.iload 6, 2) := by decide +kernel
theorem dM_respond_85 : decode cM_respond 85 = .ok (.bipush 63, 2) := by decide +kernel
theorem dM_respond_87 : decode cM_respond 87 = .ok (.isub, 1) := by decide +kernel
theorem dM_respond_88 : decode cM_respond 88 = .ok (.lshl, 1) := by decide +kernel
theorem dM_respond_89 : decode cM_respond 89 = .ok (.lor, 1) := by decide +kernel
theorem dM_respond_90 : decode cM_respond 90 = .ok (.putfield 79, 3) := by decide +kernel
theorem dM_respond_93 : decode cM_respond 93 = .ok (.iinc 5 1, 3) := by decide +kernel
theorem dM_respond_96 : decode cM_respond 96 = .ok (.goto (-71), 3) := by decide +kernel
theorem dM_respond_99 : decode cM_respond 99 = .ok (.return_, 1) := by decide +kernel
theorem dM_uniform_0 : decode cM_uniform 0 = .ok (.aload_n 0, 1) := by decide +kernel
theorem dM_uniform_1 : decode cM_uniform 1 = .ok (.iload_n 1, 1) := by decide +kernel
theorem dM_uniform_2 : decode cM_uniform 2 = .ok (.iload_n 2, 1) := by decide +kernel
theorem dM_uniform_3 : decode cM_uniform 3 = .ok (.invokevirtual 85, 3) := by decide +kernel
theorem dM_uniform_6 : decode cM_uniform 6 = .ok (.aload_n 0, 1) := by decide +kernel
theorem dM_uniform_7 : decode cM_uniform 7 = .ok (.getfield 75, 3) := by decide +kernel
theorem dM_uniform_10 : decode cM_uniform 10 = .ok (.lstore 4, 2) := by decide +kernel
theorem dM_uniform_12 : decode cM_uniform 12 = .ok (.aload_n 0, 1) := by decide +kernel
theorem dM_uniform_13 : decode cM_uniform 13 = .ok (.getfield 79, 3) := by decide +kernel
theorem dM_uniform_16 : decode cM_uniform 16 = .ok (.lstore 6, 2) := by decide +kernel
theorem dM_uniform_18 : decode cM_uniform 18 = .ok (.iload_n 2, 1) := by decide +kernel
theorem dM_uniform_19 : decode cM_uniform 19 = .ok (.iconst 1, 1) := by decide +kernel
theorem dM_uniform_20 : decode cM_uniform 20 = .ok (.iadd, 1) := by decide +kernel
theorem dM_uniform_21 : decode cM_uniform 21 = .ok (.istore 8, 2) := by decide +kernel
theorem dM_uniform_23 : decode cM_uniform 23 = .ok (.iload 8, 2) := by decide +kernel
theorem dM_uniform_25 : decode cM_uniform 25 = .ok (.iload_n 2, 1) := by decide +kernel
theorem dM_uniform_26 : decode cM_uniform 26 = .ok (.iload_n 3, 1) := by decide +kernel
theorem dM_uniform_27 : decode cM_uniform 27 = .ok (.iadd, 1) := by decide +kernel
theorem dM_uniform_28 : decode cM_uniform 28 = .ok (.if_icmp .ge 38, 3) := by decide +kernel
theorem dM_uniform_31 : decode cM_uniform 31 = .ok (.aload_n 0, 1) := by decide +kernel
theorem dM_uniform_32 : decode cM_uniform 32 = .ok (.iload_n 1, 1) := by decide +kernel
theorem dM_uniform_33 : decode cM_uniform 33 = .ok (.iload 8, 2) := by decide +kernel
theorem dM_uniform_35 : decode cM_uniform 35 = .ok (.invokevirtual 85, 3) := by decide +kernel
theorem dM_uniform_38 : decode cM_uniform 38 = .ok (.aload_n 0, 1) := by decide +kernel
theorem dM_uniform_39 : decode cM_uniform 39 = .ok (.getfield 75, 3) := by decide +kernel
theorem dM_uniform_42 : decode cM_uniform 42 = .ok (.lload 4, 2) := by decide +kernel
theorem dM_uniform_44 : decode cM_uniform 44 = .ok (.lcmp, 1) := by decide +kernel
theorem dM_uniform_45 : decode cM_uniform 45 = .ok (.ifCond .ne 13, 3) := by decide +kernel
theorem dM_uniform_48 : decode cM_uniform 48 = .ok (.aload_n 0, 1) := by decide +kernel
theorem dM_uniform_49 : decode cM_uniform 49 = .ok (.getfield 79, 3) := by decide +kernel
theorem dM_uniform_52 : decode cM_uniform 52 = .ok (.lload 6, 2) := by decide +kernel
theorem dM_uniform_54 : decode cM_uniform 54 = .ok (.lcmp, 1) := by decide +kernel
theorem dM_uniform_55 : decode cM_uniform 55 = .ok (.ifCond .eq 5, 3) := by decide +kernel
theorem dM_uniform_58 : decode cM_uniform 58 = .ok (.iconst 0, 1) := by decide +kernel
theorem dM_uniform_59 : decode cM_uniform 59 = .ok (.ireturn, 1) := by decide +kernel
theorem dM_uniform_60 : decode cM_uniform 60 = .ok (.iinc 8 1, 3) := by decide +kernel
theorem dM_uniform_63 : decode cM_uniform 63 = .ok (.goto (-40), 3) := by decide +kernel
theorem dM_uniform_66 : decode cM_uniform 66 = .ok (.iconst 1, 1) := by decide +kernel
theorem dM_uniform_67 : decode cM_uniform 67 = .ok (.ireturn, 1) := by decide +kernel
theorem dM_table_0 : decode cM_table 0 = .ok (.iconst 0, 1) := by decide +kernel
theorem dM_table_1 : decode cM_table 1 = .ok (.istore_n 2, 1) := by decide +kernel
theorem dM_table_2 : decode cM_table 2 = .ok (.iconst 0, 1) := by decide +kernel
theorem dM_table_3 : decode cM_table 3 = .ok (.istore_n 3, 1) := by decide +kernel
theorem dM_table_4 : decode cM_table 4 = .ok (.iload_n 3, 1) := by decide +kernel
theorem dM_table_5 : decode cM_table 5 = .ok (.bipush 64, 2) := by decide +kernel
theorem dM_table_7 : decode cM_table 7 = .ok (.if_icmp .ge 60, 3) := by decide +kernel
theorem dM_table_10 : decode cM_table 10 = .ok (.bipush 64, 2) := by decide +kernel
theorem dM_table_12 : decode cM_table 12 = .ok (.istore 4, 2) := by decide +kernel
theorem dM_table_14 : decode cM_table 14 = .ok (.iload_n 3, 1) := by decide +kernel
theorem dM_table_15 : decode cM_table 15 = .ok (.iload 4, 2) := by decide +kernel
theorem dM_table_17 : decode cM_table 17 = .ok (.irem, 1) := by decide +kernel
theorem dM_table_18 : decode cM_table 18 = .ok (.ifCond .ne 14, 3) := by decide +kernel
theorem dM_table_21 : decode cM_table 21 = .ok (.aload_n 0, 1) := by decide +kernel
theorem dM_table_22 : decode cM_table 22 = .ok (.iload_n 1, 1) := by decide +kernel
theorem dM_table_23 : decode cM_table 23 = .ok (.iload_n 3, 1) := by decide +kernel
theorem dM_table_24 : decode cM_table 24 = .ok (.iload 4, 2) := by decide +kernel
theorem dM_table_26 : decode cM_table 26 = .ok (.invokevirtual 89, 3) := by decide +kernel
theorem dM_table_29 : decode cM_table 29 = .ok (.ifCond .ne 12, 3) := by decide +kernel
theorem dM_table_32 : decode cM_table 32 = .ok (.iload 4, 2) := by decide +kernel
theorem dM_table_34 : decode cM_table 34 = .ok (.iconst 4, 1) := by decide +kernel
theorem dM_table_35 : decode cM_table 35 = .ok (.idiv, 1) := by decide +kernel
theorem dM_table_36 : decode cM_table 36 = .ok (.istore 4, 2) := by decide +kernel
theorem dM_table_38 : decode cM_table 38 = .ok (.goto (-24), 3) := by decide +kernel
theorem dM_table_41 : decode cM_table 41 = .ok (.aload_n 0, 1) := by decide +kernel
theorem dM_table_42 : decode cM_table 42 = .ok (.getfield 17, 3) := by decide +kernel
theorem dM_table_45 : decode cM_table 45 = .ok (.iload_n 2, 1) := by decide +kernel
theorem dM_table_46 : decode cM_table 46 = .ok (.iload_n 3, 1) := by decide +kernel
theorem dM_table_47 : decode cM_table 47 = .ok (.iastore, 1) := by decide +kernel
theorem dM_table_48 : decode cM_table 48 = .ok (.aload_n 0, 1) := by decide +kernel
theorem dM_table_49 : decode cM_table 49 = .ok (.getfield 21, 3) := by decide +kernel
theorem dM_table_52 : decode cM_table 52 = .ok (.iload_n 2, 1) := by decide +kernel
theorem dM_table_53 : decode cM_table 53 = .ok (.iload 4, 2) := by decide +kernel
theorem dM_table_55 : decode cM_table 55 = .ok (.iastore, 1) := by decide +kernel
theorem dM_table_56 : decode cM_table 56 = .ok (.iinc 2 1, 3) := by decide +kernel
theorem dM_table_59 : decode cM_table 59 = .ok (.iload_n 3, 1) := by decide +kernel
theorem dM_table_60 : decode cM_table 60 = .ok (.iload 4, 2) := by decide +kernel
theorem dM_table_62 : decode cM_table 62 = .ok (.iadd, 1) := by decide +kernel
theorem dM_table_63 : decode cM_table 63 = .ok (.istore_n 3, 1) := by decide +kernel
theorem dM_table_64 : decode cM_table 64 = .ok (.goto (-60), 3) := by decide +kernel
theorem dM_table_67 : decode cM_table 67 = .ok (.iload_n 2, 1) := by decide +kernel
theorem dM_table_68 : decode cM_table 68 = .ok (.ireturn, 1) := by decide +kernel
theorem dM_rules_0 : decode cM_rules 0 = .ok (.aload_n 0, 1) := by decide +kernel
theorem dM_rules_1 : decode cM_rules 1 = .ok (.iconst 0, 1) := by decide +kernel
theorem dM_rules_2 : decode cM_rules 2 = .ok (.putfield 24, 3) := by decide +kernel
theorem dM_rules_5 : decode cM_rules 5 = .ok (.aload_n 0, 1) := by decide +kernel
theorem dM_rules_6 : decode cM_rules 6 = .ok (.iload_n 1, 1) := by decide +kernel
theorem dM_rules_7 : decode cM_rules 7 = .ok (.invokevirtual 51, 3) := by decide +kernel
theorem dM_rules_10 : decode cM_rules 10 = .ok (.ifCond .eq 11, 3) := by decide +kernel
theorem dM_rules_13 : decode cM_rules 13 = .ok (.aload_n 0, 1) := by decide +kernel
theorem dM_rules_14 : decode cM_rules 14 = .ok (.iload_n 1, 1) := by decide +kernel
theorem dM_rules_15 : decode cM_rules 15 = .ok (.invokevirtual 92, 3) := by decide +kernel
theorem dM_rules_18 : decode cM_rules 18 = .ok (.goto 8, 3) := by decide +kernel
theorem dM_rules_21 : decode cM_rules 21 = .ok (.aload_n 0, 1) := by decide +kernel
theorem dM_rules_22 : decode cM_rules 22 = .ok (.iconst 1, 1) := by decide +kernel
theorem dM_rules_23 : decode cM_rules 23 = .ok (.invokevirtual 59, 3) := by decide +kernel
theorem dM_rules_26 : decode cM_rules 26 = .ok (.ireturn, 1) := by decide +kernel
theorem dM_ones_0 : decode cM_ones 0 = .ok (.iconst 0, 1) := by decide +kernel
theorem dM_ones_1 : decode cM_ones 1 = .ok (.istore_n 2, 1) := by decide +kernel
theorem dM_ones_2 : decode cM_ones 2 = .ok (.iconst 0, 1) := by decide +kernel
theorem dM_ones_3 : decode cM_ones 3 = .ok (.istore_n 3, 1) := by decide +kernel
theorem dM_ones_4 : decode cM_ones 4 = .ok (.iload_n 3, 1) := by decide +kernel
theorem dM_ones_5 : decode cM_ones 5 = .ok (.bipush 64, 2) := by decide +kernel
theorem dM_ones_7 : decode cM_ones 7 = .ok (.if_icmp .ge 22, 3) := by decide +kernel
theorem dM_ones_10 : decode cM_ones 10 = .ok (.lload_n 0, 1) := by decide +kernel
theorem dM_ones_11 : decode cM_ones 11 = .ok (.iload_n 3, 1) := by decide +kernel
theorem dM_ones_12 : decode cM_ones 12 = .ok (.lshr, 1) := by decide +kernel
theorem dM_ones_13 : decode cM_ones 13 = .ok (.lconst 1, 1) := by decide +kernel
theorem dM_ones_14 : decode cM_ones 14 = .ok (.land, 1) := by decide +kernel
theorem dM_ones_15 : decode cM_ones 15 = .ok (.lconst 0, 1) := by decide +kernel
theorem dM_ones_16 : decode cM_ones 16 = .ok (.lcmp, 1) := by decide +kernel
theorem dM_ones_17 : decode cM_ones 17 = .ok (.ifCond .eq 6, 3) := by decide +kernel
theorem dM_ones_20 : decode cM_ones 20 = .ok (.iinc 2 1, 3) := by decide +kernel
theorem dM_ones_23 : decode cM_ones 23 = .ok (.iinc 3 1, 3) := by decide +kernel
theorem dM_ones_26 : decode cM_ones 26 = .ok (.goto (-22), 3) := by decide +kernel
theorem dM_ones_29 : decode cM_ones 29 = .ok (.iload_n 2, 1) := by decide +kernel
theorem dM_ones_30 : decode cM_ones 30 = .ok (.ireturn, 1) := by decide +kernel
theorem dM_rule_0 : decode cM_rule 0 = .ok (.aload_n 0, 1) := by decide +kernel
theorem dM_rule_1 : decode cM_rule 1 = .ok (.iconst 0, 1) := by decide +kernel
theorem dM_rule_2 : decode cM_rule 2 = .ok (.putfield 24, 3) := by decide +kernel
theorem dM_rule_5 : decode cM_rule 5 = .ok (.aload_n 0, 1) := by decide +kernel
theorem dM_rule_6 : decode cM_rule 6 = .ok (.iload_n 1, 1) := by decide +kernel
theorem dM_rule_7 : decode cM_rule 7 = .ok (.invokevirtual 51, 3) := by decide +kernel
theorem dM_rule_10 : decode cM_rule 10 = .ok (.ifCond .eq 16, 3) := by decide +kernel
theorem dM_rule_13 : decode cM_rule 13 = .ok (.iload_n 2, 1) := by decide +kernel
theorem dM_rule_14 : decode cM_rule 14 = .ok (.ifCond .lt 12, 3) := by decide +kernel
theorem dM_rule_17 : decode cM_rule 17 = .ok (.iload_n 2, 1) := by decide +kernel
theorem dM_rule_18 : decode cM_rule 18 = .ok (.aload_n 0, 1) := by decide +kernel
theorem dM_rule_19 : decode cM_rule 19 = .ok (.iload_n 1, 1) := by decide +kernel
theorem dM_rule_20 : decode cM_rule 20 = .ok (.invokevirtual 92, 3) := by decide +kernel
theorem dM_rule_23 : decode cM_rule 23 = .ok (.if_icmp .lt 9, 3) := by decide +kernel
theorem dM_rule_26 : decode cM_rule 26 = .ok (.aload_n 0, 1) := by decide +kernel
theorem dM_rule_27 : decode cM_rule 27 = .ok (.iconst 1, 1) := by decide +kernel
theorem dM_rule_28 : decode cM_rule 28 = .ok (.invokevirtual 59, 3) := by decide +kernel
theorem dM_rule_31 : decode cM_rule 31 = .ok (.ireturn, 1) := by decide +kernel
theorem dM_rule_32 : decode cM_rule 32 = .ok (.aload_n 0, 1) := by decide +kernel
theorem dM_rule_33 : decode cM_rule 33 = .ok (.getfield 17, 3) := by decide +kernel
theorem dM_rule_36 : decode cM_rule 36 = .ok (.iload_n 2, 1) := by decide +kernel
theorem dM_rule_37 : decode cM_rule 37 = .ok (.iaload, 1) := by decide +kernel
theorem dM_rule_38 : decode cM_rule 38 = .ok (.istore 4, 2) := by decide +kernel
theorem dM_rule_40 : decode cM_rule 40 = .ok (.iload_n 3, 1) := by decide +kernel
theorem dM_rule_41 : decode cM_rule 41 = .ok (.tableswitch 112 0 3 #[31, 53, 75, 96], 31) := by decide +kernel
theorem dM_rule_72 : decode cM_rule 72 = .ok (.aload_n 0, 1) := by decide +kernel
theorem dM_rule_73 : decode cM_rule 73 = .ok (.getfield 21, 3) := by decide +kernel
theorem dM_rule_76 : decode cM_rule 76 = .ok (.iload_n 2, 1) := by decide +kernel
theorem dM_rule_77 : decode cM_rule 77 = .ok (.iaload, 1) := by decide +kernel
theorem dM_rule_78 : decode cM_rule 78 = .ok (.bipush 64, 2) := by decide +kernel
theorem dM_rule_80 : decode cM_rule 80 = .ok (.if_icmp .ge 12, 3) := by decide +kernel
theorem dM_rule_83 : decode cM_rule 83 = .ok (.iload 4, 2) := by decide +kernel
theorem dM_rule_85 : decode cM_rule 85 = .ok (.iconst 0, 1) := by decide +kernel
theorem dM_rule_86 : decode cM_rule 86 = .ok (.invokestatic 35, 3) := by decide +kernel
theorem dM_rule_89 : decode cM_rule 89 = .ok (.goto 4, 3) := by decide +kernel
theorem dM_rule_92 : decode cM_rule 92 = .ok (.iconst (-1), 1) := by decide +kernel
theorem dM_rule_93 : decode cM_rule 93 = .ok (.ireturn, 1) := by decide +kernel
theorem dM_rule_94 : decode cM_rule 94 = .ok (.aload_n 0, 1) := by decide +kernel
theorem dM_rule_95 : decode cM_rule 95 = .ok (.getfield 21, 3) := by decide +kernel
theorem dM_rule_98 : decode cM_rule 98 = .ok (.iload_n 2, 1) := by decide +kernel
theorem dM_rule_99 : decode cM_rule 99 = .ok (.iaload, 1) := by decide +kernel
theorem dM_rule_100 : decode cM_rule 100 = .ok (.bipush 16, 2) := by decide +kernel
theorem dM_rule_102 : decode cM_rule 102 = .ok (.if_icmp .ge 12, 3) := by decide +kernel
theorem dM_rule_105 : decode cM_rule 105 = .ok (.iload 4, 2) := by decide +kernel
theorem dM_rule_107 : decode cM_rule 107 = .ok (.iconst 1, 1) := by decide +kernel
theorem dM_rule_108 : decode cM_rule 108 = .ok (.invokestatic 35, 3) := by decide +kernel
theorem dM_rule_111 : decode cM_rule 111 = .ok (.goto 4, 3) := by decide +kernel
theorem dM_rule_114 : decode cM_rule 114 = .ok (.iconst (-1), 1) := by decide +kernel
theorem dM_rule_115 : decode cM_rule 115 = .ok (.ireturn, 1) := by decide +kernel
theorem dM_rule_116 : decode cM_rule 116 = .ok (.aload_n 0, 1) := by decide +kernel
theorem dM_rule_117 : decode cM_rule 117 = .ok (.getfield 21, 3) := by decide +kernel
theorem dM_rule_120 : decode cM_rule 120 = .ok (.iload_n 2, 1) := by decide +kernel
theorem dM_rule_121 : decode cM_rule 121 = .ok (.iaload, 1) := by decide +kernel
theorem dM_rule_122 : decode cM_rule 122 = .ok (.iconst 4, 1) := by decide +kernel
theorem dM_rule_123 : decode cM_rule 123 = .ok (.if_icmp .ge 12, 3) := by decide +kernel
theorem dM_rule_126 : decode cM_rule 126 = .ok (.iload 4, 2) := by decide +kernel
theorem dM_rule_128 : decode cM_rule 128 = .ok (.iconst 2, 1) := by decide +kernel
theorem dM_rule_129 : decode cM_rule 129 = .ok (.invokestatic 35, 3) := by decide +kernel
theorem dM_rule_132 : decode cM_rule 132 = .ok (.goto 4, 3) := by decide +kernel
theorem dM_rule_135 : decode cM_rule 135 = .ok (.iconst (-1), 1) := by decide +kernel
theorem dM_rule_136 : decode cM_rule 136 = .ok (.ireturn, 1) := by decide +kernel
theorem dM_rule_137 : decode cM_rule 137 = .ok (.aload_n 0, 1) := by decide +kernel
theorem dM_rule_138 : decode cM_rule 138 = .ok (.getfield 7, 3) := by decide +kernel
theorem dM_rule_141 : decode cM_rule 141 = .ok (.bipush 64, 2) := by decide +kernel
theorem dM_rule_143 : decode cM_rule 143 = .ok (.iload_n 1, 1) := by decide +kernel
theorem dM_rule_144 : decode cM_rule 144 = .ok (.imul, 1) := by decide +kernel
theorem dM_rule_145 : decode cM_rule 145 = .ok (.iload 4, 2) := by decide +kernel
theorem dM_rule_147 : decode cM_rule 147 = .ok (.iadd, 1) := by decide +kernel
theorem dM_rule_148 : decode cM_rule 148 = .ok (.laload, 1) := by decide +kernel
theorem dM_rule_149 : decode cM_rule 149 = .ok (.invokestatic 95, 3) := by decide +kernel
theorem dM_rule_152 : decode cM_rule 152 = .ok (.ireturn, 1) := by decide +kernel
theorem dM_rule_153 : decode cM_rule 153 = .ok (.aload_n 0, 1) := by decide +kernel
theorem dM_rule_154 : decode cM_rule 154 = .ok (.iconst 2, 1) := by decide +kernel
theorem dM_rule_155 : decode cM_rule 155 = .ok (.invokevirtual 59, 3) := by decide +kernel
theorem dM_rule_158 : decode cM_rule 158 = .ok (.ireturn, 1) := by decide +kernel
theorem dM_match_0 : decode cM_match 0 = .ok (.aload_n 0, 1) := by decide +kernel
theorem dM_match_1 : decode cM_match 1 = .ok (.iconst 0, 1) := by decide +kernel
theorem dM_match_2 : decode cM_match 2 = .ok (.putfield 24, 3) := by decide +kernel
theorem dM_match_5 : decode cM_match 5 = .ok (.aload_n 0, 1) := by decide +kernel
theorem dM_match_6 : decode cM_match 6 = .ok (.iload_n 1, 1) := by decide +kernel
theorem dM_match_7 : decode cM_match 7 = .ok (.invokevirtual 51, 3) := by decide +kernel
theorem dM_match_10 : decode cM_match 10 = .ok (.ifCond .ne 9, 3) := by decide +kernel
theorem dM_match_13 : decode cM_match 13 = .ok (.aload_n 0, 1) := by decide +kernel
theorem dM_match_14 : decode cM_match 14 = .ok (.iconst 1, 1) := by decide +kernel
theorem dM_match_15 : decode cM_match 15 = .ok (.invokevirtual 59, 3) := by decide +kernel
theorem dM_match_18 : decode cM_match 18 = .ok (.ireturn, 1) := by decide +kernel
theorem dM_match_19 : decode cM_match 19 = .ok (.iload_n 2, 1) := by decide +kernel
theorem dM_match_20 : decode cM_match 20 = .ok (.iconst 0, 1) := by decide +kernel
theorem dM_match_21 : decode cM_match 21 = .ok (.bipush 63, 2) := by decide +kernel
theorem dM_match_23 : decode cM_match 23 = .ok (.invokestatic 31, 3) := by decide +kernel
theorem dM_match_26 : decode cM_match 26 = .ok (.ifCond .ne 9, 3) := by decide +kernel
theorem dM_match_29 : decode cM_match 29 = .ok (.aload_n 0, 1) := by decide +kernel
theorem dM_match_30 : decode cM_match 30 = .ok (.iconst 2, 1) := by decide +kernel
theorem dM_match_31 : decode cM_match 31 = .ok (.invokevirtual 59, 3) := by decide +kernel
theorem dM_match_34 : decode cM_match 34 = .ok (.ireturn, 1) := by decide +kernel
theorem dM_match_35 : decode cM_match 35 = .ok (.aload_n 0, 1) := by decide +kernel
theorem dM_match_36 : decode cM_match 36 = .ok (.iload_n 1, 1) := by decide +kernel
theorem dM_match_37 : decode cM_match 37 = .ok (.invokevirtual 92, 3) := by decide +kernel
theorem dM_match_40 : decode cM_match 40 = .ok (.istore_n 3, 1) := by decide +kernel
theorem dM_match_41 : decode cM_match 41 = .ok (.iconst 0, 1) := by decide +kernel
theorem dM_match_42 : decode cM_match 42 = .ok (.istore 4, 2) := by decide +kernel
theorem dM_match_44 : decode cM_match 44 = .ok (.iload 4, 2) := by decide +kernel
theorem dM_match_46 : decode cM_match 46 = .ok (.iload_n 3, 1) := by decide +kernel
theorem dM_match_47 : decode cM_match 47 = .ok (.if_icmp .ge 31, 3) := by decide +kernel
theorem dM_match_50 : decode cM_match 50 = .ok (.iload_n 2, 1) := by decide +kernel
theorem dM_match_51 : decode cM_match 51 = .ok (.aload_n 0, 1) := by decide +kernel
theorem dM_match_52 : decode cM_match 52 = .ok (.getfield 17, 3) := by decide +kernel
theorem dM_match_55 : decode cM_match 55 = .ok (.iload 4, 2) := by decide +kernel
theorem dM_match_57 : decode cM_match 57 = .ok (.iaload, 1) := by decide +kernel
theorem dM_match_58 : decode cM_match 58 = .ok (.aload_n 0, 1) := by decide +kernel
theorem dM_match_59 : decode cM_match 59 = .ok (.getfield 21, 3) := by decide +kernel
theorem dM_match_62 : decode cM_match 62 = .ok (.iload 4, 2) := by decide +kernel
theorem dM_match_64 : decode cM_match 64 = .ok (.iaload, 1) := by decide +kernel
theorem dM_match_65 : decode cM_match 65 = .ok (.iadd, 1) := by decide +kernel
theorem dM_match_66 : decode cM_match 66 = .ok (.if_icmp .ge 6, 3) := by decide +kernel
theorem dM_match_69 : decode cM_match 69 = .ok (.iload 4, 2) := by decide +kernel
theorem dM_match_71 : decode cM_match 71 = .ok (.ireturn, 1) := by decide +kernel
theorem dM_match_72 : decode cM_match 72 = .ok (.iinc 4 1, 3) := by decide +kernel
theorem dM_match_75 : decode cM_match 75 = .ok (.goto (-31), 3) := by decide +kernel
theorem dM_match_78 : decode cM_match 78 = .ok (.iconst 0, 1) := by decide +kernel
theorem dM_match_79 : decode cM_match 79 = .ok (.ireturn, 1) := by decide +kernel
theorem dM_hops_0 : decode cM_hops 0 = .ok (.aload_n 0, 1) := by decide +kernel
theorem dM_hops_1 : decode cM_hops 1 = .ok (.iconst 0, 1) := by decide +kernel
theorem dM_hops_2 : decode cM_hops 2 = .ok (.putfield 24, 3) := by decide +kernel
theorem dM_hops_5 : decode cM_hops 5 = .ok (.aload_n 0, 1) := by decide +kernel
theorem dM_hops_6 : decode cM_hops 6 = .ok (.iload_n 1, 1) := by decide +kernel
theorem dM_hops_7 : decode cM_hops 7 = .ok (.invokevirtual 51, 3) := by decide +kernel
theorem dM_hops_10 : decode cM_hops 10 = .ok (.ifCond .ne 9, 3) := by decide +kernel
theorem dM_hops_13 : decode cM_hops 13 = .ok (.aload_n 0, 1) := by decide +kernel
theorem dM_hops_14 : decode cM_hops 14 = .ok (.iconst 1, 1) := by decide +kernel
theorem dM_hops_15 : decode cM_hops 15 = .ok (.invokevirtual 59, 3) := by decide +kernel
theorem dM_hops_18 : decode cM_hops 18 = .ok (.ireturn, 1) := by decide +kernel
theorem dM_hops_19 : decode cM_hops 19 = .ok (.iload_n 2, 1) := by decide +kernel
theorem dM_hops_20 : decode cM_hops 20 = .ok (.iconst 0, 1) := by decide +kernel
theorem dM_hops_21 : decode cM_hops 21 = .ok (.bipush 63, 2) := by decide +kernel
theorem dM_hops_23 : decode cM_hops 23 = .ok (.invokestatic 31, 3) := by decide +kernel
theorem dM_hops_26 : decode cM_hops 26 = .ok (.ifCond .ne 9, 3) := by decide +kernel
theorem dM_hops_29 : decode cM_hops 29 = .ok (.aload_n 0, 1) := by decide +kernel
theorem dM_hops_30 : decode cM_hops 30 = .ok (.iconst 2, 1) := by decide +kernel
theorem dM_hops_31 : decode cM_hops 31 = .ok (.invokevirtual 59, 3) := by decide +kernel
theorem dM_hops_34 : decode cM_hops 34 = .ok (.ireturn, 1) := by decide +kernel
theorem dM_hops_35 : decode cM_hops 35 = .ok (.lconst 1, 1) := by decide +kernel
theorem dM_hops_36 : decode cM_hops 36 = .ok (.iload_n 2, 1) := by decide +kernel
theorem dM_hops_37 : decode cM_hops 37 = .ok (.lshl, 1) := by decide +kernel
theorem dM_hops_38 : decode cM_hops 38 = .ok (.lstore 5, 2) := by decide +kernel
theorem dM_hops_40 : decode cM_hops 40 = .ok (.iconst 0, 1) := by decide +kernel
theorem dM_hops_41 : decode cM_hops 41 = .ok (.istore 7, 2) := by decide +kernel
theorem dM_hops_43 : decode cM_hops 43 = .ok (.iload 7, 2) := by decide +kernel
theorem dM_hops_45 : decode cM_hops 45 = .ok (.bipush 65, 2) := by decide +kernel
theorem dM_hops_47 : decode cM_hops 47 = .ok (.if_icmp .ge 30, 3) := by decide +kernel
theorem dM_hops_50 : decode cM_hops 50 = .ok (.lload 5, 2) := by decide +kernel
theorem dM_hops_52 : decode cM_hops 52 = .ok (.lload_n 3, 1) := by decide +kernel
theorem dM_hops_53 : decode cM_hops 53 = .ok (.land, 1) := by decide +kernel
theorem dM_hops_54 : decode cM_hops 54 = .ok (.lconst 0, 1) := by decide +kernel
theorem dM_hops_55 : decode cM_hops 55 = .ok (.lcmp, 1) := by decide +kernel
theorem dM_hops_56 : decode cM_hops 56 = .ok (.ifCond .eq 6, 3) := by decide +kernel
theorem dM_hops_59 : decode cM_hops 59 = .ok (.iload 7, 2) := by decide +kernel
theorem dM_hops_61 : decode cM_hops 61 = .ok (.ireturn, 1) := by decide +kernel
theorem dM_hops_62 : decode cM_hops 62 = .ok (.aload_n 0, 1) := by decide +kernel
theorem dM_hops_63 : decode cM_hops 63 = .ok (.iload_n 1, 1) := by decide +kernel
theorem dM_hops_64 : decode cM_hops 64 = .ok (.lload 5, 2) := by decide +kernel
theorem dM_hops_66 : decode cM_hops 66 = .ok (.invokevirtual 39, 3) := by decide +kernel
theorem dM_hops_69 : decode cM_hops 69 = .ok (.lstore 5, 2) := by decide +kernel
theorem dM_hops_71 : decode cM_hops 71 = .ok (.iinc 7 1, 3) := by decide +kernel
theorem dM_hops_74 : decode cM_hops 74 = .ok (.goto (-31), 3) := by decide +kernel
theorem dM_hops_77 : decode cM_hops 77 = .ok (.iconst (-1), 1) := by decide +kernel
theorem dM_hops_78 : decode cM_hops 78 = .ok (.ireturn, 1) := by decide +kernel
theorem dM_count_0 : decode cM_count 0 = .ok (.aload_n 0, 1) := by decide +kernel
theorem dM_count_1 : decode cM_count 1 = .ok (.iconst 0, 1) := by decide +kernel
theorem dM_count_2 : decode cM_count 2 = .ok (.putfield 24, 3) := by decide +kernel
theorem dM_count_5 : decode cM_count 5 = .ok (.iload_n 1, 1) := by decide +kernel
theorem dM_count_6 : decode cM_count 6 = .ok (.ifCond .ne 8, 3) := by decide +kernel
theorem dM_count_9 : decode cM_count 9 = .ok (.aload_n 0, 1) := by decide +kernel
theorem dM_count_10 : decode cM_count 10 = .ok (.getfield 28, 3) := by decide +kernel
theorem dM_count_13 : decode cM_count 13 = .ok (.ireturn, 1) := by decide +kernel
theorem dM_count_14 : decode cM_count 14 = .ok (.iload_n 1, 1) := by decide +kernel
theorem dM_count_15 : decode cM_count 15 = .ok (.iconst 1, 1) := by decide +kernel
theorem dM_count_16 : decode cM_count 16 = .ok (.if_icmp .eq 9, 3) := by decide +kernel
theorem dM_count_19 : decode cM_count 19 = .ok (.aload_n 0, 1) := by decide +kernel
theorem dM_count_20 : decode cM_count 20 = .ok (.iconst 1, 1) := by decide +kernel
theorem dM_count_21 : decode cM_count 21 = .ok (.invokevirtual 59, 3) := by decide +kernel
theorem dM_count_24 : decode cM_count 24 = .ok (.ireturn, 1) := by decide +kernel
theorem dM_count_25 : decode cM_count 25 = .ok (.iconst 0, 1) := by decide +kernel
theorem dM_count_26 : decode cM_count 26 = .ok (.istore_n 2, 1) := by decide +kernel
theorem dM_count_27 : decode cM_count 27 = .ok (.iconst 0, 1) := by decide +kernel
theorem dM_count_28 : decode cM_count 28 = .ok (.istore_n 3, 1) := by decide +kernel
theorem dM_count_29 : decode cM_count 29 = .ok (.iload_n 3, 1) := by decide +kernel
theorem dM_count_30 : decode cM_count 30 = .ok (.aload_n 0, 1) := by decide +kernel
theorem dM_count_31 : decode cM_count 31 = .ok (.getfield 28, 3) := by decide +kernel
theorem dM_count_34 : decode cM_count 34 = .ok (.if_icmp .ge 39, 3) := by decide +kernel
theorem dM_count_37 : decode cM_count 37 = .ok (.iconst 0, 1) := by decide +kernel
theorem dM_count_38 : decode cM_count 38 = .ok (.istore 4, 2) := by decide +kernel
theorem dM_count_40 : decode cM_count 40 = .ok (.aload_n 0, 1) := by decide +kernel
theorem dM_count_41 : decode cM_count 41 = .ok (.iload_n 3, 1) := by decide +kernel
theorem dM_count_42 : decode cM_count 42 = .ok (.iload 4, 2) := by decide +kernel
theorem dM_count_44 : decode cM_count 44 = .ok (.invokevirtual 70, 3) := by decide +kernel
theorem dM_count_47 : decode cM_count 47 = .ok (.bipush 64, 2) := by decide +kernel
theorem dM_count_49 : decode cM_count 49 = .ok (.if_icmp .ge 9, 3) := by decide +kernel
theorem dM_count_52 : decode cM_count 52 = .ok (.iinc 4 1, 3) := by decide +kernel
theorem dM_count_55 : decode cM_count 55 = .ok (.goto (-15), 3) := by decide +kernel
theorem dM_count_58 : decode cM_count 58 = .ok (.iload 4, 2) := by decide +kernel
theorem dM_count_60 : decode cM_count 60 = .ok (.iload_n 3, 1) := by decide +kernel
theorem dM_count_61 : decode cM_count 61 = .ok (.if_icmp .ne 6, 3) := by decide +kernel
theorem dM_count_64 : decode cM_count 64 = .ok (.iinc 2 1, 3) := by decide +kernel
theorem dM_count_67 : decode cM_count 67 = .ok (.iinc 3 1, 3) := by decide +kernel
theorem dM_count_70 : decode cM_count 70 = .ok (.goto (-41), 3) := by decide +kernel
theorem dM_count_73 : decode cM_count 73 = .ok (.iload_n 2, 1) := by decide +kernel
theorem dM_count_74 : decode cM_count 74 = .ok (.ireturn, 1) := by decide +kernel
