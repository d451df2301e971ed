theorem dX2_init_0 : decode cX2_init 0 = .ok (.aload_n 0, 1) := by decide +kernel
theorem dX2_init_1 : decode cX2_init 1 = .ok (.invokespecial 1, 3) := by decide +kernel
theorem dX2_init_4 : decode cX2_init 4 = .ok (.aload_n 0, 1) := by decide +kernel
theorem dX2_init_5 : decode cX2_init 5 = .ok (.iconst 1, 1) := by decide +kernel
theorem dX2_init_6 : decode cX2_init 6 = .ok (.putfield 7, 3) := by decide +kernel
theorem dX2_init_9 : decode cX2_init 9 = .ok (.aload_n 0, 1) := by decide +kernel
theorem dX2_init_10 : decode cX2_init 10 = .ok (.bipush 56, 2) := by decide +kernel
theorem dX2_init_12 : decode cX2_init 12 = .ok (.newarray .int, 2) := by decide +kernel
theorem dX2_init_14 : decode cX2_init 14 = .ok (.putfield 13, 3) := by decide +kernel
theorem dX2_init_17 : decode cX2_init 17 = .ok (.aload_n 0, 1) := by decide +kernel
theorem dX2_init_18 : decode cX2_init 18 = .ok (.sipush 13200, 3) := by decide +kernel
theorem dX2_init_21 : decode cX2_init 21 = .ok (.newarray .long, 2) := by decide +kernel
theorem dX2_init_23 : decode cX2_init 23 = .ok (.putfield 17, 3) := by decide +kernel
theorem dX2_init_26 : decode cX2_init 26 = .ok (.aload_n 0, 1) := by decide +kernel
theorem dX2_init_27 : decode cX2_init 27 = .ok (.sipush 13200, 3) := by decide +kernel
theorem dX2_init_30 : decode cX2_init 30 = .ok (.newarray .long, 2) := by decide +kernel
theorem dX2_init_32 : decode cX2_init 32 = .ok (.putfield 21, 3) := by decide +kernel
theorem dX2_init_35 : decode cX2_init 35 = .ok (.aload_n 0, 1) := by decide +kernel
theorem dX2_init_36 : decode cX2_init 36 = .ok (.sipush 1200, 3) := by decide +kernel
theorem dX2_init_39 : decode cX2_init 39 = .ok (.newarray .int, 2) := by decide +kernel
theorem dX2_init_41 : decode cX2_init 41 = .ok (.putfield 24, 3) := by decide +kernel
theorem dX2_init_44 : decode cX2_init 44 = .ok (.aload_n 0, 1) := by decide +kernel
theorem dX2_init_45 : decode cX2_init 45 = .ok (.sipush 1200, 3) := by decide +kernel
theorem dX2_init_48 : decode cX2_init 48 = .ok (.newarray .int, 2) := by decide +kernel
theorem dX2_init_50 : decode cX2_init 50 = .ok (.putfield 27, 3) := by decide +kernel
theorem dX2_init_53 : decode cX2_init 53 = .ok (.aload_n 0, 1) := by decide +kernel
theorem dX2_init_54 : decode cX2_init 54 = .ok (.bipush 11, 2) := by decide +kernel
theorem dX2_init_56 : decode cX2_init 56 = .ok (.newarray .long, 2) := by decide +kernel
theorem dX2_init_58 : decode cX2_init 58 = .ok (.putfield 30, 3) := by decide +kernel
theorem dX2_init_61 : decode cX2_init 61 = .ok (.aload_n 0, 1) := by decide +kernel
theorem dX2_init_62 : decode cX2_init 62 = .ok (.bipush 11, 2) := by decide +kernel
theorem dX2_init_64 : decode cX2_init 64 = .ok (.newarray .long, 2) := by decide +kernel
theorem dX2_init_66 : decode cX2_init 66 = .ok (.putfield 33, 3) := by decide +kernel
theorem dX2_init_69 : decode cX2_init 69 = .ok (.aload_n 0, 1) := by decide +kernel
theorem dX2_init_70 : decode cX2_init 70 = .ok (.bipush 6, 2) := by decide +kernel
theorem dX2_init_72 : decode cX2_init 72 = .ok (.newarray .int, 2) := by decide +kernel
theorem dX2_init_74 : decode cX2_init 74 = .ok (.putfield 36, 3) := by decide +kernel
theorem dX2_init_77 : decode cX2_init 77 = .ok (.return_, 1) := by decide +kernel
theorem dX2_begin_0 : decode cX2_begin 0 = .ok (.iload_n 1, 1) := by decide +kernel
theorem dX2_begin_1 : decode cX2_begin 1 = .ok (.iconst 1, 1) := by decide +kernel
theorem dX2_begin_2 : decode cX2_begin 2 = .ok (.if_icmp .lt 8, 3) := by decide +kernel
theorem dX2_begin_5 : decode cX2_begin 5 = .ok (.iload_n 1, 1) := by decide +kernel
theorem dX2_begin_6 : decode cX2_begin 6 = .ok (.iconst 3, 1) := by decide +kernel
theorem dX2_begin_7 : decode cX2_begin 7 = .ok (.if_icmp .le 5, 3) := by decide +kernel
theorem dX2_begin_10 : decode cX2_begin 10 = .ok (.iconst 0, 1) := by decide +kernel
theorem dX2_begin_11 : decode cX2_begin 11 = .ok (.ireturn, 1) := by decide +kernel
theorem dX2_begin_12 : decode cX2_begin 12 = .ok (.aload_n 0, 1) := by decide +kernel
theorem dX2_begin_13 : decode cX2_begin 13 = .ok (.iload_n 1, 1) := by decide +kernel
theorem dX2_begin_14 : decode cX2_begin 14 = .ok (.putfield 7, 3) := by decide +kernel
theorem dX2_begin_17 : decode cX2_begin 17 = .ok (.aload_n 0, 1) := by decide +kernel
theorem dX2_begin_18 : decode cX2_begin 18 = .ok (.iconst 0, 1) := by decide +kernel
theorem dX2_begin_19 : decode cX2_begin 19 = .ok (.putfield 39, 3) := by decide +kernel
theorem dX2_begin_22 : decode cX2_begin 22 = .ok (.iconst 1, 1) := by decide +kernel
theorem dX2_begin_23 : decode cX2_begin 23 = .ok (.ireturn, 1) := by decide +kernel
theorem dX2_isSmall_0 : decode cX2_isSmall 0 = .ok (.iload_n 0, 1) := by decide +kernel
theorem dX2_isSmall_1 : decode cX2_isSmall 1 = .ok (.iload_n 1, 1) := by decide +kernel
theorem dX2_isSmall_2 : decode cX2_isSmall 2 = .ok (.ineg, 1) := by decide +kernel
theorem dX2_isSmall_3 : decode cX2_isSmall 3 = .ok (.if_icmp .lt 12, 3) := by decide +kernel
theorem dX2_isSmall_6 : decode cX2_isSmall 6 = .ok (.iload_n 0, 1) := by decide +kernel
theorem dX2_isSmall_7 : decode cX2_isSmall 7 = .ok (.iload_n 1, 1) := by decide +kernel
theorem dX2_isSmall_8 : decode cX2_isSmall 8 = .ok (.if_icmp .gt 7, 3) := by decide +kernel
theorem dX2_isSmall_11 : decode cX2_isSmall 11 = .ok (.iconst 1, 1) := by decide +kernel
theorem dX2_isSmall_12 : decode cX2_isSmall 12 = .ok (.goto 4, 3) := by decide +kernel
theorem dX2_isSmall_15 : decode cX2_isSmall 15 = .ok (.iconst 0, 1) := by decide +kernel
theorem dX2_isSmall_16 : decode cX2_isSmall 16 = .ok (.ireturn, 1) := by decide +kernel
set_option maxRecDepth 20000 in
theorem ggX2_rule_X2_isSmall : GoodIn wsX2_rule wsX2_isSmall := goodIn_r _ [6] (by decide +kernel) (by decide +kernel)
set_option maxRecDepth 20000 in
theorem gX2_rule_X2_isSmall : GoodIn wsX2_rule (va_wsS RX2 42 yX2_isSmall wsX2_isSmall) := goodIn_app (goodIn_of _ (by decide +kernel)) ggX2_rule_X2_isSmall
theorem dX2_rule_0 : decode cX2_rule 0 = .ok (.iload_n 1, 1) := by decide +kernel
theorem dX2_rule_1 : decode cX2_rule 1 = .ok (.bipush 9, 2) := by decide +kernel
theorem dX2_rule_3 : decode cX2_rule 3 = .ok (.invokestatic 42, 3) := by decide +kernel
theorem dX2_rule_6 : decode cX2_rule 6 = .ok (.ifCond .eq 65, 3) := by decide +kernel
theorem dX2_rule_9 : decode cX2_rule 9 = .ok (.iload_n 2, 1) := by decide +kernel
theorem dX2_rule_10 : decode cX2_rule 10 = .ok (.bipush 9, 2) := by decide +kernel
theorem dX2_rule_12 : decode cX2_rule 12 = .ok (.invokestatic 42, 3) := by decide +kernel
theorem dX2_rule_15 : decode cX2_rule 15 = .ok (.ifCond .eq 56, 3) := by decide +kernel
theorem dX2_rule_18 : decode cX2_rule 18 = .ok (.iload_n 3, 1) := by decide +kernel
theorem dX2_rule_19 : decode cX2_rule 19 = .ok (.bipush 9, 2) := by decide +kernel
theorem dX2_rule_21 : decode cX2_rule 21 = .ok (.invokestatic 42, 3) := by decide +kernel
theorem dX2_rule_24 : decode cX2_rule 24 = .ok (.ifCond .eq 47, 3) := by decide +kernel
theorem dX2_rule_27 : decode cX2_rule 27 = .ok (.iload 4, 2) := by decide +kernel
theorem dX2_rule_29 : decode cX2_rule 29 = .ok (.bipush 9, 2) := by decide +kernel
theorem dX2_rule_31 : decode cX2_rule 31 = .ok (.invokestatic 42, 3) := by decide +kernel
theorem dX2_rule_34 : decode cX2_rule 34 = .ok (.ifCond .eq 37, 3) := by decide +kernel
theorem dX2_rule_37 : decode cX2_rule 37 = .ok (.iload 5, 2) := by decide +kernel
theorem dX2_rule_39 : decode cX2_rule 39 = .ok (.bipush 9, 2) := by decide +kernel
theorem dX2_rule_41 : decode cX2_rule 41 = .ok (.invokestatic 42, 3) := by decide +kernel
theorem dX2_rule_44 : decode cX2_rule 44 = .ok (.ifCond .eq 27, 3) := by decide +kernel
theorem dX2_rule_47 : decode cX2_rule 47 = .ok (.iload 6, 2) := by decide +kernel
theorem dX2_rule_49 : decode cX2_rule 49 = .ok (.bipush 9, 2) := by decide +kernel
theorem dX2_rule_51 : decode cX2_rule 51 = .ok (.invokestatic 42, 3) := by decide +kernel
theorem dX2_rule_54 : decode cX2_rule 54 = .ok (.ifCond .eq 17, 3) := by decide +kernel
theorem dX2_rule_57 : decode cX2_rule 57 = .ok (.iload 7, 2) := by decide +kernel
theorem dX2_rule_59 : decode cX2_rule 59 = .ok (.bipush 99, 2) := by decide +kernel
theorem dX2_rule_61 : decode cX2_rule 61 = .ok (.invokestatic 42, 3) := by decide +kernel
theorem dX2_rule_64 : decode cX2_rule 64 = .ok (.ifCond .eq 7, 3) := by decide +kernel
theorem dX2_rule_67 : decode cX2_rule 67 = .ok (.iconst 1, 1) := by decide +kernel
theorem dX2_rule_68 : decode cX2_rule 68 = .ok (.goto 4, 3) := by decide +kernel
theorem dX2_rule_71 : decode cX2_rule 71 = .ok (.iconst 0, 1) := by decide +kernel
theorem dX2_rule_72 : decode cX2_rule 72 = .ok (.istore 8, 2) := by decide +kernel
theorem dX2_rule_74 : decode cX2_rule 74 = .ok (.aload_n 0, 1) := by decide +kernel
theorem dX2_rule_75 : decode cX2_rule 75 = .ok (.getfield 39, 3) := by decide +kernel
theorem dX2_rule_78 : decode cX2_rule 78 = .ok (.bipush 8, 2) := by decide +kernel
theorem dX2_rule_80 : decode cX2_rule 80 = .ok (.if_icmp .eq 8, 3) := by decide +kernel
theorem dX2_rule_83 : decode cX2_rule 83 = .ok (.iload 8, 2) := by decide +kernel
theorem dX2_rule_85 : decode cX2_rule 85 = .ok (.ifCond .ne 5, 3) := by decide +kernel
theorem dX2_rule_88 : decode cX2_rule 88 = .ok (.iconst (-1), 1) := by decide +kernel
theorem dX2_rule_89 : decode cX2_rule 89 = .ok (.ireturn, 1) := by decide +kernel
theorem dX2_rule_90 : decode cX2_rule 90 = .ok (.bipush 7, 2) := by decide +kernel
theorem dX2_rule_92 : decode cX2_rule 92 = .ok (.aload_n 0, 1) := by decide +kernel
theorem dX2_rule_93 : decode cX2_rule 93 = .ok (.getfield 39, 3) := by decide +kernel
theorem dX2_rule_96 : decode cX2_rule 96 = .ok (.imul, 1) := by decide +kernel
theorem dX2_rule_97 : decode cX2_rule 97 = .ok (.istore 9, 2) := by decide +kernel
theorem dX2_rule_99 : decode cX2_rule 99 = .ok (.aload_n 0, 1) := by decide +kernel
theorem dX2_rule_100 : decode cX2_rule 100 = .ok (.getfield 13, 3) := by decide +kernel
theorem dX2_rule_103 : decode cX2_rule 103 = .ok (.iload 9, 2) := by decide +kernel
theorem dX2_rule_105 : decode cX2_rule 105 = .ok (.iload_n 1, 1) := by decide +kernel
theorem dX2_rule_106 : decode cX2_rule 106 = .ok (.iastore, 1) := by decide +kernel
theorem dX2_rule_107 : decode cX2_rule 107 = .ok (.aload_n 0, 1) := by decide +kernel
theorem dX2_rule_108 : decode cX2_rule 108 = .ok (.getfield 13, 3) := by decide +kernel
theorem dX2_rule_111 : decode cX2_rule 111 = .ok (.iload 9, 2) := by decide +kernel
theorem dX2_rule_113 : decode cX2_rule 113 = .ok (.iconst 1, 1) := by decide +kernel
theorem dX2_rule_114 : decode cX2_rule 114 = .ok (.iadd, 1) := by decide +kernel
theorem dX2_rule_115 : decode cX2_rule 115 = .ok (.iload_n 2, 1) := by decide +kernel
theorem dX2_rule_116 : decode cX2_rule 116 = .ok (.iastore, 1) := by decide +kernel
theorem dX2_rule_117 : decode cX2_rule 117 = .ok (.aload_n 0, 1) := by decide +kernel
theorem dX2_rule_118 : decode cX2_rule 118 = .ok (.getfield 13, 3) := by decide +kernel
theorem dX2_rule_121 : decode cX2_rule 121 = .ok (.iload 9, 2) := by decide +kernel
theorem dX2_rule_123 : decode cX2_rule 123 = .ok (.iconst 2, 1) := by decide +kernel
theorem dX2_rule_124 : decode cX2_rule 124 = .ok (.iadd, 1) := by decide +kernel
theorem dX2_rule_125 : decode cX2_rule 125 = .ok (.iload_n 3, 1) := by decide +kernel
theorem dX2_rule_126 : decode cX2_rule 126 = .ok (.iastore, 1) := by decide +kernel
theorem dX2_rule_127 : decode cX2_rule 127 = .ok (.aload_n 0, 1) := by decide +kernel
theorem dX2_rule_128 : decode cX2_rule 128 = .ok (.getfield 13, 3) := by decide +kernel
theorem dX2_rule_131 : decode cX2_rule 131 = .ok (.iload 9, 2) := by decide +kernel
theorem dX2_rule_133 : decode cX2_rule 133 = .ok (.iconst 3, 1) := by decide +kernel
theorem dX2_rule_134 : decode cX2_rule 134 = .ok (.iadd, 1) := by decide +kernel
theorem dX2_rule_135 : decode cX2_rule 135 = .ok (.iload 4, 2) := by decide +kernel
theorem dX2_rule_137 : decode cX2_rule 137 = .ok (.iastore, 1) := by decide +kernel
theorem dX2_rule_138 : decode cX2_rule 138 = .ok (.aload_n 0, 1) := by decide +kernel
theorem dX2_rule_139 : decode cX2_rule 139 = .ok (.getfield 13, 3) := by decide +kernel
theorem dX2_rule_142 : decode cX2_rule 142 = .ok (.iload 9, 2) := by decide +kernel
theorem dX2_rule_144 : decode cX2_rule 144 = .ok (.iconst 4, 1) := by decide +kernel
theorem dX2_rule_145 : decode cX2_rule 145 = .ok (.iadd, 1) := by decide +kernel
theorem dX2_rule_146 : decode cX2_rule 146 = .ok (.iload 5, 2) := by decide +kernel
theorem dX2_rule_148 : decode cX2_rule 148 = .ok (.iastore, 1) := by decide +kernel
theorem dX2_rule_149 : decode cX2_rule 149 = .ok (.aload_n 0, 1) := by decide +kernel
theorem dX2_rule_150 : decode cX2_rule 150 = .ok (.getfield 13, 3) := by decide +kernel
theorem dX2_rule_153 : decode cX2_rule 153 = .ok (.iload 9, 2) := by decide +kernel
theorem dX2_rule_155 : decode cX2_rule 155 = .ok (.iconst 5, 1) := by decide +kernel
theorem dX2_rule_156 : decode cX2_rule 156 = .ok (.iadd, 1) := by decide +kernel
theorem dX2_rule_157 : decode cX2_rule 157 = .ok (.iload 6, 2) := by decide +kernel
theorem dX2_rule_159 : decode cX2_rule 159 = .ok (.iastore, 1) := by decide +kernel
theorem dX2_rule_160 : decode cX2_rule 160 = .ok (.aload_n 0, 1) := by decide +kernel
theorem dX2_rule_161 : decode cX2_rule 161 = .ok (.getfield 13, 3) := by decide +kernel
theorem dX2_rule_164 : decode cX2_rule 164 = .ok (.iload 9, 2) := by decide +kernel
theorem dX2_rule_166 : decode cX2_rule 166 = .ok (.bipush 6, 2) := by decide +kernel
theorem dX2_rule_168 : decode cX2_rule 168 = .ok (.iadd, 1) := by decide +kernel
theorem dX2_rule_169 : decode cX2_rule 169 = .ok (.iload 7, 2) := by decide +kernel
theorem dX2_rule_171 : decode cX2_rule 171 = .ok (.iastore, 1) := by decide +kernel
theorem dX2_rule_172 : decode cX2_rule 172 = .ok (.aload_n 0, 1) := by decide +kernel
theorem dX2_rule_173 : decode cX2_rule 173 = .ok (.dup, 1) := by decide +kernel
theorem dX2_rule_174 : decode cX2_rule 174 = .ok (.getfield 39, 3) := by decide +kernel
theorem dX2_rule_177 : decode cX2_rule 177 = .ok (.iconst 1, 1) := by decide +kernel
theorem dX2_rule_178 : decode cX2_rule 178 = .ok (.iadd, 1) := by decide +kernel
theorem dX2_rule_179 : decode cX2_rule 179 = .ok (.putfield 39, 3) := by decide +kernel
theorem dX2_rule_182 : decode cX2_rule 182 = .ok (.aload_n 0, 1) := by decide +kernel
theorem dX2_rule_183 : decode cX2_rule 183 = .ok (.getfield 39, 3) := by decide +kernel
theorem dX2_rule_186 : decode cX2_rule 186 = .ok (.iconst 1, 1) := by decide +kernel
theorem dX2_rule_187 : decode cX2_rule 187 = .ok (.isub, 1) := by decide +kernel
theorem dX2_rule_188 : decode cX2_rule 188 = .ok (.ireturn, 1) := by decide +kernel
theorem dX2_drop_0 : decode cX2_drop 0 = .ok (.iload_n 1, 1) := by decide +kernel
theorem dX2_drop_1 : decode cX2_drop 1 = .ok (.ifCond .lt 11, 3) := by decide +kernel
theorem dX2_drop_4 : decode cX2_drop 4 = .ok (.iload_n 1, 1) := by decide +kernel
theorem dX2_drop_5 : decode cX2_drop 5 = .ok (.aload_n 0, 1) := by decide +kernel
theorem dX2_drop_6 : decode cX2_drop 6 = .ok (.getfield 39, 3) := by decide +kernel
theorem dX2_drop_9 : decode cX2_drop 9 = .ok (.if_icmp .lt 5, 3) := by decide +kernel
theorem dX2_drop_12 : decode cX2_drop 12 = .ok (.iconst 0, 1) := by decide +kernel
theorem dX2_drop_13 : decode cX2_drop 13 = .ok (.ireturn, 1) := by decide +kernel
theorem dX2_drop_14 : decode cX2_drop 14 = .ok (.aload_n 0, 1) := by decide +kernel
theorem dX2_drop_15 : decode cX2_drop 15 = .ok (.dup, 1) := by decide +kernel
theorem dX2_drop_16 : decode cX2_drop 16 = .ok (.getfield 39, 3) := by decide +kernel
theorem dX2_drop_19 : decode cX2_drop 19 = .ok (.iconst 1, 1) := by decide +kernel
theorem dX2_drop_20 : decode cX2_drop 20 = .ok (.isub, 1) := by decide +kernel
theorem dX2_drop_21 : decode cX2_drop 21 = .ok (.putfield 39, 3) := by decide +kernel
theorem dX2_drop_24 : decode cX2_drop 24 = .ok (.bipush 7, 2) := by decide +kernel
theorem dX2_drop_26 : decode cX2_drop 26 = .ok (.iload_n 1, 1) := by decide +kernel
theorem dX2_drop_27 : decode cX2_drop 27 = .ok (.imul, 1) := by decide +kernel
theorem dX2_drop_28 : decode cX2_drop 28 = .ok (.istore_n 2, 1) := by decide +kernel
theorem dX2_drop_29 : decode cX2_drop 29 = .ok (.iload_n 2, 1) := by decide +kernel
theorem dX2_drop_30 : decode cX2_drop 30 = .ok (.bipush 7, 2) := by decide +kernel
theorem dX2_drop_32 : decode cX2_drop 32 = .ok (.aload_n 0, 1) := by decide +kernel
theorem dX2_drop_33 : decode cX2_drop 33 = .ok (.getfield 39, 3) := by decide +kernel
theorem dX2_drop_36 : decode cX2_drop 36 = .ok (.imul, 1) := by decide +kernel
theorem dX2_drop_37 : decode cX2_drop 37 = .ok (.if_icmp .ge 24, 3) := by decide +kernel
theorem dX2_drop_40 : decode cX2_drop 40 = .ok (.aload_n 0, 1) := by decide +kernel
theorem dX2_drop_41 : decode cX2_drop 41 = .ok (.getfield 13, 3) := by decide +kernel
theorem dX2_drop_44 : decode cX2_drop 44 = .ok (.iload_n 2, 1) := by decide +kernel
theorem dX2_drop_45 : decode cX2_drop 45 = .ok (.aload_n 0, 1) := by decide +kernel
theorem dX2_drop_46 : decode cX2_drop 46 = .ok (.getfield 13, 3) := by decide +kernel
theorem dX2_drop_49 : decode cX2_drop 49 = .ok (.iload_n 2, 1) := by decide +kernel
theorem dX2_drop_50 : decode cX2_drop 50 = .ok (.bipush 7, 2) := by decide +kernel
theorem dX2_drop_52 : decode cX2_drop 52 = .ok (.iadd, 1) := by decide +kernel
theorem dX2_drop_53 : decode cX2_drop 53 = .ok (.iaload, 1) := by decide +kernel
theorem dX2_drop_54 : decode cX2_drop 54 = .ok (.iastore, 1) := by decide +kernel
theorem dX2_drop_55 : decode cX2_drop 55 = .ok (.iinc 2 1, 3) := by decide +kernel
theorem dX2_drop_58 : decode cX2_drop 58 = .ok (.goto (-29), 3) := by decide +kernel
theorem dX2_drop_61 : decode cX2_drop 61 = .ok (.iconst 1, 1) := by decide +kernel
theorem dX2_drop_62 : decode cX2_drop 62 = .ok (.ireturn, 1) := by decide +kernel
theorem dX2_rules_0 : decode cX2_rules 0 = .ok (.aload_n 0, 1) := by decide +kernel
theorem dX2_rules_1 : decode cX2_rules 1 = .ok (.getfield 39, 3) := by decide +kernel
theorem dX2_rules_4 : decode cX2_rules 4 = .ok (.ireturn, 1) := by decide +kernel
theorem dX2_number_0 : decode cX2_number 0 = .ok (.iload_n 1, 1) := by decide +kernel
theorem dX2_number_1 : decode cX2_number 1 = .ok (.ifCond .lt 35, 3) := by decide +kernel
theorem dX2_number_4 : decode cX2_number 4 = .ok (.iload_n 1, 1) := by decide +kernel
theorem dX2_number_5 : decode cX2_number 5 = .ok (.aload_n 0, 1) := by decide +kernel
theorem dX2_number_6 : decode cX2_number 6 = .ok (.getfield 39, 3) := by decide +kernel
theorem dX2_number_9 : decode cX2_number 9 = .ok (.if_icmp .ge 27, 3) := by decide +kernel
theorem dX2_number_12 : decode cX2_number 12 = .ok (.iload_n 2, 1) := by decide +kernel
theorem dX2_number_13 : decode cX2_number 13 = .ok (.ifCond .lt 23, 3) := by decide +kernel
theorem dX2_number_16 : decode cX2_number 16 = .ok (.iload_n 2, 1) := by decide +kernel
theorem dX2_number_17 : decode cX2_number 17 = .ok (.bipush 7, 2) := by decide +kernel
theorem dX2_number_19 : decode cX2_number 19 = .ok (.if_icmp .ge 17, 3) := by decide +kernel
theorem dX2_number_22 : decode cX2_number 22 = .ok (.aload_n 0, 1) := by decide +kernel
theorem dX2_number_23 : decode cX2_number 23 = .ok (.getfield 13, 3) := by decide +kernel
theorem dX2_number_26 : decode cX2_number 26 = .ok (.bipush 7, 2) := by decide +kernel
theorem dX2_number_28 : decode cX2_number 28 = .ok (.iload_n 1, 1) := by decide +kernel
theorem dX2_number_29 : decode cX2_number 29 = .ok (.imul, 1) := by decide +kernel
theorem dX2_number_30 : decode cX2_number 30 = .ok (.iload_n 2, 1) := by decide +kernel
theorem dX2_number_31 : decode cX2_number 31 = .ok (.iadd, 1) := by decide +kernel
theorem dX2_number_32 : decode cX2_number 32 = .ok (.iaload, 1) := by decide +kernel
theorem dX2_number_33 : decode cX2_number 33 = .ok (.goto 4, 3) := by decide +kernel
theorem dX2_number_36 : decode cX2_number 36 = .ok (.iconst 0, 1) := by decide +kernel
theorem dX2_number_37 : decode cX2_number 37 = .ok (.ireturn, 1) := by decide +kernel
theorem dX2_keeps_0 : decode cX2_keeps 0 = .ok (.iconst 1, 1) := by decide +kernel
theorem dX2_keeps_1 : decode cX2_keeps 1 = .ok (.istore 7, 2) := by decide +kernel
theorem dX2_keeps_3 : decode cX2_keeps 3 = .ok (.iconst 0, 1) := by decide +kernel
theorem dX2_keeps_4 : decode cX2_keeps 4 = .ok (.istore 8, 2) := by decide +kernel
theorem dX2_keeps_6 : decode cX2_keeps 6 = .ok (.iload 8, 2) := by decide +kernel
theorem dX2_keeps_8 : decode cX2_keeps 8 = .ok (.aload_n 0, 1) := by decide +kernel
theorem dX2_keeps_9 : decode cX2_keeps 9 = .ok (.getfield 39, 3) := by decide +kernel
theorem dX2_keeps_12 : decode cX2_keeps 12 = .ok (.if_icmp .ge 157, 3) := by decide +kernel
theorem dX2_keeps_15 : decode cX2_keeps 15 = .ok (.lconst 0, 1) := by decide +kernel
theorem dX2_keeps_16 : decode cX2_keeps 16 = .ok (.lstore 9, 2) := by decide +kernel
theorem dX2_keeps_18 : decode cX2_keeps 18 = .ok (.iconst 0, 1) := by decide +kernel
theorem dX2_keeps_19 : decode cX2_keeps 19 = .ok (.istore 11, 2) := by decide +kernel
theorem dX2_keeps_21 : decode cX2_keeps 21 = .ok (.iload 11, 2) := by decide +kernel
theorem dX2_keeps_23 : decode cX2_keeps 23 = .ok (.aload_n 0, 1) := by decide +kernel
theorem dX2_keeps_24 : decode cX2_keeps 24 = .ok (.getfield 7, 3) := by decide +kernel
theorem dX2_keeps_27 : decode cX2_keeps 27 = .ok (.if_icmp .ge 104, 3) := by decide +kernel
theorem dX2_keeps_30 : decode cX2_keeps 30 = .ok (.iload 11, 2) := by decide +kernel
theorem dX2_keeps_32 : decode cX2_keeps 32 = .ok (.ifCond .ne 8, 3) := by decide +kernel
theorem dX2_keeps_35 : decode cX2_keeps 35 = .ok (.iload_n 1, 1) := by decide +kernel
theorem dX2_keeps_36 : decode cX2_keeps 36 = .ok (.i2l, 1) := by decide +kernel
theorem dX2_keeps_37 : decode cX2_keeps 37 = .ok (.goto 16, 3) := by decide +kernel
theorem dX2_keeps_40 : decode cX2_keeps 40 = .ok (.iload 11, 2) := by decide +kernel
theorem dX2_keeps_42 : decode cX2_keeps 42 = .ok (.iconst 1, 1) := by decide +kernel
theorem dX2_keeps_43 : decode cX2_keeps 43 = .ok (.if_icmp .ne 8, 3) := by decide +kernel
theorem dX2_keeps_46 : decode cX2_keeps 46 = .ok (.iload_n 2, 1) := by decide +kernel
theorem dX2_keeps_47 : decode cX2_keeps 47 = .ok (.i2l, 1) := by decide +kernel
theorem dX2_keeps_48 : decode cX2_keeps 48 = .ok (.goto 5, 3) := by decide +kernel
theorem dX2_keeps_51 : decode cX2_keeps 51 = .ok (.iload_n 3, 1) := by decide +kernel
theorem dX2_keeps_52 : decode cX2_keeps 52 = .ok (.i2l, 1) := by decide +kernel
theorem dX2_keeps_53 : decode cX2_keeps 53 = .ok (.lstore 12, 2) := by decide +kernel
theorem dX2_keeps_55 : decode cX2_keeps 55 = .ok (.iload 11, 2) := by decide +kernel
theorem dX2_keeps_57 : decode cX2_keeps 57 = .ok (.ifCond .ne 9, 3) := by decide +kernel
theorem dX2_keeps_60 : decode cX2_keeps 60 = .ok (.iload 4, 2) := by decide +kernel
theorem dX2_keeps_62 : decode cX2_keeps 62 = .ok (.i2l, 1) := by decide +kernel
theorem dX2_keeps_63 : decode cX2_keeps 63 = .ok (.goto 18, 3) := by decide +kernel
theorem dX2_keeps_66 : decode cX2_keeps 66 = .ok (.iload 11, 2) := by decide +kernel
theorem dX2_keeps_68 : decode cX2_keeps 68 = .ok (.iconst 1, 1) := by decide +kernel
theorem dX2_keeps_69 : decode cX2_keeps 69 = .ok (.if_icmp .ne 9, 3) := by decide +kernel
theorem dX2_keeps_72 : decode cX2_keeps 72 = .ok (.iload 5, 2) := by decide +kernel
theorem dX2_keeps_74 : decode cX2_keeps 74 = .ok (.i2l, 1) := by decide +kernel
theorem dX2_keeps_75 : decode cX2_keeps 75 = .ok (.goto 6, 3) := by decide +kernel
theorem dX2_keeps_78 : decode cX2_keeps 78 = .ok (.iload 6, 2) := by decide +kernel
theorem dX2_keeps_80 : decode cX2_keeps 80 = .ok (.i2l, 1) := by decide +kernel
theorem dX2_keeps_81 : decode cX2_keeps 81 = .ok (.lstore 14, 2) := by decide +kernel
theorem dX2_keeps_83 : decode cX2_keeps 83 = .ok (.lload 9, 2) := by decide +kernel
theorem dX2_keeps_85 : decode cX2_keeps 85 = .ok (.aload_n 0, 1) := by decide +kernel
theorem dX2_keeps_86 : decode cX2_keeps 86 = .ok (.getfield 13, 3) := by decide +kernel
theorem dX2_keeps_89 : decode cX2_keeps 89 = .ok (.bipush 7, 2) := by decide +kernel
theorem dX2_keeps_91 : decode cX2_keeps 91 = .ok (.iload 8, 2) := by decide +kernel
theorem dX2_keeps_93 : decode cX2_keeps 93 = .ok (.imul, 1) := by decide +kernel
theorem dX2_keeps_94 : decode cX2_keeps 94 = .ok (.iload 11, 2) := by decide +kernel
theorem dX2_keeps_96 : decode cX2_keeps 96 = .ok (.iadd, 1) := by decide +kernel
theorem dX2_keeps_97 : decode cX2_keeps 97 = .ok (.iaload, 1) := by decide +kernel
theorem dX2_keeps_98 : decode cX2_keeps 98 = .ok (.i2l, 1) := by decide +kernel
theorem dX2_keeps_99 : decode cX2_keeps 99 = .ok (.lload 12, 2) := by decide +kernel
theorem dX2_keeps_101 : decode cX2_keeps 101 = .ok (.lmul, 1) := by decide +kernel
theorem dX2_keeps_102 : decode cX2_keeps 102 = .ok (.aload_n 0, 1) := by decide +kernel
theorem dX2_keeps_103 : decode cX2_keeps 103 = .ok (.getfield 13, 3) := by decide +kernel
theorem dX2_keeps_106 : decode cX2_keeps 106 = .ok (.bipush 7, 2) := by decide +kernel
theorem dX2_keeps_108 : decode cX2_keeps 108 = .ok (.iload 8, 2) := by decide +kernel
theorem dX2_keeps_110 : decode cX2_keeps 110 = .ok (.imul, 1) := by decide +kernel
theorem dX2_keeps_111 : decode cX2_keeps 111 = .ok (.iconst 3, 1) := by decide +kernel
theorem dX2_keeps_112 : decode cX2_keeps 112 = .ok (.iadd, 1) := by decide +kernel
theorem dX2_keeps_113 : decode cX2_keeps 113 = .ok (.iload 11, 2) := by decide +kernel
theorem dX2_keeps_115 : decode cX2_keeps 115 = .ok (.iadd, 1) := by decide +kernel
theorem dX2_keeps_116 : decode cX2_keeps 116 = .ok (.iaload, 1) := by decide +kernel
theorem dX2_keeps_117 : decode cX2_keeps 117 = .ok (.i2l, 1) := by decide +kernel
theorem dX2_keeps_118 : decode cX2_keeps 118 = .ok (.lload 14, 2) := by decide +kernel
theorem dX2_keeps_120 : decode cX2_keeps 120 = .ok (.lmul, 1) := by decide +kernel
theorem dX2_keeps_121 : decode cX2_keeps 121 = .ok (.ladd, 1) := by decide +kernel
theorem dX2_keeps_122 : decode cX2_keeps 122 = .ok (.ladd, 1) := by decide +kernel
theorem dX2_keeps_123 : decode cX2_keeps 123 = .ok (.lstore 9, 2) := by decide +kernel
theorem dX2_keeps_125 : decode cX2_keeps 125 = .ok (.iinc 11 1, 3) := by decide +kernel
theorem dX2_keeps_128 : decode cX2_keeps 128 = .ok (.goto (-107), 3) := by decide +kernel
theorem dX2_keeps_131 : decode cX2_keeps 131 = .ok (.iload 7, 2) := by decide +kernel
theorem dX2_keeps_133 : decode cX2_keeps 133 = .ok (.ifCond .eq 27, 3) := by decide +kernel
theorem dX2_keeps_136 : decode cX2_keeps 136 = .ok (.lload 9, 2) := by decide +kernel
theorem dX2_keeps_138 : decode cX2_keeps 138 = .ok (.aload_n 0, 1) := by decide +kernel
theorem dX2_keeps_139 : decode cX2_keeps 139 = .ok (.getfield 13, 3) := by decide +kernel
theorem dX2_keeps_142 : decode cX2_keeps 142 = .ok (.bipush 7, 2) := by decide +kernel
theorem dX2_keeps_144 : decode cX2_keeps 144 = .ok (.iload 8, 2) := by decide +kernel
theorem dX2_keeps_146 : decode cX2_keeps 146 = .ok (.imul, 1) := by decide +kernel
theorem dX2_keeps_147 : decode cX2_keeps 147 = .ok (.bipush 6, 2) := by decide +kernel
theorem dX2_keeps_149 : decode cX2_keeps 149 = .ok (.iadd, 1) := by decide +kernel
theorem dX2_keeps_150 : decode cX2_keeps 150 = .ok (.iaload, 1) := by decide +kernel
theorem dX2_keeps_151 : decode cX2_keeps 151 = .ok (.i2l, 1) := by decide +kernel
theorem dX2_keeps_152 : decode cX2_keeps 152 = .ok (.lcmp, 1) := by decide +kernel
theorem dX2_keeps_153 : decode cX2_keeps 153 = .ok (.ifCond .gt 7, 3) := by decide +kernel
theorem dX2_keeps_156 : decode cX2_keeps 156 = .ok (.iconst 1, 1) := by decide +kernel
theorem dX2_keeps_157 : decode cX2_keeps 157 = .ok (.goto 4, 3) := by decide +kernel
theorem dX2_keeps_160 : decode cX2_keeps 160 = .ok (.iconst 0, 1) := by decide +kernel
theorem dX2_keeps_161 : decode cX2_keeps 161 = .ok (.istore 7, 2) := by decide +kernel
theorem dX2_keeps_163 : decode cX2_keeps 163 = .ok (.iinc 8 1, 3) := by decide +kernel
theorem dX2_keeps_166 : decode cX2_keeps 166 = .ok (.goto (-160), 3) := by decide +kernel
theorem dX2_keeps_169 : decode cX2_keeps 169 = .ok (.iload 7, 2) := by decide +kernel
theorem dX2_keeps_171 : decode cX2_keeps 171 = .ok (.ireturn, 1) := by decide +kernel
theorem dX2_empty_0 : decode cX2_empty 0 = .ok (.iconst 0, 1) := by decide +kernel
theorem dX2_empty_1 : decode cX2_empty 1 = .ok (.istore_n 1, 1) := by decide +kernel
theorem dX2_empty_2 : decode cX2_empty 2 = .ok (.iload_n 1, 1) := by decide +kernel
theorem dX2_empty_3 : decode cX2_empty 3 = .ok (.bipush 11, 2) := by decide +kernel
theorem dX2_empty_5 : decode cX2_empty 5 = .ok (.if_icmp .ge 24, 3) := by decide +kernel
theorem dX2_empty_8 : decode cX2_empty 8 = .ok (.aload_n 0, 1) := by decide +kernel
theorem dX2_empty_9 : decode cX2_empty 9 = .ok (.getfield 17, 3) := by decide +kernel
theorem dX2_empty_12 : decode cX2_empty 12 = .ok (.bipush 11, 2) := by decide +kernel
theorem dX2_empty_14 : decode cX2_empty 14 = .ok (.aload_n 0, 1) := by decide +kernel
theorem dX2_empty_15 : decode cX2_empty 15 = .ok (.getfield 46, 3) := by decide +kernel
theorem dX2_empty_18 : decode cX2_empty 18 = .ok (.imul, 1) := by decide +kernel
theorem dX2_empty_19 : decode cX2_empty 19 = .ok (.iload_n 1, 1) := by decide +kernel
theorem dX2_empty_20 : decode cX2_empty 20 = .ok (.iadd, 1) := by decide +kernel
theorem dX2_empty_21 : decode cX2_empty 21 = .ok (.lconst 0, 1) := by decide +kernel
theorem dX2_empty_22 : decode cX2_empty 22 = .ok (.lastore, 1) := by decide +kernel
theorem dX2_empty_23 : decode cX2_empty 23 = .ok (.iinc 1 1, 3) := by decide +kernel
theorem dX2_empty_26 : decode cX2_empty 26 = .ok (.goto (-24), 3) := by decide +kernel
theorem dX2_empty_29 : decode cX2_empty 29 = .ok (.aload_n 0, 1) := by decide +kernel
theorem dX2_empty_30 : decode cX2_empty 30 = .ok (.getfield 24, 3) := by decide +kernel
theorem dX2_empty_33 : decode cX2_empty 33 = .ok (.aload_n 0, 1) := by decide +kernel
theorem dX2_empty_34 : decode cX2_empty 34 = .ok (.getfield 46, 3) := by decide +kernel
theorem dX2_empty_37 : decode cX2_empty 37 = .ok (.iconst 1, 1) := by decide +kernel
theorem dX2_empty_38 : decode cX2_empty 38 = .ok (.aload_n 0, 1) := by decide +kernel
theorem dX2_empty_39 : decode cX2_empty 39 = .ok (.getfield 46, 3) := by decide +kernel
theorem dX2_empty_42 : decode cX2_empty 42 = .ok (.ishl, 1) := by decide +kernel
theorem dX2_empty_43 : decode cX2_empty 43 = .ok (.iastore, 1) := by decide +kernel
theorem dX2_empty_44 : decode cX2_empty 44 = .ok (.aload_n 0, 1) := by decide +kernel
theorem dX2_empty_45 : decode cX2_empty 45 = .ok (.dup, 1) := by decide +kernel
theorem dX2_empty_46 : decode cX2_empty 46 = .ok (.getfield 46, 3) := by decide +kernel
theorem dX2_empty_49 : decode cX2_empty 49 = .ok (.iconst 1, 1) := by decide +kernel
theorem dX2_empty_50 : decode cX2_empty 50 = .ok (.iadd, 1) := by decide +kernel
theorem dX2_empty_51 : decode cX2_empty 51 = .ok (.putfield 46, 3) := by decide +kernel
theorem dX2_empty_54 : decode cX2_empty 54 = .ok (.bipush 11, 2) := by decide +kernel
theorem dX2_empty_56 : decode cX2_empty 56 = .ok (.aload_n 0, 1) := by decide +kernel
theorem dX2_empty_57 : decode cX2_empty 57 = .ok (.getfield 46, 3) := by decide +kernel
theorem dX2_empty_60 : decode cX2_empty 60 = .ok (.iconst 1, 1) := by decide +kernel
theorem dX2_empty_61 : decode cX2_empty 61 = .ok (.isub, 1) := by decide +kernel
theorem dX2_empty_62 : decode cX2_empty 62 = .ok (.imul, 1) := by decide +kernel
theorem dX2_empty_63 : decode cX2_empty 63 = .ok (.ireturn, 1) := by decide +kernel
set_option maxRecDepth 20000 in
theorem ggX2_beginRows_X2_empty : GoodIn wsX2_beginRows wsX2_empty := goodIn_r _ [10, 4, 1, 11, 12, 13, 14, 15, 16, 17, 18, 19, 20, 21, 22, 23, 24, 25, 26, 27, 28, 29, 30] (by decide +kernel) (by decide +kernel)
set_option maxRecDepth 20000 in
theorem gX2_beginRows_X2_empty : GoodIn wsX2_beginRows (wsV RX2 49 RX2 yX2_empty wsX2_empty) := goodIn_app (goodIn_of _ (by decide +kernel)) ggX2_beginRows_X2_empty
theorem dX2_beginRows_0 : decode cX2_beginRows 0 = .ok (.aload_n 0, 1) := by decide +kernel
theorem dX2_beginRows_1 : decode cX2_beginRows 1 = .ok (.iconst 0, 1) := by decide +kernel
theorem dX2_beginRows_2 : decode cX2_beginRows 2 = .ok (.putfield 46, 3) := by decide +kernel
theorem dX2_beginRows_5 : decode cX2_beginRows 5 = .ok (.iconst 0, 1) := by decide +kernel
theorem dX2_beginRows_6 : decode cX2_beginRows 6 = .ok (.istore_n 1, 1) := by decide +kernel
theorem dX2_beginRows_7 : decode cX2_beginRows 7 = .ok (.iload_n 1, 1) := by decide +kernel
theorem dX2_beginRows_8 : decode cX2_beginRows 8 = .ok (.aload_n 0, 1) := by decide +kernel
theorem dX2_beginRows_9 : decode cX2_beginRows 9 = .ok (.getfield 39, 3) := by decide +kernel
theorem dX2_beginRows_12 : decode cX2_beginRows 12 = .ok (.if_icmp .ge 96, 3) := by decide +kernel
theorem dX2_beginRows_15 : decode cX2_beginRows 15 = .ok (.aload_n 0, 1) := by decide +kernel
theorem dX2_beginRows_16 : decode cX2_beginRows 16 = .ok (.invokevirtual 49, 3) := by decide +kernel
theorem dX2_beginRows_19 : decode cX2_beginRows 19 = .ok (.istore_n 2, 1) := by decide +kernel
theorem dX2_beginRows_20 : decode cX2_beginRows 20 = .ok (.iconst 0, 1) := by decide +kernel
theorem dX2_beginRows_21 : decode cX2_beginRows 21 = .ok (.istore_n 3, 1) := by decide +kernel
theorem dX2_beginRows_22 : decode cX2_beginRows 22 = .ok (.iload_n 3, 1) := by decide +kernel
theorem dX2_beginRows_23 : decode cX2_beginRows 23 = .ok (.aload_n 0, 1) := by decide +kernel
theorem dX2_beginRows_24 : decode cX2_beginRows 24 = .ok (.getfield 7, 3) := by decide +kernel
theorem dX2_beginRows_27 : decode cX2_beginRows 27 = .ok (.if_icmp .ge 53, 3) := by decide +kernel
theorem dX2_beginRows_30 : decode cX2_beginRows 30 = .ok (.aload_n 0, 1) := by decide +kernel
theorem dX2_beginRows_31 : decode cX2_beginRows 31 = .ok (.getfield 17, 3) := by decide +kernel
theorem dX2_beginRows_34 : decode cX2_beginRows 34 = .ok (.iload_n 2, 1) := by decide +kernel
theorem dX2_beginRows_35 : decode cX2_beginRows 35 = .ok (.iload_n 3, 1) := by decide +kernel
theorem dX2_beginRows_36 : decode cX2_beginRows 36 = .ok (.iadd, 1) := by decide +kernel
theorem dX2_beginRows_37 : decode cX2_beginRows 37 = .ok (.aload_n 0, 1) := by decide +kernel
theorem dX2_beginRows_38 : decode cX2_beginRows 38 = .ok (.getfield 13, 3) := by decide +kernel
theorem dX2_beginRows_41 : decode cX2_beginRows 41 = .ok (.bipush 7, 2) := by decide +kernel
theorem dX2_beginRows_43 : decode cX2_beginRows 43 = .ok (.iload_n 1, 1) := by decide +kernel
theorem dX2_beginRows_44 : decode cX2_beginRows 44 = .ok (.imul, 1) := by decide +kernel
theorem dX2_beginRows_45 : decode cX2_beginRows 45 = .ok (.iload_n 3, 1) := by decide +kernel
theorem dX2_beginRows_46 : decode cX2_beginRows 46 = .ok (.iadd, 1) := by decide +kernel
theorem dX2_beginRows_47 : decode cX2_beginRows 47 = .ok (.iaload, 1) := by decide +kernel
theorem dX2_beginRows_48 : decode cX2_beginRows 48 = .ok (.i2l, 1) := by decide +kernel
theorem dX2_beginRows_49 : decode cX2_beginRows 49 = .ok (.lastore, 1) := by decide +kernel
theorem dX2_beginRows_50 : decode cX2_beginRows 50 = .ok (.aload_n 0, 1) := by decide +kernel
theorem dX2_beginRows_51 : decode cX2_beginRows 51 = .ok (.getfield 17, 3) := by decide +kernel
theorem dX2_beginRows_54 : decode cX2_beginRows 54 = .ok (.iload_n 2, 1) := by decide +kernel
theorem dX2_beginRows_55 : decode cX2_beginRows 55 = .ok (.iconst 3, 1) := by decide +kernel
theorem dX2_beginRows_56 : decode cX2_beginRows 56 = .ok (.iadd, 1) := by decide +kernel
theorem dX2_beginRows_57 : decode cX2_beginRows 57 = .ok (.iload_n 3, 1) := by decide +kernel
theorem dX2_beginRows_58 : decode cX2_beginRows 58 = .ok (.iadd, 1) := by decide +kernel
theorem dX2_beginRows_59 : decode cX2_beginRows 59 = .ok (.aload_n 0, 1) := by decide +kernel
theorem dX2_beginRows_60 : decode cX2_beginRows 60 = .ok (.getfield 13, 3) := by decide +kernel
theorem dX2_beginRows_63 : decode cX2_beginRows 63 = .ok (.bipush 7, 2) := by decide +kernel
theorem dX2_beginRows_65 : decode cX2_beginRows 65 = .ok (.iload_n 1, 1) := by decide +kernel
theorem dX2_beginRows_66 : decode cX2_beginRows 66 = .ok (.imul, 1) := by decide +kernel
theorem dX2_beginRows_67 : decode cX2_beginRows 67 = .ok (.iconst 3, 1) := by decide +kernel
theorem dX2_beginRows_68 : decode cX2_beginRows 68 = .ok (.iadd, 1) := by decide +kernel
theorem dX2_beginRows_69 : decode cX2_beginRows 69 = .ok (.iload_n 3, 1) := by decide +kernel
theorem dX2_beginRows_70 : decode cX2_beginRows 70 = .ok (.iadd, 1) := by decide +kernel
theorem dX2_beginRows_71 : decode cX2_beginRows 71 = .ok (.iaload, 1) := by decide +kernel
theorem dX2_beginRows_72 : decode cX2_beginRows 72 = .ok (.i2l, 1) := by decide +kernel
theorem dX2_beginRows_73 : decode cX2_beginRows 73 = .ok (.lastore, 1) := by decide +kernel
theorem dX2_beginRows_74 : decode cX2_beginRows 74 = .ok (.iinc 3 1, 3) := by decide +kernel
theorem dX2_beginRows_77 : decode cX2_beginRows 77 = .ok (.goto (-55), 3) := by decide +kernel
theorem dX2_beginRows_80 : decode cX2_beginRows 80 = .ok (.aload_n 0, 1) := by decide +kernel
theorem dX2_beginRows_81 : decode cX2_beginRows 81 = .ok (.getfield 17, 3) := by decide +kernel
theorem dX2_beginRows_84 : decode cX2_beginRows 84 = .ok (.iload_n 2, 1) := by decide +kernel
theorem dX2_beginRows_85 : decode cX2_beginRows 85 = .ok (.bipush 10, 2) := by decide +kernel
theorem dX2_beginRows_87 : decode cX2_beginRows 87 = .ok (.iadd, 1) := by decide +kernel
theorem dX2_beginRows_88 : decode cX2_beginRows 88 = .ok (.aload_n 0, 1) := by decide +kernel
theorem dX2_beginRows_89 : decode cX2_beginRows 89 = .ok (.getfield 13, 3) := by decide +kernel
theorem dX2_beginRows_92 : decode cX2_beginRows 92 = .ok (.bipush 7, 2) := by decide +kernel
theorem dX2_beginRows_94 : decode cX2_beginRows 94 = .ok (.iload_n 1, 1) := by decide +kernel
theorem dX2_beginRows_95 : decode cX2_beginRows 95 = .ok (.imul, 1) := by decide +kernel
theorem dX2_beginRows_96 : decode cX2_beginRows 96 = .ok (.bipush 6, 2) := by decide +kernel
theorem dX2_beginRows_98 : decode cX2_beginRows 98 = .ok (.iadd, 1) := by decide +kernel
theorem dX2_beginRows_99 : decode cX2_beginRows 99 = .ok (.iaload, 1) := by decide +kernel
theorem dX2_beginRows_100 : decode cX2_beginRows 100 = .ok (.i2l, 1) := by decide +kernel
theorem dX2_beginRows_101 : decode cX2_beginRows 101 = .ok (.lastore, 1) := by decide +kernel
theorem dX2_beginRows_102 : decode cX2_beginRows 102 = .ok (.iinc 1 1, 3) := by decide +kernel
theorem dX2_beginRows_105 : decode cX2_beginRows 105 = .ok (.goto (-98), 3) := by decide +kernel
theorem dX2_beginRows_108 : decode cX2_beginRows 108 = .ok (.return_, 1) := by decide +kernel
theorem dX2_size_0 : decode cX2_size 0 = .ok (.iconst 0, 1) := by decide +kernel
theorem dX2_size_1 : decode cX2_size 1 = .ok (.istore_n 1, 1) := by decide +kernel
theorem dX2_size_2 : decode cX2_size 2 = .ok (.iconst 0, 1) := by decide +kernel
theorem dX2_size_3 : decode cX2_size 3 = .ok (.istore_n 2, 1) := by decide +kernel
theorem dX2_size_4 : decode cX2_size 4 = .ok (.iload_n 2, 1) := by decide +kernel
theorem dX2_size_5 : decode cX2_size 5 = .ok (.bipush 16, 2) := by decide +kernel
theorem dX2_size_7 : decode cX2_size 7 = .ok (.if_icmp .ge 17, 3) := by decide +kernel
theorem dX2_size_10 : decode cX2_size 10 = .ok (.iload_n 1, 1) := by decide +kernel
theorem dX2_size_11 : decode cX2_size 11 = .ok (.iload_n 0, 1) := by decide +kernel
theorem dX2_size_12 : decode cX2_size 12 = .ok (.iload_n 2, 1) := by decide +kernel
theorem dX2_size_13 : decode cX2_size 13 = .ok (.ishr, 1) := by decide +kernel
theorem dX2_size_14 : decode cX2_size 14 = .ok (.iconst 1, 1) := by decide +kernel
theorem dX2_size_15 : decode cX2_size 15 = .ok (.iand, 1) := by decide +kernel
theorem dX2_size_16 : decode cX2_size 16 = .ok (.iadd, 1) := by decide +kernel
theorem dX2_size_17 : decode cX2_size 17 = .ok (.istore_n 1, 1) := by decide +kernel
theorem dX2_size_18 : decode cX2_size 18 = .ok (.iinc 2 1, 3) := by decide +kernel
theorem dX2_size_21 : decode cX2_size 21 = .ok (.goto (-17), 3) := by decide +kernel
theorem dX2_size_24 : decode cX2_size 24 = .ok (.iload_n 1, 1) := by decide +kernel
theorem dX2_size_25 : decode cX2_size 25 = .ok (.ireturn, 1) := by decide +kernel
theorem dX2_areBeside_0 : decode cX2_areBeside 0 = .ok (.aload_n 0, 1) := by decide +kernel
theorem dX2_areBeside_1 : decode cX2_areBeside 1 = .ok (.getfield 24, 3) := by decide +kernel
theorem dX2_areBeside_4 : decode cX2_areBeside 4 = .ok (.iload_n 1, 1) := by decide +kernel
theorem dX2_areBeside_5 : decode cX2_areBeside 5 = .ok (.iaload, 1) := by decide +kernel
theorem dX2_areBeside_6 : decode cX2_areBeside 6 = .ok (.aload_n 0, 1) := by decide +kernel
theorem dX2_areBeside_7 : decode cX2_areBeside 7 = .ok (.getfield 24, 3) := by decide +kernel
theorem dX2_areBeside_10 : decode cX2_areBeside 10 = .ok (.iload_n 2, 1) := by decide +kernel
theorem dX2_areBeside_11 : decode cX2_areBeside 11 = .ok (.iaload, 1) := by decide +kernel
theorem dX2_areBeside_12 : decode cX2_areBeside 12 = .ok (.ior, 1) := by decide +kernel
theorem dX2_areBeside_13 : decode cX2_areBeside 13 = .ok (.istore_n 3, 1) := by decide +kernel
theorem dX2_areBeside_14 : decode cX2_areBeside 14 = .ok (.iconst 0, 1) := by decide +kernel
theorem dX2_areBeside_15 : decode cX2_areBeside 15 = .ok (.istore 4, 2) := by decide +kernel
theorem dX2_areBeside_17 : decode cX2_areBeside 17 = .ok (.iload 4, 2) := by decide +kernel
theorem dX2_areBeside_19 : decode cX2_areBeside 19 = .ok (.aload_n 0, 1) := by decide +kernel
theorem dX2_areBeside_20 : decode cX2_areBeside 20 = .ok (.getfield 46, 3) := by decide +kernel
theorem dX2_areBeside_23 : decode cX2_areBeside 23 = .ok (.if_icmp .ge 37, 3) := by decide +kernel
theorem dX2_areBeside_26 : decode cX2_areBeside 26 = .ok (.iload 4, 2) := by decide +kernel
theorem dX2_areBeside_28 : decode cX2_areBeside 28 = .ok (.iload_n 1, 1) := by decide +kernel
theorem dX2_areBeside_29 : decode cX2_areBeside 29 = .ok (.if_icmp .eq 25, 3) := by decide +kernel
theorem dX2_areBeside_32 : decode cX2_areBeside 32 = .ok (.iload 4, 2) := by decide +kernel
theorem dX2_areBeside_34 : decode cX2_areBeside 34 = .ok (.iload_n 2, 1) := by decide +kernel
theorem dX2_areBeside_35 : decode cX2_areBeside 35 = .ok (.if_icmp .eq 19, 3) := by decide +kernel
theorem dX2_areBeside_38 : decode cX2_areBeside 38 = .ok (.aload_n 0, 1) := by decide +kernel
theorem dX2_areBeside_39 : decode cX2_areBeside 39 = .ok (.getfield 24, 3) := by decide +kernel
theorem dX2_areBeside_42 : decode cX2_areBeside 42 = .ok (.iload 4, 2) := by decide +kernel
theorem dX2_areBeside_44 : decode cX2_areBeside 44 = .ok (.iaload, 1) := by decide +kernel
theorem dX2_areBeside_45 : decode cX2_areBeside 45 = .ok (.iload_n 3, 1) := by decide +kernel
theorem dX2_areBeside_46 : decode cX2_areBeside 46 = .ok (.iconst (-1), 1) := by decide +kernel
theorem dX2_areBeside_47 : decode cX2_areBeside 47 = .ok (.ixor, 1) := by decide +kernel
theorem dX2_areBeside_48 : decode cX2_areBeside 48 = .ok (.iand, 1) := by decide +kernel
theorem dX2_areBeside_49 : decode cX2_areBeside 49 = .ok (.ifCond .ne 5, 3) := by decide +kernel
theorem dX2_areBeside_52 : decode cX2_areBeside 52 = .ok (.iconst 0, 1) := by decide +kernel
theorem dX2_areBeside_53 : decode cX2_areBeside 53 = .ok (.ireturn, 1) := by decide +kernel
theorem dX2_areBeside_54 : decode cX2_areBeside 54 = .ok (.iinc 4 1, 3) := by decide +kernel
theorem dX2_areBeside_57 : decode cX2_areBeside 57 = .ok (.goto (-40), 3) := by decide +kernel
theorem dX2_areBeside_60 : decode cX2_areBeside 60 = .ok (.iconst 1, 1) := by decide +kernel
theorem dX2_areBeside_61 : decode cX2_areBeside 61 = .ok (.ireturn, 1) := by decide +kernel
theorem dX2_isBelow_0 : decode cX2_isBelow 0 = .ok (.lload_n 0, 1) := by decide +kernel
theorem dX2_isBelow_1 : decode cX2_isBelow 1 = .ok (.ldc2_w 53, 3) := by decide +kernel
theorem dX2_isBelow_4 : decode cX2_isBelow 4 = .ok (.ladd, 1) := by decide +kernel
theorem dX2_isBelow_5 : decode cX2_isBelow 5 = .ok (.lload_n 2, 1) := by decide +kernel
theorem dX2_isBelow_6 : decode cX2_isBelow 6 = .ok (.ldc2_w 53, 3) := by decide +kernel
theorem dX2_isBelow_9 : decode cX2_isBelow 9 = .ok (.ladd, 1) := by decide +kernel
theorem dX2_isBelow_10 : decode cX2_isBelow 10 = .ok (.lcmp, 1) := by decide +kernel
theorem dX2_isBelow_11 : decode cX2_isBelow 11 = .ok (.ifCond .ge 7, 3) := by decide +kernel
theorem dX2_isBelow_14 : decode cX2_isBelow 14 = .ok (.iconst 1, 1) := by decide +kernel
theorem dX2_isBelow_15 : decode cX2_isBelow 15 = .ok (.goto 4, 3) := by decide +kernel
theorem dX2_isBelow_18 : decode cX2_isBelow 18 = .ok (.iconst 0, 1) := by decide +kernel
theorem dX2_isBelow_19 : decode cX2_isBelow 19 = .ok (.ireturn, 1) := by decide +kernel
theorem dX2_high_0 : decode cX2_high 0 = .ok (.lload_n 0, 1) := by decide +kernel
theorem dX2_high_1 : decode cX2_high 1 = .ok (.ldc2_w 55, 3) := by decide +kernel
theorem dX2_high_4 : decode cX2_high 4 = .ok (.land, 1) := by decide +kernel
theorem dX2_high_5 : decode cX2_high 5 = .ok (.lstore 4, 2) := by decide +kernel
theorem dX2_high_7 : decode cX2_high 7 = .ok (.lload_n 2, 1) := by decide +kernel
theorem dX2_high_8 : decode cX2_high 8 = .ok (.ldc2_w 55, 3) := by decide +kernel
theorem dX2_high_11 : decode cX2_high 11 = .ok (.land, 1) := by decide +kernel
theorem dX2_high_12 : decode cX2_high 12 = .ok (.lstore 6, 2) := by decide +kernel
theorem dX2_high_14 : decode cX2_high 14 = .ok (.lload_n 0, 1) := by decide +kernel
theorem dX2_high_15 : decode cX2_high 15 = .ok (.bipush 32, 2) := by decide +kernel
theorem dX2_high_17 : decode cX2_high 17 = .ok (.lshr, 1) := by decide +kernel
theorem dX2_high_18 : decode cX2_high 18 = .ok (.lstore 8, 2) := by decide +kernel
theorem dX2_high_20 : decode cX2_high 20 = .ok (.lload_n 2, 1) := by decide +kernel
theorem dX2_high_21 : decode cX2_high 21 = .ok (.bipush 32, 2) := by decide +kernel
theorem dX2_high_23 : decode cX2_high 23 = .ok (.lshr, 1) := by decide +kernel
theorem dX2_high_24 : decode cX2_high 24 = .ok (.lstore 10, 2) := by decide +kernel
theorem dX2_high_26 : decode cX2_high 26 = .ok (.lload 8, 2) := by decide +kernel
theorem dX2_high_28 : decode cX2_high 28 = .ok (.lload 6, 2) := by decide +kernel
theorem dX2_high_30 : decode cX2_high 30 = .ok (.lmul, 1) := by decide +kernel
theorem dX2_high_31 : decode cX2_high 31 = .ok (.lload 4, 2) := by decide +kernel
theorem dX2_high_33 : decode cX2_high 33 = .ok (.lload 6, 2) := by decide +kernel
theorem dX2_high_35 : decode cX2_high 35 = .ok (.lmul, 1) := by decide +kernel
theorem dX2_high_36 : decode cX2_high 36 = .ok (.bipush 32, 2) := by decide +kernel
theorem dX2_high_38 : decode cX2_high 38 = .ok (.lushr, 1) := by decide +kernel
theorem dX2_high_39 : decode cX2_high 39 = .ok (.ladd, 1) := by decide +kernel
theorem dX2_high_40 : decode cX2_high 40 = .ok (.lstore 12, 2) := by decide +kernel
theorem dX2_high_42 : decode cX2_high 42 = .ok (.lload 4, 2) := by decide +kernel
theorem dX2_high_44 : decode cX2_high 44 = .ok (.lload 10, 2) := by decide +kernel
theorem dX2_high_46 : decode cX2_high 46 = .ok (.lmul, 1) := by decide +kernel
theorem dX2_high_47 : decode cX2_high 47 = .ok (.lload 12, 2) := by decide +kernel
theorem dX2_high_49 : decode cX2_high 49 = .ok (.ldc2_w 55, 3) := by decide +kernel
theorem dX2_high_52 : decode cX2_high 52 = .ok (.land, 1) := by decide +kernel
theorem dX2_high_53 : decode cX2_high 53 = .ok (.ladd, 1) := by decide +kernel
theorem dX2_high_54 : decode cX2_high 54 = .ok (.lstore 14, 2) := by decide +kernel
theorem dX2_high_56 : decode cX2_high 56 = .ok (.lload 8, 2) := by decide +kernel
theorem dX2_high_58 : decode cX2_high 58 = .ok (.lload 10, 2) := by decide +kernel
theorem dX2_high_60 : decode cX2_high 60 = .ok (.lmul, 1) := by decide +kernel
theorem dX2_high_61 : decode cX2_high 61 = .ok (.lload 12, 2) := by decide +kernel
theorem dX2_high_63 : decode cX2_high 63 = .ok (.bipush 32, 2) := by decide +kernel
theorem dX2_high_65 : decode cX2_high 65 = .ok (.lshr, 1) := by decide +kernel
theorem dX2_high_66 : decode cX2_high 66 = .ok (.ladd, 1) := by decide +kernel
theorem dX2_high_67 : decode cX2_high 67 = .ok (.lload 14, 2) := by decide +kernel
theorem dX2_high_69 : decode cX2_high 69 = .ok (.bipush 32, 2) := by decide +kernel
theorem dX2_high_71 : decode cX2_high 71 = .ok (.lshr, 1) := by decide +kernel
theorem dX2_high_72 : decode cX2_high 72 = .ok (.ladd, 1) := by decide +kernel
theorem dX2_high_73 : decode cX2_high 73 = .ok (.lreturn, 1) := by decide +kernel
set_option maxRecDepth 20000 in
theorem ggX2_make_X2_high : GoodIn wsX2_make wsX2_high := goodIn_r _ [6, 7] (by decide +kernel) (by decide +kernel)
set_option maxRecDepth 20000 in
theorem gX2_make_X2_high : GoodIn wsX2_make (va_wsS RX2 57 yX2_high wsX2_high) := goodIn_app (goodIn_of _ (by decide +kernel)) ggX2_make_X2_high
set_option maxRecDepth 20000 in
theorem ggX2_make_X2_isBelow : GoodIn wsX2_make wsX2_isBelow := goodIn_r _ [10, 11] (by decide +kernel) (by decide +kernel)
set_option maxRecDepth 20000 in
theorem gX2_make_X2_isBelow : GoodIn wsX2_make (va_wsS RX2 61 yX2_isBelow wsX2_isBelow) := goodIn_app (goodIn_of _ (by decide +kernel)) ggX2_make_X2_isBelow
theorem dX2_make_0 : decode cX2_make 0 = .ok (.lload_n 2, 1) := by decide +kernel
theorem dX2_make_1 : decode cX2_make 1 = .ok (.lload 4, 2) := by decide +kernel
theorem dX2_make_3 : decode cX2_make 3 = .ok (.lmul, 1) := by decide +kernel
theorem dX2_make_4 : decode cX2_make 4 = .ok (.lstore 10, 2) := by decide +kernel
theorem dX2_make_6 : decode cX2_make 6 = .ok (.lload 10, 2) := by decide +kernel
theorem dX2_make_8 : decode cX2_make 8 = .ok (.lload 6, 2) := by decide +kernel
theorem dX2_make_10 : decode cX2_make 10 = .ok (.lload 8, 2) := by decide +kernel
theorem dX2_make_12 : decode cX2_make 12 = .ok (.lmul, 1) := by decide +kernel
theorem dX2_make_13 : decode cX2_make 13 = .ok (.ladd, 1) := by decide +kernel
theorem dX2_make_14 : decode cX2_make 14 = .ok (.lstore 12, 2) := by decide +kernel
theorem dX2_make_16 : decode cX2_make 16 = .ok (.aload_n 0, 1) := by decide +kernel
theorem dX2_make_17 : decode cX2_make 17 = .ok (.getfield 30, 3) := by decide +kernel
theorem dX2_make_20 : decode cX2_make 20 = .ok (.iload_n 1, 1) := by decide +kernel
theorem dX2_make_21 : decode cX2_make 21 = .ok (.lload_n 2, 1) := by decide +kernel
theorem dX2_make_22 : decode cX2_make 22 = .ok (.lload 4, 2) := by decide +kernel
theorem dX2_make_24 : decode cX2_make 24 = .ok (.invokestatic 57, 3) := by decide +kernel
theorem dX2_make_27 : decode cX2_make 27 = .ok (.lload 6, 2) := by decide +kernel
theorem dX2_make_29 : decode cX2_make 29 = .ok (.lload 8, 2) := by decide +kernel
theorem dX2_make_31 : decode cX2_make 31 = .ok (.invokestatic 57, 3) := by decide +kernel
theorem dX2_make_34 : decode cX2_make 34 = .ok (.ladd, 1) := by decide +kernel
theorem dX2_make_35 : decode cX2_make 35 = .ok (.lload 12, 2) := by decide +kernel
theorem dX2_make_37 : decode cX2_make 37 = .ok (.lload 10, 2) := by decide +kernel
theorem dX2_make_39 : decode cX2_make 39 = .ok (.invokestatic 61, 3) := by decide +kernel
theorem dX2_make_42 : decode cX2_make 42 = .ok (.ifCond .eq 7, 3) := by decide +kernel
theorem dX2_make_45 : decode cX2_make 45 = .ok (.lconst 1, 1) := by decide +kernel
theorem dX2_make_46 : decode cX2_make 46 = .ok (.goto 4, 3) := by decide +kernel
theorem dX2_make_49 : decode cX2_make 49 = .ok (.lconst 0, 1) := by decide +kernel
theorem dX2_make_50 : decode cX2_make 50 = .ok (.ladd, 1) := by decide +kernel
theorem dX2_make_51 : decode cX2_make 51 = .ok (.lastore, 1) := by decide +kernel
theorem dX2_make_52 : decode cX2_make 52 = .ok (.aload_n 0, 1) := by decide +kernel
theorem dX2_make_53 : decode cX2_make 53 = .ok (.getfield 33, 3) := by decide +kernel
theorem dX2_make_56 : decode cX2_make 56 = .ok (.iload_n 1, 1) := by decide +kernel
theorem dX2_make_57 : decode cX2_make 57 = .ok (.lload 12, 2) := by decide +kernel
theorem dX2_make_59 : decode cX2_make 59 = .ok (.lastore, 1) := by decide +kernel
theorem dX2_make_60 : decode cX2_make 60 = .ok (.return_, 1) := by decide +kernel
set_option maxRecDepth 20000 in
theorem ggX2_gather_X2_isBelow : GoodIn wsX2_gather wsX2_isBelow := goodIn_r _ [6, 7] (by decide +kernel) (by decide +kernel)
set_option maxRecDepth 20000 in
theorem gX2_gather_X2_isBelow : GoodIn wsX2_gather (va_wsS RX2 61 yX2_isBelow wsX2_isBelow) := goodIn_app (goodIn_of _ (by decide +kernel)) ggX2_gather_X2_isBelow
theorem dX2_gather_0 : decode cX2_gather 0 = .ok (.aload_n 0, 1) := by decide +kernel
theorem dX2_gather_1 : decode cX2_gather 1 = .ok (.getfield 65, 3) := by decide +kernel
theorem dX2_gather_4 : decode cX2_gather 4 = .ok (.lstore 5, 2) := by decide +kernel
theorem dX2_gather_6 : decode cX2_gather 6 = .ok (.aload_n 0, 1) := by decide +kernel
theorem dX2_gather_7 : decode cX2_gather 7 = .ok (.getfield 69, 3) := by decide +kernel
theorem dX2_gather_10 : decode cX2_gather 10 = .ok (.lstore 7, 2) := by decide +kernel
theorem dX2_gather_12 : decode cX2_gather 12 = .ok (.lload_n 1, 1) := by decide +kernel
theorem dX2_gather_13 : decode cX2_gather 13 = .ok (.lstore 9, 2) := by decide +kernel
theorem dX2_gather_15 : decode cX2_gather 15 = .ok (.lload_n 3, 1) := by decide +kernel
theorem dX2_gather_16 : decode cX2_gather 16 = .ok (.lstore 11, 2) := by decide +kernel
theorem dX2_gather_18 : decode cX2_gather 18 = .ok (.lload 5, 2) := by decide +kernel
theorem dX2_gather_20 : decode cX2_gather 20 = .ok (.lconst 0, 1) := by decide +kernel
theorem dX2_gather_21 : decode cX2_gather 21 = .ok (.lcmp, 1) := by decide +kernel
theorem dX2_gather_22 : decode cX2_gather 22 = .ok (.ifCond .ne 23, 3) := by decide +kernel
theorem dX2_gather_25 : decode cX2_gather 25 = .ok (.lload 7, 2) := by decide +kernel
theorem dX2_gather_27 : decode cX2_gather 27 = .ok (.lconst 0, 1) := by decide +kernel
theorem dX2_gather_28 : decode cX2_gather 28 = .ok (.lcmp, 1) := by decide +kernel
theorem dX2_gather_29 : decode cX2_gather 29 = .ok (.ifCond .ne 16, 3) := by decide +kernel
theorem dX2_gather_32 : decode cX2_gather 32 = .ok (.aload_n 0, 1) := by decide +kernel
theorem dX2_gather_33 : decode cX2_gather 33 = .ok (.lload 9, 2) := by decide +kernel
theorem dX2_gather_35 : decode cX2_gather 35 = .ok (.putfield 65, 3) := by decide +kernel
theorem dX2_gather_38 : decode cX2_gather 38 = .ok (.aload_n 0, 1) := by decide +kernel
theorem dX2_gather_39 : decode cX2_gather 39 = .ok (.lload 11, 2) := by decide +kernel
theorem dX2_gather_41 : decode cX2_gather 41 = .ok (.putfield 69, 3) := by decide +kernel
theorem dX2_gather_44 : decode cX2_gather 44 = .ok (.return_, 1) := by decide +kernel
theorem dX2_gather_45 : decode cX2_gather 45 = .ok (.lload 9, 2) := by decide +kernel
theorem dX2_gather_47 : decode cX2_gather 47 = .ok (.lconst 0, 1) := by decide +kernel
theorem dX2_gather_48 : decode cX2_gather 48 = .ok (.lcmp, 1) := by decide +kernel
theorem dX2_gather_49 : decode cX2_gather 49 = .ok (.ifCond .ne 11, 3) := by decide +kernel
theorem dX2_gather_52 : decode cX2_gather 52 = .ok (.lload 11, 2) := by decide +kernel
theorem dX2_gather_54 : decode cX2_gather 54 = .ok (.lconst 0, 1) := by decide +kernel
theorem dX2_gather_55 : decode cX2_gather 55 = .ok (.lcmp, 1) := by decide +kernel
theorem dX2_gather_56 : decode cX2_gather 56 = .ok (.ifCond .ne 4, 3) := by decide +kernel
theorem dX2_gather_59 : decode cX2_gather 59 = .ok (.return_, 1) := by decide +kernel
theorem dX2_gather_60 : decode cX2_gather 60 = .ok (.iconst 0, 1) := by decide +kernel
theorem dX2_gather_61 : decode cX2_gather 61 = .ok (.istore 13, 2) := by decide +kernel
theorem dX2_gather_63 : decode cX2_gather 63 = .ok (.lload 7, 2) := by decide +kernel
theorem dX2_gather_65 : decode cX2_gather 65 = .ok (.lload 11, 2) := by decide +kernel
theorem dX2_gather_67 : decode cX2_gather 67 = .ok (.lor, 1) := by decide +kernel
theorem dX2_gather_68 : decode cX2_gather 68 = .ok (.lconst 1, 1) := by decide +kernel
theorem dX2_gather_69 : decode cX2_gather 69 = .ok (.land, 1) := by decide +kernel
theorem dX2_gather_70 : decode cX2_gather 70 = .ok (.lconst 0, 1) := by decide +kernel
theorem dX2_gather_71 : decode cX2_gather 71 = .ok (.lcmp, 1) := by decide +kernel
theorem dX2_gather_72 : decode cX2_gather 72 = .ok (.ifCond .ne 45, 3) := by decide +kernel
theorem dX2_gather_75 : decode cX2_gather 75 = .ok (.lload 7, 2) := by decide +kernel
theorem dX2_gather_77 : decode cX2_gather 77 = .ok (.iconst 1, 1) := by decide +kernel
theorem dX2_gather_78 : decode cX2_gather 78 = .ok (.lushr, 1) := by decide +kernel
theorem dX2_gather_79 : decode cX2_gather 79 = .ok (.lload 5, 2) := by decide +kernel
theorem dX2_gather_81 : decode cX2_gather 81 = .ok (.bipush 63, 2) := by decide +kernel
theorem dX2_gather_83 : decode cX2_gather 83 = .ok (.lshl, 1) := by decide +kernel
theorem dX2_gather_84 : decode cX2_gather 84 = .ok (.lor, 1) := by decide +kernel
theorem dX2_gather_85 : decode cX2_gather 85 = .ok (.lstore 7, 2) := by decide +kernel
theorem dX2_gather_87 : decode cX2_gather 87 = .ok (.lload 5, 2) := by decide +kernel
theorem dX2_gather_89 : decode cX2_gather 89 = .ok (.iconst 1, 1) := by decide +kernel
theorem dX2_gather_90 : decode cX2_gather 90 = .ok (.lushr, 1) := by decide +kernel
theorem dX2_gather_91 : decode cX2_gather 91 = .ok (.lstore 5, 2) := by decide +kernel
theorem dX2_gather_93 : decode cX2_gather 93 = .ok (.lload 11, 2) := by decide +kernel
theorem dX2_gather_95 : decode cX2_gather 95 = .ok (.iconst 1, 1) := by decide +kernel
theorem dX2_gather_96 : decode cX2_gather 96 = .ok (.lushr, 1) := by decide +kernel
theorem dX2_gather_97 : decode cX2_gather 97 = .ok (.lload 9, 2) := by decide +kernel
theorem dX2_gather_99 : decode cX2_gather 99 = .ok (.bipush 63, 2) := by decide +kernel
theorem dX2_gather_101 : decode cX2_gather 101 = .ok (.lshl, 1) := by decide +kernel
theorem dX2_gather_102 : decode cX2_gather 102 = .ok (.lor, 1) := by decide +kernel
theorem dX2_gather_103 : decode cX2_gather 103 = .ok (.lstore 11, 2) := by decide +kernel
theorem dX2_gather_105 : decode cX2_gather 105 = .ok (.lload 9, 2) := by decide +kernel
theorem dX2_gather_107 : decode cX2_gather 107 = .ok (.iconst 1, 1) := by decide +kernel
theorem dX2_gather_108 : decode cX2_gather 108 = .ok (.lushr, 1) := by decide +kernel
theorem dX2_gather_109 : decode cX2_gather 109 = .ok (.lstore 9, 2) := by decide +kernel
theorem dX2_gather_111 : decode cX2_gather 111 = .ok (.iinc 13 1, 3) := by decide +kernel
theorem dX2_gather_114 : decode cX2_gather 114 = .ok (.goto (-51), 3) := by decide +kernel
theorem dX2_gather_117 : decode cX2_gather 117 = .ok (.lload 7, 2) := by decide +kernel
theorem dX2_gather_119 : decode cX2_gather 119 = .ok (.lconst 1, 1) := by decide +kernel
theorem dX2_gather_120 : decode cX2_gather 120 = .ok (.land, 1) := by decide +kernel
theorem dX2_gather_121 : decode cX2_gather 121 = .ok (.lconst 0, 1) := by decide +kernel
theorem dX2_gather_122 : decode cX2_gather 122 = .ok (.lcmp, 1) := by decide +kernel
theorem dX2_gather_123 : decode cX2_gather 123 = .ok (.ifCond .ne 24, 3) := by decide +kernel
theorem dX2_gather_126 : decode cX2_gather 126 = .ok (.lload 7, 2) := by decide +kernel
theorem dX2_gather_128 : decode cX2_gather 128 = .ok (.iconst 1, 1) := by decide +kernel
theorem dX2_gather_129 : decode cX2_gather 129 = .ok (.lushr, 1) := by decide +kernel
theorem dX2_gather_130 : decode cX2_gather 130 = .ok (.lload 5, 2) := by decide +kernel
theorem dX2_gather_132 : decode cX2_gather 132 = .ok (.bipush 63, 2) := by decide +kernel
theorem dX2_gather_134 : decode cX2_gather 134 = .ok (.lshl, 1) := by decide +kernel
theorem dX2_gather_135 : decode cX2_gather 135 = .ok (.lor, 1) := by decide +kernel
theorem dX2_gather_136 : decode cX2_gather 136 = .ok (.lstore 7, 2) := by decide +kernel
theorem dX2_gather_138 : decode cX2_gather 138 = .ok (.lload 5, 2) := by decide +kernel
theorem dX2_gather_140 : decode cX2_gather 140 = .ok (.iconst 1, 1) := by decide +kernel
theorem dX2_gather_141 : decode cX2_gather 141 = .ok (.lushr, 1) := by decide +kernel
theorem dX2_gather_142 : decode cX2_gather 142 = .ok (.lstore 5, 2) := by decide +kernel
theorem dX2_gather_144 : decode cX2_gather 144 = .ok (.goto (-27), 3) := by decide +kernel
theorem dX2_gather_147 : decode cX2_gather 147 = .ok (.lload 9, 2) := by decide +kernel
theorem dX2_gather_149 : decode cX2_gather 149 = .ok (.lconst 0, 1) := by decide +kernel
theorem dX2_gather_150 : decode cX2_gather 150 = .ok (.lcmp, 1) := by decide +kernel
theorem dX2_gather_151 : decode cX2_gather 151 = .ok (.ifCond .ne 10, 3) := by decide +kernel
theorem dX2_gather_154 : decode cX2_gather 154 = .ok (.lload 11, 2) := by decide +kernel
theorem dX2_gather_156 : decode cX2_gather 156 = .ok (.lconst 0, 1) := by decide +kernel
theorem dX2_gather_157 : decode cX2_gather 157 = .ok (.lcmp, 1) := by decide +kernel
theorem dX2_gather_158 : decode cX2_gather 158 = .ok (.ifCond .eq 116, 3) := by decide +kernel
theorem dX2_gather_161 : decode cX2_gather 161 = .ok (.lload 11, 2) := by decide +kernel
theorem dX2_gather_163 : decode cX2_gather 163 = .ok (.lconst 1, 1) := by decide +kernel
theorem dX2_gather_164 : decode cX2_gather 164 = .ok (.land, 1) := by decide +kernel
theorem dX2_gather_165 : decode cX2_gather 165 = .ok (.lconst 0, 1) := by decide +kernel
theorem dX2_gather_166 : decode cX2_gather 166 = .ok (.lcmp, 1) := by decide +kernel
theorem dX2_gather_167 : decode cX2_gather 167 = .ok (.ifCond .ne 24, 3) := by decide +kernel
theorem dX2_gather_170 : decode cX2_gather 170 = .ok (.lload 11, 2) := by decide +kernel
theorem dX2_gather_172 : decode cX2_gather 172 = .ok (.iconst 1, 1) := by decide +kernel
theorem dX2_gather_173 : decode cX2_gather 173 = .ok (.lushr, 1) := by decide +kernel
theorem dX2_gather_174 : decode cX2_gather 174 = .ok (.lload 9, 2) := by decide +kernel
theorem dX2_gather_176 : decode cX2_gather 176 = .ok (.bipush 63, 2) := by decide +kernel
theorem dX2_gather_178 : decode cX2_gather 178 = .ok (.lshl, 1) := by decide +kernel
theorem dX2_gather_179 : decode cX2_gather 179 = .ok (.lor, 1) := by decide +kernel
theorem dX2_gather_180 : decode cX2_gather 180 = .ok (.lstore 11, 2) := by decide +kernel
theorem dX2_gather_182 : decode cX2_gather 182 = .ok (.lload 9, 2) := by decide +kernel
theorem dX2_gather_184 : decode cX2_gather 184 = .ok (.iconst 1, 1) := by decide +kernel
theorem dX2_gather_185 : decode cX2_gather 185 = .ok (.lushr, 1) := by decide +kernel
theorem dX2_gather_186 : decode cX2_gather 186 = .ok (.lstore 9, 2) := by decide +kernel
theorem dX2_gather_188 : decode cX2_gather 188 = .ok (.goto (-27), 3) := by decide +kernel
theorem dX2_gather_191 : decode cX2_gather 191 = .ok (.lload 9, 2) := by decide +kernel
theorem dX2_gather_193 : decode cX2_gather 193 = .ok (.lload 5, 2) := by decide +kernel
theorem dX2_gather_195 : decode cX2_gather 195 = .ok (.lcmp, 1) := by decide +kernel
theorem dX2_gather_196 : decode cX2_gather 196 = .ok (.ifCond .lt 21, 3) := by decide +kernel
theorem dX2_gather_199 : decode cX2_gather 199 = .ok (.lload 9, 2) := by decide +kernel
theorem dX2_gather_201 : decode cX2_gather 201 = .ok (.lload 5, 2) := by decide +kernel
theorem dX2_gather_203 : decode cX2_gather 203 = .ok (.lcmp, 1) := by decide +kernel
theorem dX2_gather_204 : decode cX2_gather 204 = .ok (.ifCond .ne 37, 3) := by decide +kernel
theorem dX2_gather_207 : decode cX2_gather 207 = .ok (.lload 11, 2) := by decide +kernel
theorem dX2_gather_209 : decode cX2_gather 209 = .ok (.lload 7, 2) := by decide +kernel
theorem dX2_gather_211 : decode cX2_gather 211 = .ok (.invokestatic 61, 3) := by decide +kernel
theorem dX2_gather_214 : decode cX2_gather 214 = .ok (.ifCond .eq 27, 3) := by decide +kernel
theorem dX2_gather_217 : decode cX2_gather 217 = .ok (.lload 9, 2) := by decide +kernel
theorem dX2_gather_219 : decode cX2_gather 219 = .ok (.lstore 14, 2) := by decide +kernel
theorem dX2_gather_221 : decode cX2_gather 221 = .ok (.lload 11, 2) := by decide +kernel
theorem dX2_gather_223 : decode cX2_gather 223 = .ok (.lstore 16, 2) := by decide +kernel
theorem dX2_gather_225 : decode cX2_gather 225 = .ok (.lload 5, 2) := by decide +kernel
theorem dX2_gather_227 : decode cX2_gather 227 = .ok (.lstore 9, 2) := by decide +kernel
theorem dX2_gather_229 : decode cX2_gather 229 = .ok (.lload 7, 2) := by decide +kernel
theorem dX2_gather_231 : decode cX2_gather 231 = .ok (.lstore 11, 2) := by decide +kernel
theorem dX2_gather_233 : decode cX2_gather 233 = .ok (.lload 14, 2) := by decide +kernel
theorem dX2_gather_235 : decode cX2_gather 235 = .ok (.lstore 5, 2) := by decide +kernel
theorem dX2_gather_237 : decode cX2_gather 237 = .ok (.lload 16, 2) := by decide +kernel
theorem dX2_gather_239 : decode cX2_gather 239 = .ok (.lstore 7, 2) := by decide +kernel
theorem dX2_gather_241 : decode cX2_gather 241 = .ok (.lload 9, 2) := by decide +kernel
theorem dX2_gather_243 : decode cX2_gather 243 = .ok (.lload 5, 2) := by decide +kernel
theorem dX2_gather_245 : decode cX2_gather 245 = .ok (.lsub, 1) := by decide +kernel
theorem dX2_gather_246 : decode cX2_gather 246 = .ok (.lload 11, 2) := by decide +kernel
theorem dX2_gather_248 : decode cX2_gather 248 = .ok (.lload 7, 2) := by decide +kernel
theorem dX2_gather_250 : decode cX2_gather 250 = .ok (.invokestatic 61, 3) := by decide +kernel
theorem dX2_gather_253 : decode cX2_gather 253 = .ok (.ifCond .eq 7, 3) := by decide +kernel
theorem dX2_gather_256 : decode cX2_gather 256 = .ok (.lconst 1, 1) := by decide +kernel
theorem dX2_gather_257 : decode cX2_gather 257 = .ok (.goto 4, 3) := by decide +kernel
theorem dX2_gather_260 : decode cX2_gather 260 = .ok (.lconst 0, 1) := by decide +kernel
theorem dX2_gather_261 : decode cX2_gather 261 = .ok (.lsub, 1) := by decide +kernel
theorem dX2_gather_262 : decode cX2_gather 262 = .ok (.lstore 9, 2) := by decide +kernel
theorem dX2_gather_264 : decode cX2_gather 264 = .ok (.lload 11, 2) := by decide +kernel
theorem dX2_gather_266 : decode cX2_gather 266 = .ok (.lload 7, 2) := by decide +kernel
theorem dX2_gather_268 : decode cX2_gather 268 = .ok (.lsub, 1) := by decide +kernel
theorem dX2_gather_269 : decode cX2_gather 269 = .ok (.lstore 11, 2) := by decide +kernel
theorem dX2_gather_271 : decode cX2_gather 271 = .ok (.goto (-124), 3) := by decide +kernel
theorem dX2_gather_274 : decode cX2_gather 274 = .ok (.iconst 0, 1) := by decide +kernel
theorem dX2_gather_275 : decode cX2_gather 275 = .ok (.istore 14, 2) := by decide +kernel
theorem dX2_gather_277 : decode cX2_gather 277 = .ok (.iload 14, 2) := by decide +kernel
theorem dX2_gather_279 : decode cX2_gather 279 = .ok (.iload 13, 2) := by decide +kernel
theorem dX2_gather_281 : decode cX2_gather 281 = .ok (.if_icmp .ge 27, 3) := by decide +kernel
theorem dX2_gather_284 : decode cX2_gather 284 = .ok (.lload 5, 2) := by decide +kernel
theorem dX2_gather_286 : decode cX2_gather 286 = .ok (.iconst 1, 1) := by decide +kernel
theorem dX2_gather_287 : decode cX2_gather 287 = .ok (.lshl, 1) := by decide +kernel
theorem dX2_gather_288 : decode cX2_gather 288 = .ok (.lload 7, 2) := by decide +kernel
theorem dX2_gather_290 : decode cX2_gather 290 = .ok (.bipush 63, 2) := by decide +kernel
theorem dX2_gather_292 : decode cX2_gather 292 = .ok (.lushr, 1) := by decide +kernel
theorem dX2_gather_293 : decode cX2_gather 293 = .ok (.lor, 1) := by decide +kernel
theorem dX2_gather_294 : decode cX2_gather 294 = .ok (.lstore 5, 2) := by decide +kernel
theorem dX2_gather_296 : decode cX2_gather 296 = .ok (.lload 7, 2) := by decide +kernel
theorem dX2_gather_298 : decode cX2_gather 298 = .ok (.iconst 1, 1) := by decide +kernel
theorem dX2_gather_299 : decode cX2_gather 299 = .ok (.lshl, 1) := by decide +kernel
theorem dX2_gather_300 : decode cX2_gather 300 = .ok (.lstore 7, 2) := by decide +kernel
theorem dX2_gather_302 : decode cX2_gather 302 = .ok (.iinc 14 1, 3) := by decide +kernel
theorem dX2_gather_305 : decode cX2_gather 305 = .ok (.goto (-28), 3) := by decide +kernel
theorem dX2_gather_308 : decode cX2_gather 308 = .ok (.aload_n 0, 1) := by decide +kernel
theorem dX2_gather_309 : decode cX2_gather 309 = .ok (.lload 5, 2) := by decide +kernel
theorem dX2_gather_311 : decode cX2_gather 311 = .ok (.putfield 65, 3) := by decide +kernel
theorem dX2_gather_314 : decode cX2_gather 314 = .ok (.aload_n 0, 1) := by decide +kernel
theorem dX2_gather_315 : decode cX2_gather 315 = .ok (.lload 7, 2) := by decide +kernel
theorem dX2_gather_317 : decode cX2_gather 317 = .ok (.putfield 69, 3) := by decide +kernel
theorem dX2_gather_320 : decode cX2_gather 320 = .ok (.return_, 1) := by decide +kernel
set_option maxRecDepth 20000 in
theorem ggX2_share_X2_isBelow : GoodIn wsX2_share wsX2_isBelow := goodIn_r _ [6, 7] (by decide +kernel) (by decide +kernel)
set_option maxRecDepth 20000 in
theorem gX2_share_X2_isBelow : GoodIn wsX2_share (va_wsS RX2 61 yX2_isBelow wsX2_isBelow) := goodIn_app (goodIn_of _ (by decide +kernel)) ggX2_share_X2_isBelow
theorem dX2_share_0 : decode cX2_share 0 = .ok (.lconst 0, 1) := by decide +kernel
theorem dX2_share_1 : decode cX2_share 1 = .ok (.lstore 5, 2) := by decide +kernel
theorem dX2_share_3 : decode cX2_share 3 = .ok (.lconst 0, 1) := by decide +kernel
theorem dX2_share_4 : decode cX2_share 4 = .ok (.lstore 7, 2) := by decide +kernel
theorem dX2_share_6 : decode cX2_share 6 = .ok (.lconst 0, 1) := by decide +kernel
theorem dX2_share_7 : decode cX2_share 7 = .ok (.lstore 9, 2) := by decide +kernel
theorem dX2_share_9 : decode cX2_share 9 = .ok (.bipush 127, 2) := by decide +kernel
theorem dX2_share_11 : decode cX2_share 11 = .ok (.istore 11, 2) := by decide +kernel
theorem dX2_share_13 : decode cX2_share 13 = .ok (.iload 11, 2) := by decide +kernel
theorem dX2_share_15 : decode cX2_share 15 = .ok (.ifCond .lt 137, 3) := by decide +kernel
theorem dX2_share_18 : decode cX2_share 18 = .ok (.iload 11, 2) := by decide +kernel
theorem dX2_share_20 : decode cX2_share 20 = .ok (.bipush 63, 2) := by decide +kernel
theorem dX2_share_22 : decode cX2_share 22 = .ok (.if_icmp .le 15, 3) := by decide +kernel
theorem dX2_share_25 : decode cX2_share 25 = .ok (.lload_n 1, 1) := by decide +kernel
theorem dX2_share_26 : decode cX2_share 26 = .ok (.iload 11, 2) := by decide +kernel
theorem dX2_share_28 : decode cX2_share 28 = .ok (.bipush 64, 2) := by decide +kernel
theorem dX2_share_30 : decode cX2_share 30 = .ok (.isub, 1) := by decide +kernel
theorem dX2_share_31 : decode cX2_share 31 = .ok (.lushr, 1) := by decide +kernel
theorem dX2_share_32 : decode cX2_share 32 = .ok (.lconst 1, 1) := by decide +kernel
theorem dX2_share_33 : decode cX2_share 33 = .ok (.land, 1) := by decide +kernel
theorem dX2_share_34 : decode cX2_share 34 = .ok (.goto 9, 3) := by decide +kernel
theorem dX2_share_37 : decode cX2_share 37 = .ok (.lload_n 3, 1) := by decide +kernel
theorem dX2_share_38 : decode cX2_share 38 = .ok (.iload 11, 2) := by decide +kernel
theorem dX2_share_40 : decode cX2_share 40 = .ok (.lushr, 1) := by decide +kernel
theorem dX2_share_41 : decode cX2_share 41 = .ok (.lconst 1, 1) := by decide +kernel
theorem dX2_share_42 : decode cX2_share 42 = .ok (.land, 1) := by decide +kernel
theorem dX2_share_43 : decode cX2_share 43 = .ok (.lstore 12, 2) := by decide +kernel
theorem dX2_share_45 : decode cX2_share 45 = .ok (.lload 5, 2) := by decide +kernel
theorem dX2_share_47 : decode cX2_share 47 = .ok (.iconst 1, 1) := by decide +kernel
theorem dX2_share_48 : decode cX2_share 48 = .ok (.lshl, 1) := by decide +kernel
theorem dX2_share_49 : decode cX2_share 49 = .ok (.lload 7, 2) := by decide +kernel
theorem dX2_share_51 : decode cX2_share 51 = .ok (.bipush 63, 2) := by decide +kernel
theorem dX2_share_53 : decode cX2_share 53 = .ok (.lushr, 1) := by decide +kernel
theorem dX2_share_54 : decode cX2_share 54 = .ok (.lor, 1) := by decide +kernel
theorem dX2_share_55 : decode cX2_share 55 = .ok (.lstore 5, 2) := by decide +kernel
theorem dX2_share_57 : decode cX2_share 57 = .ok (.lload 7, 2) := by decide +kernel
theorem dX2_share_59 : decode cX2_share 59 = .ok (.iconst 1, 1) := by decide +kernel
theorem dX2_share_60 : decode cX2_share 60 = .ok (.lshl, 1) := by decide +kernel
theorem dX2_share_61 : decode cX2_share 61 = .ok (.lload 12, 2) := by decide +kernel
theorem dX2_share_63 : decode cX2_share 63 = .ok (.lor, 1) := by decide +kernel
theorem dX2_share_64 : decode cX2_share 64 = .ok (.lstore 7, 2) := by decide +kernel
theorem dX2_share_66 : decode cX2_share 66 = .ok (.lload 9, 2) := by decide +kernel
theorem dX2_share_68 : decode cX2_share 68 = .ok (.iconst 1, 1) := by decide +kernel
theorem dX2_share_69 : decode cX2_share 69 = .ok (.lshl, 1) := by decide +kernel
theorem dX2_share_70 : decode cX2_share 70 = .ok (.lstore 9, 2) := by decide +kernel
theorem dX2_share_72 : decode cX2_share 72 = .ok (.lload 5, 2) := by decide +kernel
theorem dX2_share_74 : decode cX2_share 74 = .ok (.aload_n 0, 1) := by decide +kernel
theorem dX2_share_75 : decode cX2_share 75 = .ok (.getfield 65, 3) := by decide +kernel
theorem dX2_share_78 : decode cX2_share 78 = .ok (.lcmp, 1) := by decide +kernel
theorem dX2_share_79 : decode cX2_share 79 = .ok (.ifCond .gt 25, 3) := by decide +kernel
theorem dX2_share_82 : decode cX2_share 82 = .ok (.lload 5, 2) := by decide +kernel
theorem dX2_share_84 : decode cX2_share 84 = .ok (.aload_n 0, 1) := by decide +kernel
theorem dX2_share_85 : decode cX2_share 85 = .ok (.getfield 65, 3) := by decide +kernel
theorem dX2_share_88 : decode cX2_share 88 = .ok (.lcmp, 1) := by decide +kernel
theorem dX2_share_89 : decode cX2_share 89 = .ok (.ifCond .ne 57, 3) := by decide +kernel
theorem dX2_share_92 : decode cX2_share 92 = .ok (.lload 7, 2) := by decide +kernel
theorem dX2_share_94 : decode cX2_share 94 = .ok (.aload_n 0, 1) := by decide +kernel
theorem dX2_share_95 : decode cX2_share 95 = .ok (.getfield 69, 3) := by decide +kernel
theorem dX2_share_98 : decode cX2_share 98 = .ok (.invokestatic 61, 3) := by decide +kernel
theorem dX2_share_101 : decode cX2_share 101 = .ok (.ifCond .ne 45, 3) := by decide +kernel
theorem dX2_share_104 : decode cX2_share 104 = .ok (.lload 5, 2) := by decide +kernel
theorem dX2_share_106 : decode cX2_share 106 = .ok (.aload_n 0, 1) := by decide +kernel
theorem dX2_share_107 : decode cX2_share 107 = .ok (.getfield 65, 3) := by decide +kernel
theorem dX2_share_110 : decode cX2_share 110 = .ok (.lsub, 1) := by decide +kernel
theorem dX2_share_111 : decode cX2_share 111 = .ok (.lload 7, 2) := by decide +kernel
theorem dX2_share_113 : decode cX2_share 113 = .ok (.aload_n 0, 1) := by decide +kernel
theorem dX2_share_114 : decode cX2_share 114 = .ok (.getfield 69, 3) := by decide +kernel
theorem dX2_share_117 : decode cX2_share 117 = .ok (.invokestatic 61, 3) := by decide +kernel
theorem dX2_share_120 : decode cX2_share 120 = .ok (.ifCond .eq 7, 3) := by decide +kernel
theorem dX2_share_123 : decode cX2_share 123 = .ok (.lconst 1, 1) := by decide +kernel
theorem dX2_share_124 : decode cX2_share 124 = .ok (.goto 4, 3) := by decide +kernel
theorem dX2_share_127 : decode cX2_share 127 = .ok (.lconst 0, 1) := by decide +kernel
theorem dX2_share_128 : decode cX2_share 128 = .ok (.lsub, 1) := by decide +kernel
theorem dX2_share_129 : decode cX2_share 129 = .ok (.lstore 5, 2) := by decide +kernel
theorem dX2_share_131 : decode cX2_share 131 = .ok (.lload 7, 2) := by decide +kernel
theorem dX2_share_133 : decode cX2_share 133 = .ok (.aload_n 0, 1) := by decide +kernel
theorem dX2_share_134 : decode cX2_share 134 = .ok (.getfield 69, 3) := by decide +kernel
theorem dX2_share_137 : decode cX2_share 137 = .ok (.lsub, 1) := by decide +kernel
theorem dX2_share_138 : decode cX2_share 138 = .ok (.lstore 7, 2) := by decide +kernel
theorem dX2_share_140 : decode cX2_share 140 = .ok (.lload 9, 2) := by decide +kernel
theorem dX2_share_142 : decode cX2_share 142 = .ok (.lconst 1, 1) := by decide +kernel
theorem dX2_share_143 : decode cX2_share 143 = .ok (.ladd, 1) := by decide +kernel
theorem dX2_share_144 : decode cX2_share 144 = .ok (.lstore 9, 2) := by decide +kernel
theorem dX2_share_146 : decode cX2_share 146 = .ok (.iinc 11 (-1), 3) := by decide +kernel
theorem dX2_share_149 : decode cX2_share 149 = .ok (.goto (-136), 3) := by decide +kernel
theorem dX2_share_152 : decode cX2_share 152 = .ok (.lload 9, 2) := by decide +kernel
theorem dX2_share_154 : decode cX2_share 154 = .ok (.lreturn, 1) := by decide +kernel
set_option maxRecDepth 20000 in
theorem ggX2_combine_X2_make : GoodIn wsX2_combine wsX2_make := goodIn_r _ [14, 4, 5, 15, 16, 13, 17, 18, 19, 20, 21, 22, 31, 32, 33, 34, 35, 36, 37, 38, 39, 40, 41, 42, 43, 44, 45, 46, 47, 48, 49] (by decide +kernel) (by decide +kernel)
set_option maxRecDepth 20000 in
theorem gX2_combine_X2_make : GoodIn wsX2_combine (wsV RX2 72 RX2 yX2_make wsX2_make) := goodIn_app (goodIn_of _ (by decide +kernel)) ggX2_combine_X2_make
set_option maxRecDepth 20000 in
theorem ggX2_combine_X2_gather : GoodIn wsX2_combine wsX2_gather := goodIn_r _ [26, 2, 3, 19, 20, 13, 21, 22, 31, 32, 33, 34, 35, 36, 37, 38, 39, 40, 41, 42, 43, 44, 45, 46, 47, 48, 49] (by decide +kernel) (by decide +kernel)
set_option maxRecDepth 20000 in
theorem gX2_combine_X2_gather : GoodIn wsX2_combine (wsV RX2 76 RX2 yX2_gather wsX2_gather) := goodIn_app (goodIn_of _ (by decide +kernel)) ggX2_combine_X2_gather
set_option maxRecDepth 20000 in
theorem ggX2_combine_X2_share : GoodIn wsX2_combine wsX2_share := goodIn_r _ [30, 2, 3, 19, 20, 13, 21, 22, 31, 32, 33, 34, 35, 36, 37, 38, 39, 40, 41, 42, 43, 44, 45, 46, 47, 48, 49] (by decide +kernel) (by decide +kernel)
set_option maxRecDepth 20000 in
theorem gX2_combine_X2_share : GoodIn wsX2_combine (wsV RX2 80 RX2 yX2_share wsX2_share) := goodIn_app (goodIn_of _ (by decide +kernel)) ggX2_combine_X2_share
theorem dX2_combine_0 : decode cX2_combine 0 = .ok (.aload_n 0, 1) := by decide +kernel
theorem dX2_combine_1 : decode cX2_combine 1 = .ok (.getfield 17, 3) := by decide +kernel
theorem dX2_combine_4 : decode cX2_combine 4 = .ok (.bipush 11, 2) := by decide +kernel
theorem dX2_combine_6 : decode cX2_combine 6 = .ok (.iload_n 1, 1) := by decide +kernel
theorem dX2_combine_7 : decode cX2_combine 7 = .ok (.imul, 1) := by decide +kernel
theorem dX2_combine_8 : decode cX2_combine 8 = .ok (.iload_n 3, 1) := by decide +kernel
theorem dX2_combine_9 : decode cX2_combine 9 = .ok (.iadd, 1) := by decide +kernel
theorem dX2_combine_10 : decode cX2_combine 10 = .ok (.laload, 1) := by decide +kernel
theorem dX2_combine_11 : decode cX2_combine 11 = .ok (.lstore 4, 2) := by decide +kernel
theorem dX2_combine_13 : decode cX2_combine 13 = .ok (.aload_n 0, 1) := by decide +kernel
theorem dX2_combine_14 : decode cX2_combine 14 = .ok (.getfield 17, 3) := by decide +kernel
theorem dX2_combine_17 : decode cX2_combine 17 = .ok (.bipush 11, 2) := by decide +kernel
theorem dX2_combine_19 : decode cX2_combine 19 = .ok (.iload_n 2, 1) := by decide +kernel
theorem dX2_combine_20 : decode cX2_combine 20 = .ok (.imul, 1) := by decide +kernel
theorem dX2_combine_21 : decode cX2_combine 21 = .ok (.iload_n 3, 1) := by decide +kernel
theorem dX2_combine_22 : decode cX2_combine 22 = .ok (.iadd, 1) := by decide +kernel
theorem dX2_combine_23 : decode cX2_combine 23 = .ok (.laload, 1) := by decide +kernel
theorem dX2_combine_24 : decode cX2_combine 24 = .ok (.lneg, 1) := by decide +kernel
theorem dX2_combine_25 : decode cX2_combine 25 = .ok (.lstore 6, 2) := by decide +kernel
theorem dX2_combine_27 : decode cX2_combine 27 = .ok (.aload_n 0, 1) := by decide +kernel
theorem dX2_combine_28 : decode cX2_combine 28 = .ok (.lconst 0, 1) := by decide +kernel
theorem dX2_combine_29 : decode cX2_combine 29 = .ok (.putfield 65, 3) := by decide +kernel
theorem dX2_combine_32 : decode cX2_combine 32 = .ok (.aload_n 0, 1) := by decide +kernel
theorem dX2_combine_33 : decode cX2_combine 33 = .ok (.lconst 0, 1) := by decide +kernel
theorem dX2_combine_34 : decode cX2_combine 34 = .ok (.putfield 69, 3) := by decide +kernel
theorem dX2_combine_37 : decode cX2_combine 37 = .ok (.iconst 0, 1) := by decide +kernel
theorem dX2_combine_38 : decode cX2_combine 38 = .ok (.istore 8, 2) := by decide +kernel
theorem dX2_combine_40 : decode cX2_combine 40 = .ok (.iload 8, 2) := by decide +kernel
theorem dX2_combine_42 : decode cX2_combine 42 = .ok (.bipush 11, 2) := by decide +kernel
theorem dX2_combine_44 : decode cX2_combine 44 = .ok (.if_icmp .ge 133, 3) := by decide +kernel
theorem dX2_combine_47 : decode cX2_combine 47 = .ok (.aload_n 0, 1) := by decide +kernel
theorem dX2_combine_48 : decode cX2_combine 48 = .ok (.iload 8, 2) := by decide +kernel
theorem dX2_combine_50 : decode cX2_combine 50 = .ok (.aload_n 0, 1) := by decide +kernel
theorem dX2_combine_51 : decode cX2_combine 51 = .ok (.getfield 17, 3) := by decide +kernel
theorem dX2_combine_54 : decode cX2_combine 54 = .ok (.bipush 11, 2) := by decide +kernel
theorem dX2_combine_56 : decode cX2_combine 56 = .ok (.iload_n 1, 1) := by decide +kernel
theorem dX2_combine_57 : decode cX2_combine 57 = .ok (.imul, 1) := by decide +kernel
theorem dX2_combine_58 : decode cX2_combine 58 = .ok (.iload 8, 2) := by decide +kernel
theorem dX2_combine_60 : decode cX2_combine 60 = .ok (.iadd, 1) := by decide +kernel
theorem dX2_combine_61 : decode cX2_combine 61 = .ok (.laload, 1) := by decide +kernel
theorem dX2_combine_62 : decode cX2_combine 62 = .ok (.lload 6, 2) := by decide +kernel
theorem dX2_combine_64 : decode cX2_combine 64 = .ok (.aload_n 0, 1) := by decide +kernel
theorem dX2_combine_65 : decode cX2_combine 65 = .ok (.getfield 17, 3) := by decide +kernel
theorem dX2_combine_68 : decode cX2_combine 68 = .ok (.bipush 11, 2) := by decide +kernel
theorem dX2_combine_70 : decode cX2_combine 70 = .ok (.iload_n 2, 1) := by decide +kernel
theorem dX2_combine_71 : decode cX2_combine 71 = .ok (.imul, 1) := by decide +kernel
theorem dX2_combine_72 : decode cX2_combine 72 = .ok (.iload 8, 2) := by decide +kernel
theorem dX2_combine_74 : decode cX2_combine 74 = .ok (.iadd, 1) := by decide +kernel
theorem dX2_combine_75 : decode cX2_combine 75 = .ok (.laload, 1) := by decide +kernel
theorem dX2_combine_76 : decode cX2_combine 76 = .ok (.lload 4, 2) := by decide +kernel
theorem dX2_combine_78 : decode cX2_combine 78 = .ok (.invokevirtual 72, 3) := by decide +kernel
theorem dX2_combine_81 : decode cX2_combine 81 = .ok (.aload_n 0, 1) := by decide +kernel
theorem dX2_combine_82 : decode cX2_combine 82 = .ok (.getfield 30, 3) := by decide +kernel
theorem dX2_combine_85 : decode cX2_combine 85 = .ok (.iload 8, 2) := by decide +kernel
theorem dX2_combine_87 : decode cX2_combine 87 = .ok (.laload, 1) := by decide +kernel
theorem dX2_combine_88 : decode cX2_combine 88 = .ok (.lconst 0, 1) := by decide +kernel
theorem dX2_combine_89 : decode cX2_combine 89 = .ok (.lcmp, 1) := by decide +kernel
theorem dX2_combine_90 : decode cX2_combine 90 = .ok (.ifCond .ge 7, 3) := by decide +kernel
theorem dX2_combine_93 : decode cX2_combine 93 = .ok (.iconst 1, 1) := by decide +kernel
theorem dX2_combine_94 : decode cX2_combine 94 = .ok (.goto 4, 3) := by decide +kernel
theorem dX2_combine_97 : decode cX2_combine 97 = .ok (.iconst 0, 1) := by decide +kernel
theorem dX2_combine_98 : decode cX2_combine 98 = .ok (.istore 9, 2) := by decide +kernel
theorem dX2_combine_100 : decode cX2_combine 100 = .ok (.iload 9, 2) := by decide +kernel
theorem dX2_combine_102 : decode cX2_combine 102 = .ok (.ifCond .eq 14, 3) := by decide +kernel
