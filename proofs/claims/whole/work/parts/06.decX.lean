theorem dX0_init_0 : decode cX0_init 0 = .ok (.aload_n 0, 1) := by decide +kernel
theorem dX0_init_1 : decode cX0_init 1 = .ok (.invokespecial 1, 3) := by decide +kernel
theorem dX0_init_4 : decode cX0_init 4 = .ok (.aload_n 0, 1) := by decide +kernel
theorem dX0_init_5 : decode cX0_init 5 = .ok (.iload_n 1, 1) := by decide +kernel
theorem dX0_init_6 : decode cX0_init 6 = .ok (.putfield 7, 3) := by decide +kernel
theorem dX0_init_9 : decode cX0_init 9 = .ok (.aload_n 0, 1) := by decide +kernel
theorem dX0_init_10 : decode cX0_init 10 = .ok (.iload_n 2, 1) := by decide +kernel
theorem dX0_init_11 : decode cX0_init 11 = .ok (.putfield 13, 3) := by decide +kernel
theorem dX0_init_14 : decode cX0_init 14 = .ok (.aload_n 0, 1) := by decide +kernel
theorem dX0_init_15 : decode cX0_init 15 = .ok (.iload_n 3, 1) := by decide +kernel
theorem dX0_init_16 : decode cX0_init 16 = .ok (.putfield 16, 3) := by decide +kernel
theorem dX0_init_19 : decode cX0_init 19 = .ok (.return_, 1) := by decide +kernel
theorem dX0_asksFirst_0 : decode cX0_asksFirst 0 = .ok (.aload_n 0, 1) := by decide +kernel
theorem dX0_asksFirst_1 : decode cX0_asksFirst 1 = .ok (.getfield 7, 3) := by decide +kernel
theorem dX0_asksFirst_4 : decode cX0_asksFirst 4 = .ok (.bipush 8, 2) := by decide +kernel
theorem dX0_asksFirst_6 : decode cX0_asksFirst 6 = .ok (.if_icmp .eq 21, 3) := by decide +kernel
theorem dX0_asksFirst_9 : decode cX0_asksFirst 9 = .ok (.aload_n 0, 1) := by decide +kernel
theorem dX0_asksFirst_10 : decode cX0_asksFirst 10 = .ok (.getfield 7, 3) := by decide +kernel
theorem dX0_asksFirst_13 : decode cX0_asksFirst 13 = .ok (.bipush 9, 2) := by decide +kernel
theorem dX0_asksFirst_15 : decode cX0_asksFirst 15 = .ok (.if_icmp .eq 12, 3) := by decide +kernel
theorem dX0_asksFirst_18 : decode cX0_asksFirst 18 = .ok (.aload_n 0, 1) := by decide +kernel
theorem dX0_asksFirst_19 : decode cX0_asksFirst 19 = .ok (.getfield 7, 3) := by decide +kernel
theorem dX0_asksFirst_22 : decode cX0_asksFirst 22 = .ok (.bipush 10, 2) := by decide +kernel
theorem dX0_asksFirst_24 : decode cX0_asksFirst 24 = .ok (.if_icmp .ne 7, 3) := by decide +kernel
theorem dX0_asksFirst_27 : decode cX0_asksFirst 27 = .ok (.iconst 1, 1) := by decide +kernel
theorem dX0_asksFirst_28 : decode cX0_asksFirst 28 = .ok (.goto 4, 3) := by decide +kernel
theorem dX0_asksFirst_31 : decode cX0_asksFirst 31 = .ok (.iconst 0, 1) := by decide +kernel
theorem dX0_asksFirst_32 : decode cX0_asksFirst 32 = .ok (.ireturn, 1) := by decide +kernel
theorem dX0_asksSecond_0 : decode cX0_asksSecond 0 = .ok (.aload_n 0, 1) := by decide +kernel
theorem dX0_asksSecond_1 : decode cX0_asksSecond 1 = .ok (.getfield 7, 3) := by decide +kernel
theorem dX0_asksSecond_4 : decode cX0_asksSecond 4 = .ok (.bipush 8, 2) := by decide +kernel
theorem dX0_asksSecond_6 : decode cX0_asksSecond 6 = .ok (.if_icmp .eq 12, 3) := by decide +kernel
theorem dX0_asksSecond_9 : decode cX0_asksSecond 9 = .ok (.aload_n 0, 1) := by decide +kernel
theorem dX0_asksSecond_10 : decode cX0_asksSecond 10 = .ok (.getfield 7, 3) := by decide +kernel
theorem dX0_asksSecond_13 : decode cX0_asksSecond 13 = .ok (.bipush 9, 2) := by decide +kernel
theorem dX0_asksSecond_15 : decode cX0_asksSecond 15 = .ok (.if_icmp .ne 7, 3) := by decide +kernel
theorem dX0_asksSecond_18 : decode cX0_asksSecond 18 = .ok (.iconst 1, 1) := by decide +kernel
theorem dX0_asksSecond_19 : decode cX0_asksSecond 19 = .ok (.goto 4, 3) := by decide +kernel
theorem dX0_asksSecond_22 : decode cX0_asksSecond 22 = .ok (.iconst 0, 1) := by decide +kernel
theorem dX0_asksSecond_23 : decode cX0_asksSecond 23 = .ok (.ireturn, 1) := by decide +kernel
theorem dX1_init_0 : decode cX1_init 0 = .ok (.aload_n 0, 1) := by decide +kernel
theorem dX1_init_1 : decode cX1_init 1 = .ok (.invokespecial 3, 3) := by decide +kernel
theorem dX1_init_4 : decode cX1_init 4 = .ok (.aload_n 0, 1) := by decide +kernel
theorem dX1_init_5 : decode cX1_init 5 = .ok (.bipush 40, 2) := by decide +kernel
theorem dX1_init_7 : decode cX1_init 7 = .ok (.anewarray 9, 3) := by decide +kernel
theorem dX1_init_10 : decode cX1_init 10 = .ok (.putfield 11, 3) := by decide +kernel
theorem dX1_init_13 : decode cX1_init 13 = .ok (.aload_n 0, 1) := by decide +kernel
theorem dX1_init_14 : decode cX1_init 14 = .ok (.iconst 0, 1) := by decide +kernel
theorem dX1_init_15 : decode cX1_init 15 = .ok (.putfield 17, 3) := by decide +kernel
theorem dX1_init_18 : decode cX1_init 18 = .ok (.aload_n 0, 1) := by decide +kernel
theorem dX1_init_19 : decode cX1_init 19 = .ok (.sipush 1500, 3) := by decide +kernel
theorem dX1_init_22 : decode cX1_init 22 = .ok (.putfield 21, 3) := by decide +kernel
theorem dX1_init_25 : decode cX1_init 25 = .ok (.aload_n 0, 1) := by decide +kernel
theorem dX1_init_26 : decode cX1_init 26 = .ok (.bipush 40, 2) := by decide +kernel
theorem dX1_init_28 : decode cX1_init 28 = .ok (.newarray .boolean, 2) := by decide +kernel
theorem dX1_init_30 : decode cX1_init 30 = .ok (.putfield 24, 3) := by decide +kernel
theorem dX1_init_33 : decode cX1_init 33 = .ok (.aload_n 0, 1) := by decide +kernel
theorem dX1_init_34 : decode cX1_init 34 = .ok (.bipush 40, 2) := by decide +kernel
theorem dX1_init_36 : decode cX1_init 36 = .ok (.newarray .int, 2) := by decide +kernel
theorem dX1_init_38 : decode cX1_init 38 = .ok (.putfield 28, 3) := by decide +kernel
theorem dX1_init_41 : decode cX1_init 41 = .ok (.aload_n 0, 1) := by decide +kernel
theorem dX1_init_42 : decode cX1_init 42 = .ok (.new 32, 3) := by decide +kernel
theorem dX1_init_45 : decode cX1_init 45 = .ok (.dup, 1) := by decide +kernel
theorem dX1_init_46 : decode cX1_init 46 = .ok (.invokespecial 34, 3) := by decide +kernel
theorem dX1_init_49 : decode cX1_init 49 = .ok (.putfield 35, 3) := by decide +kernel
theorem dX1_init_52 : decode cX1_init 52 = .ok (.aload_n 0, 1) := by decide +kernel
theorem dX1_init_53 : decode cX1_init 53 = .ok (.new 32, 3) := by decide +kernel
theorem dX1_init_56 : decode cX1_init 56 = .ok (.dup, 1) := by decide +kernel
theorem dX1_init_57 : decode cX1_init 57 = .ok (.invokespecial 34, 3) := by decide +kernel
theorem dX1_init_60 : decode cX1_init 60 = .ok (.putfield 39, 3) := by decide +kernel
theorem dX1_init_63 : decode cX1_init 63 = .ok (.return_, 1) := by decide +kernel
theorem dX1_knows_0 : decode cX1_knows 0 = .ok (.iload_n 1, 1) := by decide +kernel
theorem dX1_knows_1 : decode cX1_knows 1 = .ok (.ifCond .lt 21, 3) := by decide +kernel
theorem dX1_knows_4 : decode cX1_knows 4 = .ok (.iload_n 1, 1) := by decide +kernel
theorem dX1_knows_5 : decode cX1_knows 5 = .ok (.aload_n 0, 1) := by decide +kernel
theorem dX1_knows_6 : decode cX1_knows 6 = .ok (.getfield 17, 3) := by decide +kernel
theorem dX1_knows_9 : decode cX1_knows 9 = .ok (.if_icmp .ge 13, 3) := by decide +kernel
theorem dX1_knows_12 : decode cX1_knows 12 = .ok (.iload_n 1, 1) := by decide +kernel
theorem dX1_knows_13 : decode cX1_knows 13 = .ok (.bipush 40, 2) := by decide +kernel
theorem dX1_knows_15 : decode cX1_knows 15 = .ok (.if_icmp .ge 7, 3) := by decide +kernel
theorem dX1_knows_18 : decode cX1_knows 18 = .ok (.iconst 1, 1) := by decide +kernel
theorem dX1_knows_19 : decode cX1_knows 19 = .ok (.goto 4, 3) := by decide +kernel
theorem dX1_knows_22 : decode cX1_knows 22 = .ok (.iconst 0, 1) := by decide +kernel
theorem dX1_knows_23 : decode cX1_knows 23 = .ok (.ireturn, 1) := by decide +kernel
theorem dX1_add_0 : decode cX1_add 0 = .ok (.aload_n 0, 1) := by decide +kernel
theorem dX1_add_1 : decode cX1_add 1 = .ok (.getfield 17, 3) := by decide +kernel
theorem dX1_add_4 : decode cX1_add 4 = .ok (.ifCond .lt 12, 3) := by decide +kernel
theorem dX1_add_7 : decode cX1_add 7 = .ok (.aload_n 0, 1) := by decide +kernel
theorem dX1_add_8 : decode cX1_add 8 = .ok (.getfield 17, 3) := by decide +kernel
theorem dX1_add_11 : decode cX1_add 11 = .ok (.bipush 40, 2) := by decide +kernel
theorem dX1_add_13 : decode cX1_add 13 = .ok (.if_icmp .lt 6, 3) := by decide +kernel
theorem dX1_add_16 : decode cX1_add 16 = .ok (.bipush (-4), 2) := by decide +kernel
theorem dX1_add_18 : decode cX1_add 18 = .ok (.ireturn, 1) := by decide +kernel
theorem dX1_add_19 : decode cX1_add 19 = .ok (.aload_n 0, 1) := by decide +kernel
theorem dX1_add_20 : decode cX1_add 20 = .ok (.getfield 11, 3) := by decide +kernel
theorem dX1_add_23 : decode cX1_add 23 = .ok (.aload_n 0, 1) := by decide +kernel
theorem dX1_add_24 : decode cX1_add 24 = .ok (.getfield 17, 3) := by decide +kernel
theorem dX1_add_27 : decode cX1_add 27 = .ok (.aload_n 1, 1) := by decide +kernel
theorem dX1_add_28 : decode cX1_add 28 = .ok (.aastore, 1) := by decide +kernel
theorem dX1_add_29 : decode cX1_add 29 = .ok (.aload_n 0, 1) := by decide +kernel
theorem dX1_add_30 : decode cX1_add 30 = .ok (.dup, 1) := by decide +kernel
theorem dX1_add_31 : decode cX1_add 31 = .ok (.getfield 17, 3) := by decide +kernel
theorem dX1_add_34 : decode cX1_add 34 = .ok (.iconst 1, 1) := by decide +kernel
theorem dX1_add_35 : decode cX1_add 35 = .ok (.iadd, 1) := by decide +kernel
theorem dX1_add_36 : decode cX1_add 36 = .ok (.putfield 17, 3) := by decide +kernel
theorem dX1_add_39 : decode cX1_add 39 = .ok (.aload_n 0, 1) := by decide +kernel
theorem dX1_add_40 : decode cX1_add 40 = .ok (.getfield 17, 3) := by decide +kernel
theorem dX1_add_43 : decode cX1_add 43 = .ok (.iconst 1, 1) := by decide +kernel
theorem dX1_add_44 : decode cX1_add 44 = .ok (.isub, 1) := by decide +kernel
theorem dX1_add_45 : decode cX1_add 45 = .ok (.ireturn, 1) := by decide +kernel
theorem dX1_pay_0 : decode cX1_pay 0 = .ok (.aload_n 0, 1) := by decide +kernel
theorem dX1_pay_1 : decode cX1_pay 1 = .ok (.getfield 21, 3) := by decide +kernel
theorem dX1_pay_4 : decode cX1_pay 4 = .ok (.ifCond .gt 5, 3) := by decide +kernel
theorem dX1_pay_7 : decode cX1_pay 7 = .ok (.iconst 0, 1) := by decide +kernel
theorem dX1_pay_8 : decode cX1_pay 8 = .ok (.ireturn, 1) := by decide +kernel
theorem dX1_pay_9 : decode cX1_pay 9 = .ok (.aload_n 0, 1) := by decide +kernel
theorem dX1_pay_10 : decode cX1_pay 10 = .ok (.dup, 1) := by decide +kernel
theorem dX1_pay_11 : decode cX1_pay 11 = .ok (.getfield 21, 3) := by decide +kernel
theorem dX1_pay_14 : decode cX1_pay 14 = .ok (.iconst 1, 1) := by decide +kernel
theorem dX1_pay_15 : decode cX1_pay 15 = .ok (.isub, 1) := by decide +kernel
theorem dX1_pay_16 : decode cX1_pay 16 = .ok (.putfield 21, 3) := by decide +kernel
theorem dX1_pay_19 : decode cX1_pay 19 = .ok (.iconst 1, 1) := by decide +kernel
theorem dX1_pay_20 : decode cX1_pay 20 = .ok (.ireturn, 1) := by decide +kernel
theorem dX1_verdict_0 : decode cX1_verdict 0 = .ok (.aload_n 0, 1) := by decide +kernel
theorem dX1_verdict_1 : decode cX1_verdict 1 = .ok (.iload_n 1, 1) := by decide +kernel
theorem dX1_verdict_2 : decode cX1_verdict 2 = .ok (.invokevirtual 42, 3) := by decide +kernel
theorem dX1_verdict_5 : decode cX1_verdict 5 = .ok (.ifCond .ne 5, 3) := by decide +kernel
theorem dX1_verdict_8 : decode cX1_verdict 8 = .ok (.iconst 0, 1) := by decide +kernel
theorem dX1_verdict_9 : decode cX1_verdict 9 = .ok (.ireturn, 1) := by decide +kernel
theorem dX1_verdict_10 : decode cX1_verdict 10 = .ok (.aload_n 0, 1) := by decide +kernel
theorem dX1_verdict_11 : decode cX1_verdict 11 = .ok (.iload_n 1, 1) := by decide +kernel
theorem dX1_verdict_12 : decode cX1_verdict 12 = .ok (.invokevirtual 46, 3) := by decide +kernel
theorem dX1_verdict_15 : decode cX1_verdict 15 = .ok (.iconst 0, 1) := by decide +kernel
theorem dX1_verdict_16 : decode cX1_verdict 16 = .ok (.istore_n 3, 1) := by decide +kernel
theorem dX1_verdict_17 : decode cX1_verdict 17 = .ok (.iload_n 3, 1) := by decide +kernel
theorem dX1_verdict_18 : decode cX1_verdict 18 = .ok (.iload_n 1, 1) := by decide +kernel
theorem dX1_verdict_19 : decode cX1_verdict 19 = .ok (.if_icmp .gt 314, 3) := by decide +kernel
theorem dX1_verdict_22 : decode cX1_verdict 22 = .ok (.aload_n 0, 1) := by decide +kernel
theorem dX1_verdict_23 : decode cX1_verdict 23 = .ok (.getfield 11, 3) := by decide +kernel
theorem dX1_verdict_26 : decode cX1_verdict 26 = .ok (.iload_n 3, 1) := by decide +kernel
theorem dX1_verdict_27 : decode cX1_verdict 27 = .ok (.aaload, 1) := by decide +kernel
theorem dX1_verdict_28 : decode cX1_verdict 28 = .ok (.astore 4, 2) := by decide +kernel
theorem dX1_verdict_30 : decode cX1_verdict 30 = .ok (.aload_n 0, 1) := by decide +kernel
theorem dX1_verdict_31 : decode cX1_verdict 31 = .ok (.getfield 24, 3) := by decide +kernel
theorem dX1_verdict_34 : decode cX1_verdict 34 = .ok (.iload_n 3, 1) := by decide +kernel
theorem dX1_verdict_35 : decode cX1_verdict 35 = .ok (.baload, 1) := by decide +kernel
theorem dX1_verdict_36 : decode cX1_verdict 36 = .ok (.ifCond .eq 291, 3) := by decide +kernel
theorem dX1_verdict_39 : decode cX1_verdict 39 = .ok (.aload 4, 2) := by decide +kernel
theorem dX1_verdict_41 : decode cX1_verdict 41 = .ok (.ifnonnull 6, 3) := by decide +kernel
theorem dX1_verdict_44 : decode cX1_verdict 44 = .ok (.goto 283, 3) := by decide +kernel
theorem dX1_verdict_47 : decode cX1_verdict 47 = .ok (.aload 4, 2) := by decide +kernel
theorem dX1_verdict_49 : decode cX1_verdict 49 = .ok (.getfield 50, 3) := by decide +kernel
theorem dX1_verdict_52 : decode cX1_verdict 52 = .ok (.istore 5, 2) := by decide +kernel
theorem dX1_verdict_54 : decode cX1_verdict 54 = .ok (.aload 4, 2) := by decide +kernel
theorem dX1_verdict_56 : decode cX1_verdict 56 = .ok (.getfield 53, 3) := by decide +kernel
theorem dX1_verdict_59 : decode cX1_verdict 59 = .ok (.tableswitch 256 0 11 #[61, 84, 107, 130, 151, 172, 205, 220, 256, 256, 256, 235], 61) := by decide +kernel
theorem dX1_verdict_120 : decode cX1_verdict 120 = .ok (.aload_n 0, 1) := by decide +kernel
theorem dX1_verdict_121 : decode cX1_verdict 121 = .ok (.getfield 28, 3) := by decide +kernel
theorem dX1_verdict_124 : decode cX1_verdict 124 = .ok (.iload_n 3, 1) := by decide +kernel
theorem dX1_verdict_125 : decode cX1_verdict 125 = .ok (.aload_n 2, 1) := by decide +kernel
theorem dX1_verdict_126 : decode cX1_verdict 126 = .ok (.invokevirtual 56, 3) := by decide +kernel
theorem dX1_verdict_129 : decode cX1_verdict 129 = .ok (.iload 5, 2) := by decide +kernel
theorem dX1_verdict_131 : decode cX1_verdict 131 = .ok (.if_icmp .ge 7, 3) := by decide +kernel
theorem dX1_verdict_134 : decode cX1_verdict 134 = .ok (.iconst 1, 1) := by decide +kernel
theorem dX1_verdict_135 : decode cX1_verdict 135 = .ok (.goto 4, 3) := by decide +kernel
theorem dX1_verdict_138 : decode cX1_verdict 138 = .ok (.iconst 0, 1) := by decide +kernel
theorem dX1_verdict_139 : decode cX1_verdict 139 = .ok (.iastore, 1) := by decide +kernel
theorem dX1_verdict_140 : decode cX1_verdict 140 = .ok (.goto 187, 3) := by decide +kernel
theorem dX1_verdict_143 : decode cX1_verdict 143 = .ok (.aload_n 0, 1) := by decide +kernel
theorem dX1_verdict_144 : decode cX1_verdict 144 = .ok (.getfield 28, 3) := by decide +kernel
theorem dX1_verdict_147 : decode cX1_verdict 147 = .ok (.iload_n 3, 1) := by decide +kernel
theorem dX1_verdict_148 : decode cX1_verdict 148 = .ok (.aload_n 2, 1) := by decide +kernel
theorem dX1_verdict_149 : decode cX1_verdict 149 = .ok (.iload 5, 2) := by decide +kernel
theorem dX1_verdict_151 : decode cX1_verdict 151 = .ok (.invokevirtual 62, 3) := by decide +kernel
theorem dX1_verdict_154 : decode cX1_verdict 154 = .ok (.ifCond .eq 7, 3) := by decide +kernel
theorem dX1_verdict_157 : decode cX1_verdict 157 = .ok (.iconst 1, 1) := by decide +kernel
theorem dX1_verdict_158 : decode cX1_verdict 158 = .ok (.goto 4, 3) := by decide +kernel
theorem dX1_verdict_161 : decode cX1_verdict 161 = .ok (.iconst 0, 1) := by decide +kernel
theorem dX1_verdict_162 : decode cX1_verdict 162 = .ok (.iastore, 1) := by decide +kernel
theorem dX1_verdict_163 : decode cX1_verdict 163 = .ok (.goto 164, 3) := by decide +kernel
theorem dX1_verdict_166 : decode cX1_verdict 166 = .ok (.aload_n 0, 1) := by decide +kernel
theorem dX1_verdict_167 : decode cX1_verdict 167 = .ok (.getfield 28, 3) := by decide +kernel
theorem dX1_verdict_170 : decode cX1_verdict 170 = .ok (.iload_n 3, 1) := by decide +kernel
theorem dX1_verdict_171 : decode cX1_verdict 171 = .ok (.aload_n 2, 1) := by decide +kernel
theorem dX1_verdict_172 : decode cX1_verdict 172 = .ok (.getfield 65, 3) := by decide +kernel
theorem dX1_verdict_175 : decode cX1_verdict 175 = .ok (.iload 5, 2) := by decide +kernel
theorem dX1_verdict_177 : decode cX1_verdict 177 = .ok (.if_icmp .ge 7, 3) := by decide +kernel
theorem dX1_verdict_180 : decode cX1_verdict 180 = .ok (.iconst 1, 1) := by decide +kernel
theorem dX1_verdict_181 : decode cX1_verdict 181 = .ok (.goto 4, 3) := by decide +kernel
theorem dX1_verdict_184 : decode cX1_verdict 184 = .ok (.iconst 0, 1) := by decide +kernel
theorem dX1_verdict_185 : decode cX1_verdict 185 = .ok (.iastore, 1) := by decide +kernel
theorem dX1_verdict_186 : decode cX1_verdict 186 = .ok (.goto 141, 3) := by decide +kernel
theorem dX1_verdict_189 : decode cX1_verdict 189 = .ok (.aload_n 0, 1) := by decide +kernel
theorem dX1_verdict_190 : decode cX1_verdict 190 = .ok (.getfield 28, 3) := by decide +kernel
theorem dX1_verdict_193 : decode cX1_verdict 193 = .ok (.iload_n 3, 1) := by decide +kernel
theorem dX1_verdict_194 : decode cX1_verdict 194 = .ok (.aload_n 2, 1) := by decide +kernel
theorem dX1_verdict_195 : decode cX1_verdict 195 = .ok (.invokevirtual 66, 3) := by decide +kernel
theorem dX1_verdict_198 : decode cX1_verdict 198 = .ok (.ifCond .eq 7, 3) := by decide +kernel
theorem dX1_verdict_201 : decode cX1_verdict 201 = .ok (.iconst 1, 1) := by decide +kernel
theorem dX1_verdict_202 : decode cX1_verdict 202 = .ok (.goto 4, 3) := by decide +kernel
theorem dX1_verdict_205 : decode cX1_verdict 205 = .ok (.iconst 0, 1) := by decide +kernel
theorem dX1_verdict_206 : decode cX1_verdict 206 = .ok (.iastore, 1) := by decide +kernel
theorem dX1_verdict_207 : decode cX1_verdict 207 = .ok (.goto 120, 3) := by decide +kernel
theorem dX1_verdict_210 : decode cX1_verdict 210 = .ok (.aload_n 0, 1) := by decide +kernel
theorem dX1_verdict_211 : decode cX1_verdict 211 = .ok (.getfield 28, 3) := by decide +kernel
theorem dX1_verdict_214 : decode cX1_verdict 214 = .ok (.iload_n 3, 1) := by decide +kernel
theorem dX1_verdict_215 : decode cX1_verdict 215 = .ok (.aload_n 2, 1) := by decide +kernel
theorem dX1_verdict_216 : decode cX1_verdict 216 = .ok (.invokevirtual 70, 3) := by decide +kernel
theorem dX1_verdict_219 : decode cX1_verdict 219 = .ok (.ifCond .eq 7, 3) := by decide +kernel
theorem dX1_verdict_222 : decode cX1_verdict 222 = .ok (.iconst 1, 1) := by decide +kernel
theorem dX1_verdict_223 : decode cX1_verdict 223 = .ok (.goto 4, 3) := by decide +kernel
theorem dX1_verdict_226 : decode cX1_verdict 226 = .ok (.iconst 0, 1) := by decide +kernel
theorem dX1_verdict_227 : decode cX1_verdict 227 = .ok (.iastore, 1) := by decide +kernel
theorem dX1_verdict_228 : decode cX1_verdict 228 = .ok (.goto 99, 3) := by decide +kernel
theorem dX1_verdict_231 : decode cX1_verdict 231 = .ok (.aload_n 0, 1) := by decide +kernel
theorem dX1_verdict_232 : decode cX1_verdict 232 = .ok (.getfield 28, 3) := by decide +kernel
theorem dX1_verdict_235 : decode cX1_verdict 235 = .ok (.iload_n 3, 1) := by decide +kernel
theorem dX1_verdict_236 : decode cX1_verdict 236 = .ok (.iload 5, 2) := by decide +kernel
theorem dX1_verdict_238 : decode cX1_verdict 238 = .ok (.ifCond .ne 7, 3) := by decide +kernel
theorem dX1_verdict_241 : decode cX1_verdict 241 = .ok (.iconst (-1), 1) := by decide +kernel
theorem dX1_verdict_242 : decode cX1_verdict 242 = .ok (.goto 18, 3) := by decide +kernel
theorem dX1_verdict_245 : decode cX1_verdict 245 = .ok (.aload_n 2, 1) := by decide +kernel
theorem dX1_verdict_246 : decode cX1_verdict 246 = .ok (.invokevirtual 56, 3) := by decide +kernel
theorem dX1_verdict_249 : decode cX1_verdict 249 = .ok (.iload 5, 2) := by decide +kernel
theorem dX1_verdict_251 : decode cX1_verdict 251 = .ok (.irem, 1) := by decide +kernel
theorem dX1_verdict_252 : decode cX1_verdict 252 = .ok (.ifCond .ne 7, 3) := by decide +kernel
theorem dX1_verdict_255 : decode cX1_verdict 255 = .ok (.iconst 1, 1) := by decide +kernel
theorem dX1_verdict_256 : decode cX1_verdict 256 = .ok (.goto 4, 3) := by decide +kernel
theorem dX1_verdict_259 : decode cX1_verdict 259 = .ok (.iconst 0, 1) := by decide +kernel
theorem dX1_verdict_260 : decode cX1_verdict 260 = .ok (.iastore, 1) := by decide +kernel
theorem dX1_verdict_261 : decode cX1_verdict 261 = .ok (.goto 66, 3) := by decide +kernel
theorem dX1_verdict_264 : decode cX1_verdict 264 = .ok (.aload_n 0, 1) := by decide +kernel
theorem dX1_verdict_265 : decode cX1_verdict 265 = .ok (.getfield 28, 3) := by decide +kernel
theorem dX1_verdict_268 : decode cX1_verdict 268 = .ok (.iload_n 3, 1) := by decide +kernel
theorem dX1_verdict_269 : decode cX1_verdict 269 = .ok (.aload_n 2, 1) := by decide +kernel
theorem dX1_verdict_270 : decode cX1_verdict 270 = .ok (.iload 5, 2) := by decide +kernel
theorem dX1_verdict_272 : decode cX1_verdict 272 = .ok (.invokevirtual 73, 3) := by decide +kernel
theorem dX1_verdict_275 : decode cX1_verdict 275 = .ok (.iastore, 1) := by decide +kernel
theorem dX1_verdict_276 : decode cX1_verdict 276 = .ok (.goto 51, 3) := by decide +kernel
theorem dX1_verdict_279 : decode cX1_verdict 279 = .ok (.aload_n 0, 1) := by decide +kernel
theorem dX1_verdict_280 : decode cX1_verdict 280 = .ok (.getfield 28, 3) := by decide +kernel
theorem dX1_verdict_283 : decode cX1_verdict 283 = .ok (.iload_n 3, 1) := by decide +kernel
theorem dX1_verdict_284 : decode cX1_verdict 284 = .ok (.aload_n 2, 1) := by decide +kernel
theorem dX1_verdict_285 : decode cX1_verdict 285 = .ok (.iload 5, 2) := by decide +kernel
theorem dX1_verdict_287 : decode cX1_verdict 287 = .ok (.invokevirtual 77, 3) := by decide +kernel
theorem dX1_verdict_290 : decode cX1_verdict 290 = .ok (.iastore, 1) := by decide +kernel
theorem dX1_verdict_291 : decode cX1_verdict 291 = .ok (.goto 36, 3) := by decide +kernel
theorem dX1_verdict_294 : decode cX1_verdict 294 = .ok (.aload_n 0, 1) := by decide +kernel
theorem dX1_verdict_295 : decode cX1_verdict 295 = .ok (.getfield 28, 3) := by decide +kernel
theorem dX1_verdict_298 : decode cX1_verdict 298 = .ok (.iload_n 3, 1) := by decide +kernel
theorem dX1_verdict_299 : decode cX1_verdict 299 = .ok (.aload_n 0, 1) := by decide +kernel
theorem dX1_verdict_300 : decode cX1_verdict 300 = .ok (.iload 5, 2) := by decide +kernel
theorem dX1_verdict_302 : decode cX1_verdict 302 = .ok (.aload 4, 2) := by decide +kernel
theorem dX1_verdict_304 : decode cX1_verdict 304 = .ok (.getfield 80, 3) := by decide +kernel
theorem dX1_verdict_307 : decode cX1_verdict 307 = .ok (.aload_n 2, 1) := by decide +kernel
theorem dX1_verdict_308 : decode cX1_verdict 308 = .ok (.invokevirtual 83, 3) := by decide +kernel
theorem dX1_verdict_311 : decode cX1_verdict 311 = .ok (.iastore, 1) := by decide +kernel
theorem dX1_verdict_312 : decode cX1_verdict 312 = .ok (.goto 15, 3) := by decide +kernel
theorem dX1_verdict_315 : decode cX1_verdict 315 = .ok (.aload_n 0, 1) := by decide +kernel
theorem dX1_verdict_316 : decode cX1_verdict 316 = .ok (.getfield 28, 3) := by decide +kernel
theorem dX1_verdict_319 : decode cX1_verdict 319 = .ok (.iload_n 3, 1) := by decide +kernel
theorem dX1_verdict_320 : decode cX1_verdict 320 = .ok (.aload_n 0, 1) := by decide +kernel
theorem dX1_verdict_321 : decode cX1_verdict 321 = .ok (.aload 4, 2) := by decide +kernel
theorem dX1_verdict_323 : decode cX1_verdict 323 = .ok (.invokevirtual 87, 3) := by decide +kernel
theorem dX1_verdict_326 : decode cX1_verdict 326 = .ok (.iastore, 1) := by decide +kernel
theorem dX1_verdict_327 : decode cX1_verdict 327 = .ok (.iinc 3 1, 3) := by decide +kernel
theorem dX1_verdict_330 : decode cX1_verdict 330 = .ok (.goto (-313), 3) := by decide +kernel
theorem dX1_verdict_333 : decode cX1_verdict 333 = .ok (.aload_n 0, 1) := by decide +kernel
theorem dX1_verdict_334 : decode cX1_verdict 334 = .ok (.getfield 28, 3) := by decide +kernel
theorem dX1_verdict_337 : decode cX1_verdict 337 = .ok (.iload_n 1, 1) := by decide +kernel
theorem dX1_verdict_338 : decode cX1_verdict 338 = .ok (.iaload, 1) := by decide +kernel
theorem dX1_verdict_339 : decode cX1_verdict 339 = .ok (.ireturn, 1) := by decide +kernel
theorem dX1_markWanted_0 : decode cX1_markWanted 0 = .ok (.iconst 0, 1) := by decide +kernel
theorem dX1_markWanted_1 : decode cX1_markWanted 1 = .ok (.istore_n 2, 1) := by decide +kernel
theorem dX1_markWanted_2 : decode cX1_markWanted 2 = .ok (.iload_n 2, 1) := by decide +kernel
theorem dX1_markWanted_3 : decode cX1_markWanted 3 = .ok (.iload_n 1, 1) := by decide +kernel
theorem dX1_markWanted_4 : decode cX1_markWanted 4 = .ok (.if_icmp .ge 16, 3) := by decide +kernel
theorem dX1_markWanted_7 : decode cX1_markWanted 7 = .ok (.aload_n 0, 1) := by decide +kernel
theorem dX1_markWanted_8 : decode cX1_markWanted 8 = .ok (.getfield 24, 3) := by decide +kernel
theorem dX1_markWanted_11 : decode cX1_markWanted 11 = .ok (.iload_n 2, 1) := by decide +kernel
theorem dX1_markWanted_12 : decode cX1_markWanted 12 = .ok (.iconst 0, 1) := by decide +kernel
theorem dX1_markWanted_13 : decode cX1_markWanted 13 = .ok (.bastore, 1) := by decide +kernel
theorem dX1_markWanted_14 : decode cX1_markWanted 14 = .ok (.iinc 2 1, 3) := by decide +kernel
theorem dX1_markWanted_17 : decode cX1_markWanted 17 = .ok (.goto (-15), 3) := by decide +kernel
theorem dX1_markWanted_20 : decode cX1_markWanted 20 = .ok (.aload_n 0, 1) := by decide +kernel
theorem dX1_markWanted_21 : decode cX1_markWanted 21 = .ok (.getfield 24, 3) := by decide +kernel
theorem dX1_markWanted_24 : decode cX1_markWanted 24 = .ok (.iload_n 1, 1) := by decide +kernel
theorem dX1_markWanted_25 : decode cX1_markWanted 25 = .ok (.iconst 1, 1) := by decide +kernel
theorem dX1_markWanted_26 : decode cX1_markWanted 26 = .ok (.bastore, 1) := by decide +kernel
theorem dX1_markWanted_27 : decode cX1_markWanted 27 = .ok (.iload_n 1, 1) := by decide +kernel
theorem dX1_markWanted_28 : decode cX1_markWanted 28 = .ok (.istore_n 2, 1) := by decide +kernel
theorem dX1_markWanted_29 : decode cX1_markWanted 29 = .ok (.iload_n 2, 1) := by decide +kernel
theorem dX1_markWanted_30 : decode cX1_markWanted 30 = .ok (.ifCond .lt 88, 3) := by decide +kernel
theorem dX1_markWanted_33 : decode cX1_markWanted 33 = .ok (.aload_n 0, 1) := by decide +kernel
theorem dX1_markWanted_34 : decode cX1_markWanted 34 = .ok (.getfield 11, 3) := by decide +kernel
theorem dX1_markWanted_37 : decode cX1_markWanted 37 = .ok (.iload_n 2, 1) := by decide +kernel
theorem dX1_markWanted_38 : decode cX1_markWanted 38 = .ok (.aaload, 1) := by decide +kernel
theorem dX1_markWanted_39 : decode cX1_markWanted 39 = .ok (.astore_n 3, 1) := by decide +kernel
theorem dX1_markWanted_40 : decode cX1_markWanted 40 = .ok (.aload_n 0, 1) := by decide +kernel
theorem dX1_markWanted_41 : decode cX1_markWanted 41 = .ok (.getfield 24, 3) := by decide +kernel
theorem dX1_markWanted_44 : decode cX1_markWanted 44 = .ok (.iload_n 2, 1) := by decide +kernel
theorem dX1_markWanted_45 : decode cX1_markWanted 45 = .ok (.baload, 1) := by decide +kernel
theorem dX1_markWanted_46 : decode cX1_markWanted 46 = .ok (.ifCond .eq 66, 3) := by decide +kernel
theorem dX1_markWanted_49 : decode cX1_markWanted 49 = .ok (.aload_n 3, 1) := by decide +kernel
theorem dX1_markWanted_50 : decode cX1_markWanted 50 = .ok (.ifnonnull 6, 3) := by decide +kernel
theorem dX1_markWanted_53 : decode cX1_markWanted 53 = .ok (.goto 59, 3) := by decide +kernel
theorem dX1_markWanted_56 : decode cX1_markWanted 56 = .ok (.aload_n 3, 1) := by decide +kernel
theorem dX1_markWanted_57 : decode cX1_markWanted 57 = .ok (.invokevirtual 91, 3) := by decide +kernel
theorem dX1_markWanted_60 : decode cX1_markWanted 60 = .ok (.ifCond .eq 24, 3) := by decide +kernel
theorem dX1_markWanted_63 : decode cX1_markWanted 63 = .ok (.aload_n 0, 1) := by decide +kernel
theorem dX1_markWanted_64 : decode cX1_markWanted 64 = .ok (.aload_n 3, 1) := by decide +kernel
theorem dX1_markWanted_65 : decode cX1_markWanted 65 = .ok (.getfield 50, 3) := by decide +kernel
theorem dX1_markWanted_68 : decode cX1_markWanted 68 = .ok (.invokevirtual 42, 3) := by decide +kernel
theorem dX1_markWanted_71 : decode cX1_markWanted 71 = .ok (.ifCond .eq 13, 3) := by decide +kernel
theorem dX1_markWanted_74 : decode cX1_markWanted 74 = .ok (.aload_n 0, 1) := by decide +kernel
theorem dX1_markWanted_75 : decode cX1_markWanted 75 = .ok (.getfield 24, 3) := by decide +kernel
theorem dX1_markWanted_78 : decode cX1_markWanted 78 = .ok (.aload_n 3, 1) := by decide +kernel
theorem dX1_markWanted_79 : decode cX1_markWanted 79 = .ok (.getfield 50, 3) := by decide +kernel
theorem dX1_markWanted_82 : decode cX1_markWanted 82 = .ok (.iconst 1, 1) := by decide +kernel
theorem dX1_markWanted_83 : decode cX1_markWanted 83 = .ok (.bastore, 1) := by decide +kernel
theorem dX1_markWanted_84 : decode cX1_markWanted 84 = .ok (.aload_n 3, 1) := by decide +kernel
theorem dX1_markWanted_85 : decode cX1_markWanted 85 = .ok (.invokevirtual 94, 3) := by decide +kernel
theorem dX1_markWanted_88 : decode cX1_markWanted 88 = .ok (.ifCond .eq 24, 3) := by decide +kernel
theorem dX1_markWanted_91 : decode cX1_markWanted 91 = .ok (.aload_n 0, 1) := by decide +kernel
theorem dX1_markWanted_92 : decode cX1_markWanted 92 = .ok (.aload_n 3, 1) := by decide +kernel
theorem dX1_markWanted_93 : decode cX1_markWanted 93 = .ok (.getfield 80, 3) := by decide +kernel
theorem dX1_markWanted_96 : decode cX1_markWanted 96 = .ok (.invokevirtual 42, 3) := by decide +kernel
theorem dX1_markWanted_99 : decode cX1_markWanted 99 = .ok (.ifCond .eq 13, 3) := by decide +kernel
theorem dX1_markWanted_102 : decode cX1_markWanted 102 = .ok (.aload_n 0, 1) := by decide +kernel
theorem dX1_markWanted_103 : decode cX1_markWanted 103 = .ok (.getfield 24, 3) := by decide +kernel
theorem dX1_markWanted_106 : decode cX1_markWanted 106 = .ok (.aload_n 3, 1) := by decide +kernel
theorem dX1_markWanted_107 : decode cX1_markWanted 107 = .ok (.getfield 80, 3) := by decide +kernel
theorem dX1_markWanted_110 : decode cX1_markWanted 110 = .ok (.iconst 1, 1) := by decide +kernel
theorem dX1_markWanted_111 : decode cX1_markWanted 111 = .ok (.bastore, 1) := by decide +kernel
theorem dX1_markWanted_112 : decode cX1_markWanted 112 = .ok (.iinc 2 (-1), 3) := by decide +kernel
theorem dX1_markWanted_115 : decode cX1_markWanted 115 = .ok (.goto (-86), 3) := by decide +kernel
theorem dX1_markWanted_118 : decode cX1_markWanted 118 = .ok (.return_, 1) := by decide +kernel
theorem dX1_combined_0 : decode cX1_combined 0 = .ok (.aload_n 0, 1) := by decide +kernel
theorem dX1_combined_1 : decode cX1_combined 1 = .ok (.aload_n 1, 1) := by decide +kernel
theorem dX1_combined_2 : decode cX1_combined 2 = .ok (.getfield 50, 3) := by decide +kernel
theorem dX1_combined_5 : decode cX1_combined 5 = .ok (.invokevirtual 42, 3) := by decide +kernel
theorem dX1_combined_8 : decode cX1_combined 8 = .ok (.ifCond .eq 15, 3) := by decide +kernel
theorem dX1_combined_11 : decode cX1_combined 11 = .ok (.aload_n 0, 1) := by decide +kernel
theorem dX1_combined_12 : decode cX1_combined 12 = .ok (.getfield 28, 3) := by decide +kernel
theorem dX1_combined_15 : decode cX1_combined 15 = .ok (.aload_n 1, 1) := by decide +kernel
theorem dX1_combined_16 : decode cX1_combined 16 = .ok (.getfield 50, 3) := by decide +kernel
theorem dX1_combined_19 : decode cX1_combined 19 = .ok (.iaload, 1) := by decide +kernel
theorem dX1_combined_20 : decode cX1_combined 20 = .ok (.goto 4, 3) := by decide +kernel
theorem dX1_combined_23 : decode cX1_combined 23 = .ok (.iconst 0, 1) := by decide +kernel
theorem dX1_combined_24 : decode cX1_combined 24 = .ok (.istore_n 2, 1) := by decide +kernel
theorem dX1_combined_25 : decode cX1_combined 25 = .ok (.aload_n 1, 1) := by decide +kernel
theorem dX1_combined_26 : decode cX1_combined 26 = .ok (.getfield 53, 3) := by decide +kernel
theorem dX1_combined_29 : decode cX1_combined 29 = .ok (.bipush 10, 2) := by decide +kernel
theorem dX1_combined_31 : decode cX1_combined 31 = .ok (.if_icmp .ne 22, 3) := by decide +kernel
theorem dX1_combined_34 : decode cX1_combined 34 = .ok (.iload_n 2, 1) := by decide +kernel
theorem dX1_combined_35 : decode cX1_combined 35 = .ok (.iconst 1, 1) := by decide +kernel
theorem dX1_combined_36 : decode cX1_combined 36 = .ok (.if_icmp .ne 7, 3) := by decide +kernel
theorem dX1_combined_39 : decode cX1_combined 39 = .ok (.iconst 0, 1) := by decide +kernel
theorem dX1_combined_40 : decode cX1_combined 40 = .ok (.goto 12, 3) := by decide +kernel
theorem dX1_combined_43 : decode cX1_combined 43 = .ok (.iload_n 2, 1) := by decide +kernel
theorem dX1_combined_44 : decode cX1_combined 44 = .ok (.ifCond .ne 7, 3) := by decide +kernel
theorem dX1_combined_47 : decode cX1_combined 47 = .ok (.iconst 1, 1) := by decide +kernel
theorem dX1_combined_48 : decode cX1_combined 48 = .ok (.goto 4, 3) := by decide +kernel
theorem dX1_combined_51 : decode cX1_combined 51 = .ok (.iload_n 2, 1) := by decide +kernel
theorem dX1_combined_52 : decode cX1_combined 52 = .ok (.ireturn, 1) := by decide +kernel
theorem dX1_combined_53 : decode cX1_combined 53 = .ok (.aload_n 1, 1) := by decide +kernel
theorem dX1_combined_54 : decode cX1_combined 54 = .ok (.getfield 53, 3) := by decide +kernel
theorem dX1_combined_57 : decode cX1_combined 57 = .ok (.bipush 8, 2) := by decide +kernel
theorem dX1_combined_59 : decode cX1_combined 59 = .ok (.if_icmp .ne 7, 3) := by decide +kernel
theorem dX1_combined_62 : decode cX1_combined 62 = .ok (.iconst 1, 1) := by decide +kernel
theorem dX1_combined_63 : decode cX1_combined 63 = .ok (.goto 4, 3) := by decide +kernel
theorem dX1_combined_66 : decode cX1_combined 66 = .ok (.iconst 0, 1) := by decide +kernel
theorem dX1_combined_67 : decode cX1_combined 67 = .ok (.istore_n 3, 1) := by decide +kernel
theorem dX1_combined_68 : decode cX1_combined 68 = .ok (.iload_n 2, 1) := by decide +kernel
theorem dX1_combined_69 : decode cX1_combined 69 = .ok (.iload_n 3, 1) := by decide +kernel
theorem dX1_combined_70 : decode cX1_combined 70 = .ok (.if_icmp .ne 26, 3) := by decide +kernel
theorem dX1_combined_73 : decode cX1_combined 73 = .ok (.aload_n 0, 1) := by decide +kernel
theorem dX1_combined_74 : decode cX1_combined 74 = .ok (.aload_n 1, 1) := by decide +kernel
theorem dX1_combined_75 : decode cX1_combined 75 = .ok (.getfield 80, 3) := by decide +kernel
theorem dX1_combined_78 : decode cX1_combined 78 = .ok (.invokevirtual 42, 3) := by decide +kernel
theorem dX1_combined_81 : decode cX1_combined 81 = .ok (.ifCond .eq 15, 3) := by decide +kernel
theorem dX1_combined_84 : decode cX1_combined 84 = .ok (.aload_n 0, 1) := by decide +kernel
theorem dX1_combined_85 : decode cX1_combined 85 = .ok (.getfield 28, 3) := by decide +kernel
theorem dX1_combined_88 : decode cX1_combined 88 = .ok (.aload_n 1, 1) := by decide +kernel
theorem dX1_combined_89 : decode cX1_combined 89 = .ok (.getfield 80, 3) := by decide +kernel
theorem dX1_combined_92 : decode cX1_combined 92 = .ok (.iaload, 1) := by decide +kernel
theorem dX1_combined_93 : decode cX1_combined 93 = .ok (.goto 4, 3) := by decide +kernel
theorem dX1_combined_96 : decode cX1_combined 96 = .ok (.iload_n 2, 1) := by decide +kernel
theorem dX1_combined_97 : decode cX1_combined 97 = .ok (.ireturn, 1) := by decide +kernel
theorem dX1_goesWithModel_0 : decode cX1_goesWithModel 0 = .ok (.aload_n 0, 1) := by decide +kernel
theorem dX1_goesWithModel_1 : decode cX1_goesWithModel 1 = .ok (.getfield 35, 3) := by decide +kernel
theorem dX1_goesWithModel_4 : decode cX1_goesWithModel 4 = .ok (.iload_n 1, 1) := by decide +kernel
theorem dX1_goesWithModel_5 : decode cX1_goesWithModel 5 = .ok (.iload_n 2, 1) := by decide +kernel
theorem dX1_goesWithModel_6 : decode cX1_goesWithModel 6 = .ok (.invokevirtual 97, 3) := by decide +kernel
theorem dX1_goesWithModel_9 : decode cX1_goesWithModel 9 = .ok (.aload_n 0, 1) := by decide +kernel
theorem dX1_goesWithModel_10 : decode cX1_goesWithModel 10 = .ok (.getfield 39, 3) := by decide +kernel
theorem dX1_goesWithModel_13 : decode cX1_goesWithModel 13 = .ok (.iload_n 1, 1) := by decide +kernel
theorem dX1_goesWithModel_14 : decode cX1_goesWithModel 14 = .ok (.iconst 0, 1) := by decide +kernel
theorem dX1_goesWithModel_15 : decode cX1_goesWithModel 15 = .ok (.invokevirtual 97, 3) := by decide +kernel
theorem dX1_goesWithModel_18 : decode cX1_goesWithModel 18 = .ok (.iconst 0, 1) := by decide +kernel
theorem dX1_goesWithModel_19 : decode cX1_goesWithModel 19 = .ok (.istore 4, 2) := by decide +kernel
theorem dX1_goesWithModel_21 : decode cX1_goesWithModel 21 = .ok (.iload 4, 2) := by decide +kernel
theorem dX1_goesWithModel_23 : decode cX1_goesWithModel 23 = .ok (.aload_n 3, 1) := by decide +kernel
theorem dX1_goesWithModel_24 : decode cX1_goesWithModel 24 = .ok (.invokevirtual 101, 3) := by decide +kernel
theorem dX1_goesWithModel_27 : decode cX1_goesWithModel 27 = .ok (.if_icmp .ge 69, 3) := by decide +kernel
theorem dX1_goesWithModel_30 : decode cX1_goesWithModel 30 = .ok (.aload_n 0, 1) := by decide +kernel
theorem dX1_goesWithModel_31 : decode cX1_goesWithModel 31 = .ok (.getfield 35, 3) := by decide +kernel
theorem dX1_goesWithModel_34 : decode cX1_goesWithModel 34 = .ok (.aload_n 3, 1) := by decide +kernel
theorem dX1_goesWithModel_35 : decode cX1_goesWithModel 35 = .ok (.iload 4, 2) := by decide +kernel
theorem dX1_goesWithModel_37 : decode cX1_goesWithModel 37 = .ok (.invokevirtual 104, 3) := by decide +kernel
theorem dX1_goesWithModel_40 : decode cX1_goesWithModel 40 = .ok (.aload_n 3, 1) := by decide +kernel
theorem dX1_goesWithModel_41 : decode cX1_goesWithModel 41 = .ok (.iload 4, 2) := by decide +kernel
theorem dX1_goesWithModel_43 : decode cX1_goesWithModel 43 = .ok (.invokevirtual 107, 3) := by decide +kernel
theorem dX1_goesWithModel_46 : decode cX1_goesWithModel 46 = .ok (.invokevirtual 110, 3) := by decide +kernel
theorem dX1_goesWithModel_49 : decode cX1_goesWithModel 49 = .ok (.istore 5, 2) := by decide +kernel
theorem dX1_goesWithModel_51 : decode cX1_goesWithModel 51 = .ok (.aload_n 0, 1) := by decide +kernel
theorem dX1_goesWithModel_52 : decode cX1_goesWithModel 52 = .ok (.getfield 35, 3) := by decide +kernel
theorem dX1_goesWithModel_55 : decode cX1_goesWithModel 55 = .ok (.getfield 114, 3) := by decide +kernel
theorem dX1_goesWithModel_58 : decode cX1_goesWithModel 58 = .ok (.ifCond .eq 6, 3) := by decide +kernel
theorem dX1_goesWithModel_61 : decode cX1_goesWithModel 61 = .ok (.bipush (-3), 2) := by decide +kernel
theorem dX1_goesWithModel_63 : decode cX1_goesWithModel 63 = .ok (.ireturn, 1) := by decide +kernel
theorem dX1_goesWithModel_64 : decode cX1_goesWithModel 64 = .ok (.iload 5, 2) := by decide +kernel
theorem dX1_goesWithModel_66 : decode cX1_goesWithModel 66 = .ok (.aload_n 0, 1) := by decide +kernel
theorem dX1_goesWithModel_67 : decode cX1_goesWithModel 67 = .ok (.getfield 39, 3) := by decide +kernel
theorem dX1_goesWithModel_70 : decode cX1_goesWithModel 70 = .ok (.aload_n 3, 1) := by decide +kernel
theorem dX1_goesWithModel_71 : decode cX1_goesWithModel 71 = .ok (.iload 4, 2) := by decide +kernel
theorem dX1_goesWithModel_73 : decode cX1_goesWithModel 73 = .ok (.invokevirtual 104, 3) := by decide +kernel
theorem dX1_goesWithModel_76 : decode cX1_goesWithModel 76 = .ok (.aload_n 3, 1) := by decide +kernel
theorem dX1_goesWithModel_77 : decode cX1_goesWithModel 77 = .ok (.iload 4, 2) := by decide +kernel
theorem dX1_goesWithModel_79 : decode cX1_goesWithModel 79 = .ok (.invokevirtual 107, 3) := by decide +kernel
theorem dX1_goesWithModel_82 : decode cX1_goesWithModel 82 = .ok (.invokevirtual 110, 3) := by decide +kernel
theorem dX1_goesWithModel_85 : decode cX1_goesWithModel 85 = .ok (.if_icmp .eq 5, 3) := by decide +kernel
theorem dX1_goesWithModel_88 : decode cX1_goesWithModel 88 = .ok (.iconst 0, 1) := by decide +kernel
theorem dX1_goesWithModel_89 : decode cX1_goesWithModel 89 = .ok (.ireturn, 1) := by decide +kernel
theorem dX1_goesWithModel_90 : decode cX1_goesWithModel 90 = .ok (.iinc 4 1, 3) := by decide +kernel
theorem dX1_goesWithModel_93 : decode cX1_goesWithModel 93 = .ok (.goto (-72), 3) := by decide +kernel
theorem dX1_goesWithModel_96 : decode cX1_goesWithModel 96 = .ok (.iconst 1, 1) := by decide +kernel
theorem dX1_goesWithModel_97 : decode cX1_goesWithModel 97 = .ok (.ireturn, 1) := by decide +kernel
theorem dX1_answerOf_0 : decode cX1_answerOf 0 = .ok (.aload_n 0, 1) := by decide +kernel
theorem dX1_answerOf_1 : decode cX1_answerOf 1 = .ok (.getfield 35, 3) := by decide +kernel
theorem dX1_answerOf_4 : decode cX1_answerOf 4 = .ok (.iload_n 1, 1) := by decide +kernel
theorem dX1_answerOf_5 : decode cX1_answerOf 5 = .ok (.iload_n 2, 1) := by decide +kernel
theorem dX1_answerOf_6 : decode cX1_answerOf 6 = .ok (.invokevirtual 97, 3) := by decide +kernel
theorem dX1_answerOf_9 : decode cX1_answerOf 9 = .ok (.iconst 0, 1) := by decide +kernel
theorem dX1_answerOf_10 : decode cX1_answerOf 10 = .ok (.istore 5, 2) := by decide +kernel
theorem dX1_answerOf_12 : decode cX1_answerOf 12 = .ok (.iconst 0, 1) := by decide +kernel
theorem dX1_answerOf_13 : decode cX1_answerOf 13 = .ok (.istore 6, 2) := by decide +kernel
theorem dX1_answerOf_15 : decode cX1_answerOf 15 = .ok (.iload 6, 2) := by decide +kernel
theorem dX1_answerOf_17 : decode cX1_answerOf 17 = .ok (.iload 4, 2) := by decide +kernel
theorem dX1_answerOf_19 : decode cX1_answerOf 19 = .ok (.if_icmp .gt 49, 3) := by decide +kernel
theorem dX1_answerOf_22 : decode cX1_answerOf 22 = .ok (.iload 6, 2) := by decide +kernel
theorem dX1_answerOf_24 : decode cX1_answerOf 24 = .ok (.aload_n 3, 1) := by decide +kernel
theorem dX1_answerOf_25 : decode cX1_answerOf 25 = .ok (.invokevirtual 101, 3) := by decide +kernel
theorem dX1_answerOf_28 : decode cX1_answerOf 28 = .ok (.if_icmp .ge 40, 3) := by decide +kernel
theorem dX1_answerOf_31 : decode cX1_answerOf 31 = .ok (.aload_n 0, 1) := by decide +kernel
theorem dX1_answerOf_32 : decode cX1_answerOf 32 = .ok (.getfield 35, 3) := by decide +kernel
theorem dX1_answerOf_35 : decode cX1_answerOf 35 = .ok (.getfield 114, 3) := by decide +kernel
theorem dX1_answerOf_38 : decode cX1_answerOf 38 = .ok (.ifCond .ne 30, 3) := by decide +kernel
theorem dX1_answerOf_41 : decode cX1_answerOf 41 = .ok (.aload_n 0, 1) := by decide +kernel
theorem dX1_answerOf_42 : decode cX1_answerOf 42 = .ok (.getfield 35, 3) := by decide +kernel
theorem dX1_answerOf_45 : decode cX1_answerOf 45 = .ok (.aload_n 3, 1) := by decide +kernel
theorem dX1_answerOf_46 : decode cX1_answerOf 46 = .ok (.iload 6, 2) := by decide +kernel
theorem dX1_answerOf_48 : decode cX1_answerOf 48 = .ok (.invokevirtual 104, 3) := by decide +kernel
theorem dX1_answerOf_51 : decode cX1_answerOf 51 = .ok (.aload_n 3, 1) := by decide +kernel
theorem dX1_answerOf_52 : decode cX1_answerOf 52 = .ok (.iload 6, 2) := by decide +kernel
theorem dX1_answerOf_54 : decode cX1_answerOf 54 = .ok (.invokevirtual 107, 3) := by decide +kernel
theorem dX1_answerOf_57 : decode cX1_answerOf 57 = .ok (.invokevirtual 110, 3) := by decide +kernel
theorem dX1_answerOf_60 : decode cX1_answerOf 60 = .ok (.istore 5, 2) := by decide +kernel
theorem dX1_answerOf_62 : decode cX1_answerOf 62 = .ok (.iinc 6 1, 3) := by decide +kernel
theorem dX1_answerOf_65 : decode cX1_answerOf 65 = .ok (.goto (-50), 3) := by decide +kernel
theorem dX1_answerOf_68 : decode cX1_answerOf 68 = .ok (.aload_n 0, 1) := by decide +kernel
theorem dX1_answerOf_69 : decode cX1_answerOf 69 = .ok (.getfield 35, 3) := by decide +kernel
theorem dX1_answerOf_72 : decode cX1_answerOf 72 = .ok (.getfield 114, 3) := by decide +kernel
theorem dX1_answerOf_75 : decode cX1_answerOf 75 = .ok (.ifCond .eq 9, 3) := by decide +kernel
theorem dX1_answerOf_78 : decode cX1_answerOf 78 = .ok (.ldc2_w 118, 3) := by decide +kernel
theorem dX1_answerOf_81 : decode cX1_answerOf 81 = .ok (.goto 6, 3) := by decide +kernel
theorem dX1_answerOf_84 : decode cX1_answerOf 84 = .ok (.iload 5, 2) := by decide +kernel
theorem dX1_answerOf_86 : decode cX1_answerOf 86 = .ok (.i2l, 1) := by decide +kernel
theorem dX1_answerOf_87 : decode cX1_answerOf 87 = .ok (.lreturn, 1) := by decide +kernel
theorem dX2_init_0 : decode cX2_init 0 = .ok (.aload_n 0, 1) := by decide +kernel
theorem dX2_init_1 : decode cX2_init 1 = .ok (.invokespecial 3, 3) := by decide +kernel
theorem dX2_init_4 : decode cX2_init 4 = .ok (.aload_n 0, 1) := by decide +kernel
theorem dX2_init_5 : decode cX2_init 5 = .ok (.bipush 24, 2) := by decide +kernel
theorem dX2_init_7 : decode cX2_init 7 = .ok (.newarray .int, 2) := by decide +kernel
theorem dX2_init_9 : decode cX2_init 9 = .ok (.putfield 9, 3) := by decide +kernel
theorem dX2_init_12 : decode cX2_init 12 = .ok (.aload_n 0, 1) := by decide +kernel
theorem dX2_init_13 : decode cX2_init 13 = .ok (.iconst 0, 1) := by decide +kernel
theorem dX2_init_14 : decode cX2_init 14 = .ok (.putfield 15, 3) := by decide +kernel
theorem dX2_init_17 : decode cX2_init 17 = .ok (.return_, 1) := by decide +kernel
theorem dX2_add_0 : decode cX2_add 0 = .ok (.aload_n 0, 1) := by decide +kernel
theorem dX2_add_1 : decode cX2_add 1 = .ok (.getfield 15, 3) := by decide +kernel
theorem dX2_add_4 : decode cX2_add 4 = .ok (.ifCond .lt 32, 3) := by decide +kernel
theorem dX2_add_7 : decode cX2_add 7 = .ok (.aload_n 0, 1) := by decide +kernel
theorem dX2_add_8 : decode cX2_add 8 = .ok (.getfield 15, 3) := by decide +kernel
theorem dX2_add_11 : decode cX2_add 11 = .ok (.bipush 24, 2) := by decide +kernel
theorem dX2_add_13 : decode cX2_add 13 = .ok (.if_icmp .ge 23, 3) := by decide +kernel
theorem dX2_add_16 : decode cX2_add 16 = .ok (.aload_n 0, 1) := by decide +kernel
theorem dX2_add_17 : decode cX2_add 17 = .ok (.getfield 9, 3) := by decide +kernel
theorem dX2_add_20 : decode cX2_add 20 = .ok (.aload_n 0, 1) := by decide +kernel
theorem dX2_add_21 : decode cX2_add 21 = .ok (.getfield 15, 3) := by decide +kernel
theorem dX2_add_24 : decode cX2_add 24 = .ok (.iload_n 1, 1) := by decide +kernel
theorem dX2_add_25 : decode cX2_add 25 = .ok (.iastore, 1) := by decide +kernel
theorem dX2_add_26 : decode cX2_add 26 = .ok (.aload_n 0, 1) := by decide +kernel
theorem dX2_add_27 : decode cX2_add 27 = .ok (.dup, 1) := by decide +kernel
theorem dX2_add_28 : decode cX2_add 28 = .ok (.getfield 15, 3) := by decide +kernel
theorem dX2_add_31 : decode cX2_add 31 = .ok (.iconst 1, 1) := by decide +kernel
theorem dX2_add_32 : decode cX2_add 32 = .ok (.iadd, 1) := by decide +kernel
theorem dX2_add_33 : decode cX2_add 33 = .ok (.putfield 15, 3) := by decide +kernel
theorem dX2_add_36 : decode cX2_add 36 = .ok (.return_, 1) := by decide +kernel
theorem dX2_get_0 : decode cX2_get 0 = .ok (.iload_n 1, 1) := by decide +kernel
theorem dX2_get_1 : decode cX2_get 1 = .ok (.ifCond .lt 26, 3) := by decide +kernel
theorem dX2_get_4 : decode cX2_get 4 = .ok (.iload_n 1, 1) := by decide +kernel
theorem dX2_get_5 : decode cX2_get 5 = .ok (.aload_n 0, 1) := by decide +kernel
theorem dX2_get_6 : decode cX2_get 6 = .ok (.getfield 15, 3) := by decide +kernel
theorem dX2_get_9 : decode cX2_get 9 = .ok (.if_icmp .ge 18, 3) := by decide +kernel
theorem dX2_get_12 : decode cX2_get 12 = .ok (.iload_n 1, 1) := by decide +kernel
theorem dX2_get_13 : decode cX2_get 13 = .ok (.bipush 24, 2) := by decide +kernel
theorem dX2_get_15 : decode cX2_get 15 = .ok (.if_icmp .ge 12, 3) := by decide +kernel
theorem dX2_get_18 : decode cX2_get 18 = .ok (.aload_n 0, 1) := by decide +kernel
theorem dX2_get_19 : decode cX2_get 19 = .ok (.getfield 9, 3) := by decide +kernel
theorem dX2_get_22 : decode cX2_get 22 = .ok (.iload_n 1, 1) := by decide +kernel
theorem dX2_get_23 : decode cX2_get 23 = .ok (.iaload, 1) := by decide +kernel
theorem dX2_get_24 : decode cX2_get 24 = .ok (.goto 4, 3) := by decide +kernel
theorem dX2_get_27 : decode cX2_get 27 = .ok (.iconst 0, 1) := by decide +kernel
theorem dX2_get_28 : decode cX2_get 28 = .ok (.ireturn, 1) := by decide +kernel
theorem dX2_acts_0 : decode cX2_acts 0 = .ok (.aload_n 0, 1) := by decide +kernel
theorem dX2_acts_1 : decode cX2_acts 1 = .ok (.getfield 15, 3) := by decide +kernel
theorem dX2_acts_4 : decode cX2_acts 4 = .ok (.iconst 2, 1) := by decide +kernel
theorem dX2_acts_5 : decode cX2_acts 5 = .ok (.idiv, 1) := by decide +kernel
theorem dX2_acts_6 : decode cX2_acts 6 = .ok (.ireturn, 1) := by decide +kernel
theorem dX2_act_0 : decode cX2_act 0 = .ok (.aload_n 0, 1) := by decide +kernel
theorem dX2_act_1 : decode cX2_act 1 = .ok (.iconst 2, 1) := by decide +kernel
theorem dX2_act_2 : decode cX2_act 2 = .ok (.iload_n 1, 1) := by decide +kernel
theorem dX2_act_3 : decode cX2_act 3 = .ok (.imul, 1) := by decide +kernel
theorem dX2_act_4 : decode cX2_act 4 = .ok (.invokevirtual 19, 3) := by decide +kernel
theorem dX2_act_7 : decode cX2_act 7 = .ok (.iconst 4, 1) := by decide +kernel
theorem dX2_act_8 : decode cX2_act 8 = .ok (.invokestatic 23, 3) := by decide +kernel
theorem dX2_act_11 : decode cX2_act 11 = .ok (.ireturn, 1) := by decide +kernel
theorem dX2_number_0 : decode cX2_number 0 = .ok (.aload_n 0, 1) := by decide +kernel
theorem dX2_number_1 : decode cX2_number 1 = .ok (.iconst 2, 1) := by decide +kernel
theorem dX2_number_2 : decode cX2_number 2 = .ok (.iload_n 1, 1) := by decide +kernel
theorem dX2_number_3 : decode cX2_number 3 = .ok (.imul, 1) := by decide +kernel
theorem dX2_number_4 : decode cX2_number 4 = .ok (.iconst 1, 1) := by decide +kernel
theorem dX2_number_5 : decode cX2_number 5 = .ok (.iadd, 1) := by decide +kernel
theorem dX2_number_6 : decode cX2_number 6 = .ok (.invokevirtual 19, 3) := by decide +kernel
theorem dX2_number_9 : decode cX2_number 9 = .ok (.ireturn, 1) := by decide +kernel
theorem dX2_sum_0 : decode cX2_sum 0 = .ok (.iconst 0, 1) := by decide +kernel
theorem dX2_sum_1 : decode cX2_sum 1 = .ok (.istore_n 1, 1) := by decide +kernel
theorem dX2_sum_2 : decode cX2_sum 2 = .ok (.iconst 0, 1) := by decide +kernel
theorem dX2_sum_3 : decode cX2_sum 3 = .ok (.istore_n 2, 1) := by decide +kernel
theorem dX2_sum_4 : decode cX2_sum 4 = .ok (.iload_n 2, 1) := by decide +kernel
theorem dX2_sum_5 : decode cX2_sum 5 = .ok (.aload_n 0, 1) := by decide +kernel
theorem dX2_sum_6 : decode cX2_sum 6 = .ok (.getfield 15, 3) := by decide +kernel
theorem dX2_sum_9 : decode cX2_sum 9 = .ok (.if_icmp .ge 17, 3) := by decide +kernel
theorem dX2_sum_12 : decode cX2_sum 12 = .ok (.iload_n 1, 1) := by decide +kernel
theorem dX2_sum_13 : decode cX2_sum 13 = .ok (.aload_n 0, 1) := by decide +kernel
theorem dX2_sum_14 : decode cX2_sum 14 = .ok (.iload_n 2, 1) := by decide +kernel
theorem dX2_sum_15 : decode cX2_sum 15 = .ok (.invokevirtual 19, 3) := by decide +kernel
theorem dX2_sum_18 : decode cX2_sum 18 = .ok (.iadd, 1) := by decide +kernel
theorem dX2_sum_19 : decode cX2_sum 19 = .ok (.istore_n 1, 1) := by decide +kernel
theorem dX2_sum_20 : decode cX2_sum 20 = .ok (.iinc 2 1, 3) := by decide +kernel
theorem dX2_sum_23 : decode cX2_sum 23 = .ok (.goto (-19), 3) := by decide +kernel
theorem dX2_sum_26 : decode cX2_sum 26 = .ok (.iload_n 1, 1) := by decide +kernel
theorem dX2_sum_27 : decode cX2_sum 27 = .ok (.ireturn, 1) := by decide +kernel
theorem dX2_map_0 : decode cX2_map 0 = .ok (.iconst 0, 1) := by decide +kernel
theorem dX2_map_1 : decode cX2_map 1 = .ok (.iload_n 2, 1) := by decide +kernel
theorem dX2_map_2 : decode cX2_map 2 = .ok (.invokestatic 29, 3) := by decide +kernel
theorem dX2_map_5 : decode cX2_map 5 = .ok (.istore 4, 2) := by decide +kernel
theorem dX2_map_7 : decode cX2_map 7 = .ok (.iload 4, 2) := by decide +kernel
theorem dX2_map_9 : decode cX2_map 9 = .ok (.iload_n 3, 1) := by decide +kernel
theorem dX2_map_10 : decode cX2_map 10 = .ok (.if_icmp .ge 120, 3) := by decide +kernel
theorem dX2_map_13 : decode cX2_map 13 = .ok (.iload 4, 2) := by decide +kernel
theorem dX2_map_15 : decode cX2_map 15 = .ok (.bipush 24, 2) := by decide +kernel
theorem dX2_map_17 : decode cX2_map 17 = .ok (.if_icmp .ge 113, 3) := by decide +kernel
theorem dX2_map_20 : decode cX2_map 20 = .ok (.aload_n 0, 1) := by decide +kernel
theorem dX2_map_21 : decode cX2_map 21 = .ok (.getfield 9, 3) := by decide +kernel
theorem dX2_map_24 : decode cX2_map 24 = .ok (.iload 4, 2) := by decide +kernel
theorem dX2_map_26 : decode cX2_map 26 = .ok (.iaload, 1) := by decide +kernel
theorem dX2_map_27 : decode cX2_map 27 = .ok (.istore 5, 2) := by decide +kernel
theorem dX2_map_29 : decode cX2_map 29 = .ok (.iload_n 1, 1) := by decide +kernel
theorem dX2_map_30 : decode cX2_map 30 = .ok (.tableswitch 87 0 3 #[30, 43, 57, 72], 30) := by decide +kernel
theorem dX2_map_60 : decode cX2_map 60 = .ok (.aload_n 0, 1) := by decide +kernel
theorem dX2_map_61 : decode cX2_map 61 = .ok (.getfield 9, 3) := by decide +kernel
theorem dX2_map_64 : decode cX2_map 64 = .ok (.iload 4, 2) := by decide +kernel
theorem dX2_map_66 : decode cX2_map 66 = .ok (.iload 5, 2) := by decide +kernel
theorem dX2_map_68 : decode cX2_map 68 = .ok (.ineg, 1) := by decide +kernel
theorem dX2_map_69 : decode cX2_map 69 = .ok (.iastore, 1) := by decide +kernel
theorem dX2_map_70 : decode cX2_map 70 = .ok (.goto 54, 3) := by decide +kernel
theorem dX2_map_73 : decode cX2_map 73 = .ok (.aload_n 0, 1) := by decide +kernel
theorem dX2_map_74 : decode cX2_map 74 = .ok (.getfield 9, 3) := by decide +kernel
theorem dX2_map_77 : decode cX2_map 77 = .ok (.iload 4, 2) := by decide +kernel
theorem dX2_map_79 : decode cX2_map 79 = .ok (.iconst 2, 1) := by decide +kernel
theorem dX2_map_80 : decode cX2_map 80 = .ok (.iload 5, 2) := by decide +kernel
theorem dX2_map_82 : decode cX2_map 82 = .ok (.imul, 1) := by decide +kernel
theorem dX2_map_83 : decode cX2_map 83 = .ok (.iastore, 1) := by decide +kernel
theorem dX2_map_84 : decode cX2_map 84 = .ok (.goto 40, 3) := by decide +kernel
theorem dX2_map_87 : decode cX2_map 87 = .ok (.aload_n 0, 1) := by decide +kernel
theorem dX2_map_88 : decode cX2_map 88 = .ok (.getfield 9, 3) := by decide +kernel
theorem dX2_map_91 : decode cX2_map 91 = .ok (.iload 4, 2) := by decide +kernel
theorem dX2_map_93 : decode cX2_map 93 = .ok (.iload 5, 2) := by decide +kernel
theorem dX2_map_95 : decode cX2_map 95 = .ok (.iload 5, 2) := by decide +kernel
theorem dX2_map_97 : decode cX2_map 97 = .ok (.imul, 1) := by decide +kernel
theorem dX2_map_98 : decode cX2_map 98 = .ok (.iastore, 1) := by decide +kernel
theorem dX2_map_99 : decode cX2_map 99 = .ok (.goto 25, 3) := by decide +kernel
theorem dX2_map_102 : decode cX2_map 102 = .ok (.aload_n 0, 1) := by decide +kernel
theorem dX2_map_103 : decode cX2_map 103 = .ok (.getfield 9, 3) := by decide +kernel
theorem dX2_map_106 : decode cX2_map 106 = .ok (.iload 4, 2) := by decide +kernel
theorem dX2_map_108 : decode cX2_map 108 = .ok (.iload 5, 2) := by decide +kernel
theorem dX2_map_110 : decode cX2_map 110 = .ok (.bipush 7, 2) := by decide +kernel
theorem dX2_map_112 : decode cX2_map 112 = .ok (.irem, 1) := by decide +kernel
theorem dX2_map_113 : decode cX2_map 113 = .ok (.iastore, 1) := by decide +kernel
theorem dX2_map_114 : decode cX2_map 114 = .ok (.goto 10, 3) := by decide +kernel
theorem dX2_map_117 : decode cX2_map 117 = .ok (.aload_n 0, 1) := by decide +kernel
theorem dX2_map_118 : decode cX2_map 118 = .ok (.iload 4, 2) := by decide +kernel
theorem dX2_map_120 : decode cX2_map 120 = .ok (.iload_n 2, 1) := by decide +kernel
theorem dX2_map_121 : decode cX2_map 121 = .ok (.invokevirtual 32, 3) := by decide +kernel
theorem dX2_map_124 : decode cX2_map 124 = .ok (.iinc 4 1, 3) := by decide +kernel
theorem dX2_map_127 : decode cX2_map 127 = .ok (.goto (-120), 3) := by decide +kernel
theorem dX2_map_130 : decode cX2_map 130 = .ok (.return_, 1) := by decide +kernel
theorem dX2_sink_0 : decode cX2_sink 0 = .ok (.iload_n 1, 1) := by decide +kernel
theorem dX2_sink_1 : decode cX2_sink 1 = .ok (.istore_n 3, 1) := by decide +kernel
theorem dX2_sink_2 : decode cX2_sink 2 = .ok (.iload_n 3, 1) := by decide +kernel
theorem dX2_sink_3 : decode cX2_sink 3 = .ok (.iload_n 2, 1) := by decide +kernel
theorem dX2_sink_4 : decode cX2_sink 4 = .ok (.if_icmp .le 68, 3) := by decide +kernel
theorem dX2_sink_7 : decode cX2_sink 7 = .ok (.iload_n 3, 1) := by decide +kernel
theorem dX2_sink_8 : decode cX2_sink 8 = .ok (.ifCond .le 64, 3) := by decide +kernel
theorem dX2_sink_11 : decode cX2_sink 11 = .ok (.iload_n 3, 1) := by decide +kernel
theorem dX2_sink_12 : decode cX2_sink 12 = .ok (.bipush 24, 2) := by decide +kernel
theorem dX2_sink_14 : decode cX2_sink 14 = .ok (.if_icmp .ge 58, 3) := by decide +kernel
theorem dX2_sink_17 : decode cX2_sink 17 = .ok (.aload_n 0, 1) := by decide +kernel
theorem dX2_sink_18 : decode cX2_sink 18 = .ok (.getfield 9, 3) := by decide +kernel
theorem dX2_sink_21 : decode cX2_sink 21 = .ok (.iload_n 3, 1) := by decide +kernel
theorem dX2_sink_22 : decode cX2_sink 22 = .ok (.iconst 1, 1) := by decide +kernel
theorem dX2_sink_23 : decode cX2_sink 23 = .ok (.isub, 1) := by decide +kernel
theorem dX2_sink_24 : decode cX2_sink 24 = .ok (.iaload, 1) := by decide +kernel
theorem dX2_sink_25 : decode cX2_sink 25 = .ok (.aload_n 0, 1) := by decide +kernel
theorem dX2_sink_26 : decode cX2_sink 26 = .ok (.getfield 9, 3) := by decide +kernel
theorem dX2_sink_29 : decode cX2_sink 29 = .ok (.iload_n 3, 1) := by decide +kernel
theorem dX2_sink_30 : decode cX2_sink 30 = .ok (.iaload, 1) := by decide +kernel
theorem dX2_sink_31 : decode cX2_sink 31 = .ok (.if_icmp .le 41, 3) := by decide +kernel
theorem dX2_sink_34 : decode cX2_sink 34 = .ok (.aload_n 0, 1) := by decide +kernel
theorem dX2_sink_35 : decode cX2_sink 35 = .ok (.getfield 9, 3) := by decide +kernel
theorem dX2_sink_38 : decode cX2_sink 38 = .ok (.iload_n 3, 1) := by decide +kernel
theorem dX2_sink_39 : decode cX2_sink 39 = .ok (.iconst 1, 1) := by decide +kernel
theorem dX2_sink_40 : decode cX2_sink 40 = .ok (.isub, 1) := by decide +kernel
theorem dX2_sink_41 : decode cX2_sink 41 = .ok (.iaload, 1) := by decide +kernel
theorem dX2_sink_42 : decode cX2_sink 42 = .ok (.istore 4, 2) := by decide +kernel
theorem dX2_sink_44 : decode cX2_sink 44 = .ok (.aload_n 0, 1) := by decide +kernel
theorem dX2_sink_45 : decode cX2_sink 45 = .ok (.getfield 9, 3) := by decide +kernel
theorem dX2_sink_48 : decode cX2_sink 48 = .ok (.iload_n 3, 1) := by decide +kernel
theorem dX2_sink_49 : decode cX2_sink 49 = .ok (.iconst 1, 1) := by decide +kernel
theorem dX2_sink_50 : decode cX2_sink 50 = .ok (.isub, 1) := by decide +kernel
theorem dX2_sink_51 : decode cX2_sink 51 = .ok (.aload_n 0, 1) := by decide +kernel
theorem dX2_sink_52 : decode cX2_sink 52 = .ok (.getfield 9, 3) := by decide +kernel
theorem dX2_sink_55 : decode cX2_sink 55 = .ok (.iload_n 3, 1) := by decide +kernel
theorem dX2_sink_56 : decode cX2_sink 56 = .ok (.iaload, 1) := by decide +kernel
theorem dX2_sink_57 : decode cX2_sink 57 = .ok (.iastore, 1) := by decide +kernel
theorem dX2_sink_58 : decode cX2_sink 58 = .ok (.aload_n 0, 1) := by decide +kernel
theorem dX2_sink_59 : decode cX2_sink 59 = .ok (.getfield 9, 3) := by decide +kernel
theorem dX2_sink_62 : decode cX2_sink 62 = .ok (.iload_n 3, 1) := by decide +kernel
theorem dX2_sink_63 : decode cX2_sink 63 = .ok (.iload 4, 2) := by decide +kernel
theorem dX2_sink_65 : decode cX2_sink 65 = .ok (.iastore, 1) := by decide +kernel
theorem dX2_sink_66 : decode cX2_sink 66 = .ok (.iinc 3 (-1), 3) := by decide +kernel
theorem dX2_sink_69 : decode cX2_sink 69 = .ok (.goto (-67), 3) := by decide +kernel
theorem dX2_sink_72 : decode cX2_sink 72 = .ok (.return_, 1) := by decide +kernel
theorem dX2_allFrom_0 : decode cX2_allFrom 0 = .ok (.iconst 0, 1) := by decide +kernel
theorem dX2_allFrom_1 : decode cX2_allFrom 1 = .ok (.istore_n 2, 1) := by decide +kernel
theorem dX2_allFrom_2 : decode cX2_allFrom 2 = .ok (.iload_n 2, 1) := by decide +kernel
theorem dX2_allFrom_3 : decode cX2_allFrom 3 = .ok (.aload_n 0, 1) := by decide +kernel
theorem dX2_allFrom_4 : decode cX2_allFrom 4 = .ok (.getfield 15, 3) := by decide +kernel
theorem dX2_allFrom_7 : decode cX2_allFrom 7 = .ok (.if_icmp .ge 20, 3) := by decide +kernel
theorem dX2_allFrom_10 : decode cX2_allFrom 10 = .ok (.aload_n 0, 1) := by decide +kernel
theorem dX2_allFrom_11 : decode cX2_allFrom 11 = .ok (.iload_n 2, 1) := by decide +kernel
theorem dX2_allFrom_12 : decode cX2_allFrom 12 = .ok (.invokevirtual 19, 3) := by decide +kernel
theorem dX2_allFrom_15 : decode cX2_allFrom 15 = .ok (.iload_n 1, 1) := by decide +kernel
theorem dX2_allFrom_16 : decode cX2_allFrom 16 = .ok (.if_icmp .ge 5, 3) := by decide +kernel
theorem dX2_allFrom_19 : decode cX2_allFrom 19 = .ok (.iconst 0, 1) := by decide +kernel
theorem dX2_allFrom_20 : decode cX2_allFrom 20 = .ok (.ireturn, 1) := by decide +kernel
theorem dX2_allFrom_21 : decode cX2_allFrom 21 = .ok (.iinc 2 1, 3) := by decide +kernel
theorem dX2_allFrom_24 : decode cX2_allFrom 24 = .ok (.goto (-22), 3) := by decide +kernel
theorem dX2_allFrom_27 : decode cX2_allFrom 27 = .ok (.iconst 1, 1) := by decide +kernel
theorem dX2_allFrom_28 : decode cX2_allFrom 28 = .ok (.ireturn, 1) := by decide +kernel
theorem dX2_rise_0 : decode cX2_rise 0 = .ok (.iconst 1, 1) := by decide +kernel
theorem dX2_rise_1 : decode cX2_rise 1 = .ok (.istore_n 1, 1) := by decide +kernel
theorem dX2_rise_2 : decode cX2_rise 2 = .ok (.iload_n 1, 1) := by decide +kernel
theorem dX2_rise_3 : decode cX2_rise 3 = .ok (.aload_n 0, 1) := by decide +kernel
theorem dX2_rise_4 : decode cX2_rise 4 = .ok (.getfield 15, 3) := by decide +kernel
theorem dX2_rise_7 : decode cX2_rise 7 = .ok (.if_icmp .ge 26, 3) := by decide +kernel
theorem dX2_rise_10 : decode cX2_rise 10 = .ok (.aload_n 0, 1) := by decide +kernel
theorem dX2_rise_11 : decode cX2_rise 11 = .ok (.iload_n 1, 1) := by decide +kernel
theorem dX2_rise_12 : decode cX2_rise 12 = .ok (.iconst 1, 1) := by decide +kernel
theorem dX2_rise_13 : decode cX2_rise 13 = .ok (.isub, 1) := by decide +kernel
theorem dX2_rise_14 : decode cX2_rise 14 = .ok (.invokevirtual 19, 3) := by decide +kernel
theorem dX2_rise_17 : decode cX2_rise 17 = .ok (.aload_n 0, 1) := by decide +kernel
theorem dX2_rise_18 : decode cX2_rise 18 = .ok (.iload_n 1, 1) := by decide +kernel
theorem dX2_rise_19 : decode cX2_rise 19 = .ok (.invokevirtual 19, 3) := by decide +kernel
theorem dX2_rise_22 : decode cX2_rise 22 = .ok (.if_icmp .le 5, 3) := by decide +kernel
theorem dX2_rise_25 : decode cX2_rise 25 = .ok (.iconst 0, 1) := by decide +kernel
theorem dX2_rise_26 : decode cX2_rise 26 = .ok (.ireturn, 1) := by decide +kernel
theorem dX2_rise_27 : decode cX2_rise 27 = .ok (.iinc 1 1, 3) := by decide +kernel
theorem dX2_rise_30 : decode cX2_rise 30 = .ok (.goto (-28), 3) := by decide +kernel
theorem dX2_rise_33 : decode cX2_rise 33 = .ok (.iconst 1, 1) := by decide +kernel
theorem dX2_rise_34 : decode cX2_rise 34 = .ok (.ireturn, 1) := by decide +kernel
theorem dX2_allDiffer_0 : decode cX2_allDiffer 0 = .ok (.iconst 1, 1) := by decide +kernel
theorem dX2_allDiffer_1 : decode cX2_allDiffer 1 = .ok (.istore_n 1, 1) := by decide +kernel
theorem dX2_allDiffer_2 : decode cX2_allDiffer 2 = .ok (.iload_n 1, 1) := by decide +kernel
theorem dX2_allDiffer_3 : decode cX2_allDiffer 3 = .ok (.aload_n 0, 1) := by decide +kernel
theorem dX2_allDiffer_4 : decode cX2_allDiffer 4 = .ok (.getfield 15, 3) := by decide +kernel
theorem dX2_allDiffer_7 : decode cX2_allDiffer 7 = .ok (.if_icmp .ge 37, 3) := by decide +kernel
theorem dX2_allDiffer_10 : decode cX2_allDiffer 10 = .ok (.iconst 0, 1) := by decide +kernel
theorem dX2_allDiffer_11 : decode cX2_allDiffer 11 = .ok (.istore_n 2, 1) := by decide +kernel
theorem dX2_allDiffer_12 : decode cX2_allDiffer 12 = .ok (.iload_n 2, 1) := by decide +kernel
theorem dX2_allDiffer_13 : decode cX2_allDiffer 13 = .ok (.iload_n 1, 1) := by decide +kernel
theorem dX2_allDiffer_14 : decode cX2_allDiffer 14 = .ok (.if_icmp .ge 24, 3) := by decide +kernel
theorem dX2_allDiffer_17 : decode cX2_allDiffer 17 = .ok (.aload_n 0, 1) := by decide +kernel
theorem dX2_allDiffer_18 : decode cX2_allDiffer 18 = .ok (.iload_n 1, 1) := by decide +kernel
theorem dX2_allDiffer_19 : decode cX2_allDiffer 19 = .ok (.invokevirtual 19, 3) := by decide +kernel
theorem dX2_allDiffer_22 : decode cX2_allDiffer 22 = .ok (.aload_n 0, 1) := by decide +kernel
theorem dX2_allDiffer_23 : decode cX2_allDiffer 23 = .ok (.iload_n 2, 1) := by decide +kernel
theorem dX2_allDiffer_24 : decode cX2_allDiffer 24 = .ok (.invokevirtual 19, 3) := by decide +kernel
theorem dX2_allDiffer_27 : decode cX2_allDiffer 27 = .ok (.if_icmp .ne 5, 3) := by decide +kernel
theorem dX2_allDiffer_30 : decode cX2_allDiffer 30 = .ok (.iconst 0, 1) := by decide +kernel
theorem dX2_allDiffer_31 : decode cX2_allDiffer 31 = .ok (.ireturn, 1) := by decide +kernel
theorem dX2_allDiffer_32 : decode cX2_allDiffer 32 = .ok (.iinc 2 1, 3) := by decide +kernel
theorem dX2_allDiffer_35 : decode cX2_allDiffer 35 = .ok (.goto (-23), 3) := by decide +kernel
theorem dX2_allDiffer_38 : decode cX2_allDiffer 38 = .ok (.iinc 1 1, 3) := by decide +kernel
theorem dX2_allDiffer_41 : decode cX2_allDiffer 41 = .ok (.goto (-39), 3) := by decide +kernel
theorem dX2_allDiffer_44 : decode cX2_allDiffer 44 = .ok (.iconst 1, 1) := by decide +kernel
theorem dX2_allDiffer_45 : decode cX2_allDiffer 45 = .ok (.ireturn, 1) := by decide +kernel
theorem dX2_noQuotientSeven_0 : decode cX2_noQuotientSeven 0 = .ok (.iconst 0, 1) := by decide +kernel
theorem dX2_noQuotientSeven_1 : decode cX2_noQuotientSeven 1 = .ok (.istore_n 2, 1) := by decide +kernel
theorem dX2_noQuotientSeven_2 : decode cX2_noQuotientSeven 2 = .ok (.iload_n 2, 1) := by decide +kernel
theorem dX2_noQuotientSeven_3 : decode cX2_noQuotientSeven 3 = .ok (.aload_n 0, 1) := by decide +kernel
theorem dX2_noQuotientSeven_4 : decode cX2_noQuotientSeven 4 = .ok (.getfield 15, 3) := by decide +kernel
theorem dX2_noQuotientSeven_7 : decode cX2_noQuotientSeven 7 = .ok (.if_icmp .ge 35, 3) := by decide +kernel
theorem dX2_noQuotientSeven_10 : decode cX2_noQuotientSeven 10 = .ok (.aload_n 0, 1) := by decide +kernel
theorem dX2_noQuotientSeven_11 : decode cX2_noQuotientSeven 11 = .ok (.iload_n 2, 1) := by decide +kernel
theorem dX2_noQuotientSeven_12 : decode cX2_noQuotientSeven 12 = .ok (.invokevirtual 19, 3) := by decide +kernel
theorem dX2_noQuotientSeven_15 : decode cX2_noQuotientSeven 15 = .ok (.iload_n 1, 1) := by decide +kernel
theorem dX2_noQuotientSeven_16 : decode cX2_noQuotientSeven 16 = .ok (.isub, 1) := by decide +kernel
theorem dX2_noQuotientSeven_17 : decode cX2_noQuotientSeven 17 = .ok (.istore_n 3, 1) := by decide +kernel
theorem dX2_noQuotientSeven_18 : decode cX2_noQuotientSeven 18 = .ok (.iload_n 3, 1) := by decide +kernel
theorem dX2_noQuotientSeven_19 : decode cX2_noQuotientSeven 19 = .ok (.ifCond .ne 5, 3) := by decide +kernel
theorem dX2_noQuotientSeven_22 : decode cX2_noQuotientSeven 22 = .ok (.iconst (-1), 1) := by decide +kernel
theorem dX2_noQuotientSeven_23 : decode cX2_noQuotientSeven 23 = .ok (.ireturn, 1) := by decide +kernel
theorem dX2_noQuotientSeven_24 : decode cX2_noQuotientSeven 24 = .ok (.sipush 1000, 3) := by decide +kernel
theorem dX2_noQuotientSeven_27 : decode cX2_noQuotientSeven 27 = .ok (.iload_n 3, 1) := by decide +kernel
theorem dX2_noQuotientSeven_28 : decode cX2_noQuotientSeven 28 = .ok (.idiv, 1) := by decide +kernel
theorem dX2_noQuotientSeven_29 : decode cX2_noQuotientSeven 29 = .ok (.bipush 7, 2) := by decide +kernel
theorem dX2_noQuotientSeven_31 : decode cX2_noQuotientSeven 31 = .ok (.if_icmp .ne 5, 3) := by decide +kernel
theorem dX2_noQuotientSeven_34 : decode cX2_noQuotientSeven 34 = .ok (.iconst 0, 1) := by decide +kernel
theorem dX2_noQuotientSeven_35 : decode cX2_noQuotientSeven 35 = .ok (.ireturn, 1) := by decide +kernel
theorem dX2_noQuotientSeven_36 : decode cX2_noQuotientSeven 36 = .ok (.iinc 2 1, 3) := by decide +kernel
theorem dX2_noQuotientSeven_39 : decode cX2_noQuotientSeven 39 = .ok (.goto (-37), 3) := by decide +kernel
theorem dX2_noQuotientSeven_42 : decode cX2_noQuotientSeven 42 = .ok (.iconst 1, 1) := by decide +kernel
theorem dX2_noQuotientSeven_43 : decode cX2_noQuotientSeven 43 = .ok (.ireturn, 1) := by decide +kernel
theorem dX2_noneTellsOf_0 : decode cX2_noneTellsOf 0 = .ok (.iconst 0, 1) := by decide +kernel
theorem dX2_noneTellsOf_1 : decode cX2_noneTellsOf 1 = .ok (.istore_n 2, 1) := by decide +kernel
theorem dX2_noneTellsOf_2 : decode cX2_noneTellsOf 2 = .ok (.iload_n 2, 1) := by decide +kernel
theorem dX2_noneTellsOf_3 : decode cX2_noneTellsOf 3 = .ok (.aload_n 0, 1) := by decide +kernel
theorem dX2_noneTellsOf_4 : decode cX2_noneTellsOf 4 = .ok (.getfield 15, 3) := by decide +kernel
theorem dX2_noneTellsOf_7 : decode cX2_noneTellsOf 7 = .ok (.if_icmp .ge 41, 3) := by decide +kernel
theorem dX2_noneTellsOf_10 : decode cX2_noneTellsOf 10 = .ok (.aload_n 0, 1) := by decide +kernel
theorem dX2_noneTellsOf_11 : decode cX2_noneTellsOf 11 = .ok (.iload_n 2, 1) := by decide +kernel
theorem dX2_noneTellsOf_12 : decode cX2_noneTellsOf 12 = .ok (.invokevirtual 19, 3) := by decide +kernel
theorem dX2_noneTellsOf_15 : decode cX2_noneTellsOf 15 = .ok (.istore_n 3, 1) := by decide +kernel
theorem dX2_noneTellsOf_16 : decode cX2_noneTellsOf 16 = .ok (.iload_n 3, 1) := by decide +kernel
theorem dX2_noneTellsOf_17 : decode cX2_noneTellsOf 17 = .ok (.ifCond .lt 11, 3) := by decide +kernel
theorem dX2_noneTellsOf_20 : decode cX2_noneTellsOf 20 = .ok (.iload_n 3, 1) := by decide +kernel
theorem dX2_noneTellsOf_21 : decode cX2_noneTellsOf 21 = .ok (.aload_n 0, 1) := by decide +kernel
theorem dX2_noneTellsOf_22 : decode cX2_noneTellsOf 22 = .ok (.getfield 15, 3) := by decide +kernel
theorem dX2_noneTellsOf_25 : decode cX2_noneTellsOf 25 = .ok (.if_icmp .lt 6, 3) := by decide +kernel
theorem dX2_noneTellsOf_28 : decode cX2_noneTellsOf 28 = .ok (.bipush (-2), 2) := by decide +kernel
theorem dX2_noneTellsOf_30 : decode cX2_noneTellsOf 30 = .ok (.ireturn, 1) := by decide +kernel
theorem dX2_noneTellsOf_31 : decode cX2_noneTellsOf 31 = .ok (.aload_n 0, 1) := by decide +kernel
theorem dX2_noneTellsOf_32 : decode cX2_noneTellsOf 32 = .ok (.iload_n 3, 1) := by decide +kernel
theorem dX2_noneTellsOf_33 : decode cX2_noneTellsOf 33 = .ok (.invokevirtual 19, 3) := by decide +kernel
theorem dX2_noneTellsOf_36 : decode cX2_noneTellsOf 36 = .ok (.iload_n 1, 1) := by decide +kernel
theorem dX2_noneTellsOf_37 : decode cX2_noneTellsOf 37 = .ok (.if_icmp .ne 5, 3) := by decide +kernel
theorem dX2_noneTellsOf_40 : decode cX2_noneTellsOf 40 = .ok (.iconst 0, 1) := by decide +kernel
theorem dX2_noneTellsOf_41 : decode cX2_noneTellsOf 41 = .ok (.ireturn, 1) := by decide +kernel
theorem dX2_noneTellsOf_42 : decode cX2_noneTellsOf 42 = .ok (.iinc 2 1, 3) := by decide +kernel
theorem dX2_noneTellsOf_45 : decode cX2_noneTellsOf 45 = .ok (.goto (-43), 3) := by decide +kernel
theorem dX2_noneTellsOf_48 : decode cX2_noneTellsOf 48 = .ok (.iconst 1, 1) := by decide +kernel
theorem dX2_noneTellsOf_49 : decode cX2_noneTellsOf 49 = .ok (.ireturn, 1) := by decide +kernel
theorem dX3_init_0 : decode cX3_init 0 = .ok (.aload_n 0, 1) := by decide +kernel
theorem dX3_init_1 : decode cX3_init 1 = .ok (.invokespecial 3, 3) := by decide +kernel
theorem dX3_init_4 : decode cX3_init 4 = .ok (.aload_n 0, 1) := by decide +kernel
theorem dX3_init_5 : decode cX3_init 5 = .ok (.iconst 5, 1) := by decide +kernel
theorem dX3_init_6 : decode cX3_init 6 = .ok (.newarray .int, 2) := by decide +kernel
theorem dX3_init_8 : decode cX3_init 8 = .ok (.putfield 9, 3) := by decide +kernel
theorem dX3_init_11 : decode cX3_init 11 = .ok (.aload_n 0, 1) := by decide +kernel
theorem dX3_init_12 : decode cX3_init 12 = .ok (.iconst 0, 1) := by decide +kernel
theorem dX3_init_13 : decode cX3_init 13 = .ok (.putfield 15, 3) := by decide +kernel
theorem dX3_init_16 : decode cX3_init 16 = .ok (.aload_n 0, 1) := by decide +kernel
theorem dX3_init_17 : decode cX3_init 17 = .ok (.iconst 0, 1) := by decide +kernel
theorem dX3_init_18 : decode cX3_init 18 = .ok (.putfield 19, 3) := by decide +kernel
theorem dX3_init_21 : decode cX3_init 21 = .ok (.aload_n 0, 1) := by decide +kernel
theorem dX3_init_22 : decode cX3_init 22 = .ok (.iconst 0, 1) := by decide +kernel
theorem dX3_init_23 : decode cX3_init 23 = .ok (.putfield 22, 3) := by decide +kernel
theorem dX3_init_26 : decode cX3_init 26 = .ok (.aload_n 0, 1) := by decide +kernel
theorem dX3_init_27 : decode cX3_init 27 = .ok (.iconst 0, 1) := by decide +kernel
theorem dX3_init_28 : decode cX3_init 28 = .ok (.putfield 25, 3) := by decide +kernel
theorem dX3_init_31 : decode cX3_init 31 = .ok (.return_, 1) := by decide +kernel
theorem dX3_start_0 : decode cX3_start 0 = .ok (.aload_n 0, 1) := by decide +kernel
theorem dX3_start_1 : decode cX3_start 1 = .ok (.iload_n 1, 1) := by decide +kernel
theorem dX3_start_2 : decode cX3_start 2 = .ok (.putfield 19, 3) := by decide +kernel
theorem dX3_start_5 : decode cX3_start 5 = .ok (.aload_n 0, 1) := by decide +kernel
theorem dX3_start_6 : decode cX3_start 6 = .ok (.iload_n 2, 1) := by decide +kernel
theorem dX3_start_7 : decode cX3_start 7 = .ok (.putfield 22, 3) := by decide +kernel
theorem dX3_start_10 : decode cX3_start 10 = .ok (.aload_n 0, 1) := by decide +kernel
theorem dX3_start_11 : decode cX3_start 11 = .ok (.iconst 0, 1) := by decide +kernel
theorem dX3_start_12 : decode cX3_start 12 = .ok (.putfield 15, 3) := by decide +kernel
theorem dX3_start_15 : decode cX3_start 15 = .ok (.aload_n 0, 1) := by decide +kernel
theorem dX3_start_16 : decode cX3_start 16 = .ok (.iconst 0, 1) := by decide +kernel
theorem dX3_start_17 : decode cX3_start 17 = .ok (.putfield 25, 3) := by decide +kernel
theorem dX3_start_20 : decode cX3_start 20 = .ok (.return_, 1) := by decide +kernel
theorem dX3_answer_0 : decode cX3_answer 0 = .ok (.aload_n 0, 1) := by decide +kernel
theorem dX3_answer_1 : decode cX3_answer 1 = .ok (.getfield 19, 3) := by decide +kernel
theorem dX3_answer_4 : decode cX3_answer 4 = .ok (.ifCond .ne 12, 3) := by decide +kernel
theorem dX3_answer_7 : decode cX3_answer 7 = .ok (.aload_n 0, 1) := by decide +kernel
theorem dX3_answer_8 : decode cX3_answer 8 = .ok (.getfield 15, 3) := by decide +kernel
theorem dX3_answer_11 : decode cX3_answer 11 = .ok (.iconst 1, 1) := by decide +kernel
theorem dX3_answer_12 : decode cX3_answer 12 = .ok (.isub, 1) := by decide +kernel
theorem dX3_answer_13 : decode cX3_answer 13 = .ok (.goto 4, 3) := by decide +kernel
theorem dX3_answer_16 : decode cX3_answer 16 = .ok (.iconst 0, 1) := by decide +kernel
theorem dX3_answer_17 : decode cX3_answer 17 = .ok (.istore_n 3, 1) := by decide +kernel
theorem dX3_answer_18 : decode cX3_answer 18 = .ok (.iload_n 1, 1) := by decide +kernel
theorem dX3_answer_19 : decode cX3_answer 19 = .ok (.tableswitch 164 0 2 #[25, 97, 122], 25) := by decide +kernel
theorem dX3_answer_44 : decode cX3_answer 44 = .ok (.aload_n 0, 1) := by decide +kernel
theorem dX3_answer_45 : decode cX3_answer 45 = .ok (.getfield 15, 3) := by decide +kernel
theorem dX3_answer_48 : decode cX3_answer 48 = .ok (.iconst 5, 1) := by decide +kernel
theorem dX3_answer_49 : decode cX3_answer 49 = .ok (.if_icmp .ge 10, 3) := by decide +kernel
theorem dX3_answer_52 : decode cX3_answer 52 = .ok (.aload_n 0, 1) := by decide +kernel
theorem dX3_answer_53 : decode cX3_answer 53 = .ok (.iload_n 2, 1) := by decide +kernel
theorem dX3_answer_54 : decode cX3_answer 54 = .ok (.invokevirtual 29, 3) := by decide +kernel
theorem dX3_answer_57 : decode cX3_answer 57 = .ok (.iconst 1, 1) := by decide +kernel
theorem dX3_answer_58 : decode cX3_answer 58 = .ok (.ireturn, 1) := by decide +kernel
theorem dX3_answer_59 : decode cX3_answer 59 = .ok (.aload_n 0, 1) := by decide +kernel
theorem dX3_answer_60 : decode cX3_answer 60 = .ok (.aload_n 0, 1) := by decide +kernel
theorem dX3_answer_61 : decode cX3_answer 61 = .ok (.getfield 22, 3) := by decide +kernel
theorem dX3_answer_64 : decode cX3_answer 64 = .ok (.iconst 3, 1) := by decide +kernel
theorem dX3_answer_65 : decode cX3_answer 65 = .ok (.if_icmp .ne 7, 3) := by decide +kernel
theorem dX3_answer_68 : decode cX3_answer 68 = .ok (.iconst 1, 1) := by decide +kernel
theorem dX3_answer_69 : decode cX3_answer 69 = .ok (.goto 4, 3) := by decide +kernel
theorem dX3_answer_72 : decode cX3_answer 72 = .ok (.iconst 0, 1) := by decide +kernel
theorem dX3_answer_73 : decode cX3_answer 73 = .ok (.putfield 25, 3) := by decide +kernel
theorem dX3_answer_76 : decode cX3_answer 76 = .ok (.aload_n 0, 1) := by decide +kernel
theorem dX3_answer_77 : decode cX3_answer 77 = .ok (.getfield 22, 3) := by decide +kernel
theorem dX3_answer_80 : decode cX3_answer 80 = .ok (.iconst 1, 1) := by decide +kernel
theorem dX3_answer_81 : decode cX3_answer 81 = .ok (.if_icmp .ne 33, 3) := by decide +kernel
theorem dX3_answer_84 : decode cX3_answer 84 = .ok (.aload_n 0, 1) := by decide +kernel
theorem dX3_answer_85 : decode cX3_answer 85 = .ok (.aload_n 0, 1) := by decide +kernel
theorem dX3_answer_86 : decode cX3_answer 86 = .ok (.getfield 19, 3) := by decide +kernel
theorem dX3_answer_89 : decode cX3_answer 89 = .ok (.iconst 2, 1) := by decide +kernel
theorem dX3_answer_90 : decode cX3_answer 90 = .ok (.if_icmp .ne 12, 3) := by decide +kernel
theorem dX3_answer_93 : decode cX3_answer 93 = .ok (.aload_n 0, 1) := by decide +kernel
theorem dX3_answer_94 : decode cX3_answer 94 = .ok (.getfield 15, 3) := by decide +kernel
theorem dX3_answer_97 : decode cX3_answer 97 = .ok (.iconst 1, 1) := by decide +kernel
theorem dX3_answer_98 : decode cX3_answer 98 = .ok (.isub, 1) := by decide +kernel
theorem dX3_answer_99 : decode cX3_answer 99 = .ok (.goto 4, 3) := by decide +kernel
theorem dX3_answer_102 : decode cX3_answer 102 = .ok (.iconst 0, 1) := by decide +kernel
theorem dX3_answer_103 : decode cX3_answer 103 = .ok (.invokevirtual 33, 3) := by decide +kernel
theorem dX3_answer_106 : decode cX3_answer 106 = .ok (.pop, 1) := by decide +kernel
theorem dX3_answer_107 : decode cX3_answer 107 = .ok (.aload_n 0, 1) := by decide +kernel
theorem dX3_answer_108 : decode cX3_answer 108 = .ok (.iload_n 2, 1) := by decide +kernel
theorem dX3_answer_109 : decode cX3_answer 109 = .ok (.invokevirtual 29, 3) := by decide +kernel
theorem dX3_answer_112 : decode cX3_answer 112 = .ok (.iconst 1, 1) := by decide +kernel
theorem dX3_answer_113 : decode cX3_answer 113 = .ok (.ireturn, 1) := by decide +kernel
theorem dX3_answer_114 : decode cX3_answer 114 = .ok (.iconst 0, 1) := by decide +kernel
theorem dX3_answer_115 : decode cX3_answer 115 = .ok (.ireturn, 1) := by decide +kernel
theorem dX3_answer_116 : decode cX3_answer 116 = .ok (.aload_n 0, 1) := by decide +kernel
theorem dX3_answer_117 : decode cX3_answer 117 = .ok (.getfield 15, 3) := by decide +kernel
theorem dX3_answer_120 : decode cX3_answer 120 = .ok (.ifCond .ne 15, 3) := by decide +kernel
theorem dX3_answer_123 : decode cX3_answer 123 = .ok (.aload_n 0, 1) := by decide +kernel
theorem dX3_answer_124 : decode cX3_answer 124 = .ok (.getfield 22, 3) := by decide +kernel
theorem dX3_answer_127 : decode cX3_answer 127 = .ok (.iconst 2, 1) := by decide +kernel
theorem dX3_answer_128 : decode cX3_answer 128 = .ok (.if_icmp .ne 7, 3) := by decide +kernel
theorem dX3_answer_131 : decode cX3_answer 131 = .ok (.iconst 0, 1) := by decide +kernel
theorem dX3_answer_132 : decode cX3_answer 132 = .ok (.goto 8, 3) := by decide +kernel
theorem dX3_answer_135 : decode cX3_answer 135 = .ok (.aload_n 0, 1) := by decide +kernel
theorem dX3_answer_136 : decode cX3_answer 136 = .ok (.iload_n 3, 1) := by decide +kernel
theorem dX3_answer_137 : decode cX3_answer 137 = .ok (.invokevirtual 33, 3) := by decide +kernel
theorem dX3_answer_140 : decode cX3_answer 140 = .ok (.ireturn, 1) := by decide +kernel
theorem dX3_answer_141 : decode cX3_answer 141 = .ok (.aload_n 0, 1) := by decide +kernel
theorem dX3_answer_142 : decode cX3_answer 142 = .ok (.getfield 19, 3) := by decide +kernel
theorem dX3_answer_145 : decode cX3_answer 145 = .ok (.iconst 2, 1) := by decide +kernel
theorem dX3_answer_146 : decode cX3_answer 146 = .ok (.if_icmp .ne 9, 3) := by decide +kernel
theorem dX3_answer_149 : decode cX3_answer 149 = .ok (.aload_n 0, 1) := by decide +kernel
theorem dX3_answer_150 : decode cX3_answer 150 = .ok (.iload_n 2, 1) := by decide +kernel
theorem dX3_answer_151 : decode cX3_answer 151 = .ok (.invokevirtual 37, 3) := by decide +kernel
theorem dX3_answer_154 : decode cX3_answer 154 = .ok (.ireturn, 1) := by decide +kernel
theorem dX3_answer_155 : decode cX3_answer 155 = .ok (.iload_n 3, 1) := by decide +kernel
theorem dX3_answer_156 : decode cX3_answer 156 = .ok (.ifCond .lt 25, 3) := by decide +kernel
theorem dX3_answer_159 : decode cX3_answer 159 = .ok (.iload_n 3, 1) := by decide +kernel
theorem dX3_answer_160 : decode cX3_answer 160 = .ok (.aload_n 0, 1) := by decide +kernel
theorem dX3_answer_161 : decode cX3_answer 161 = .ok (.getfield 15, 3) := by decide +kernel
theorem dX3_answer_164 : decode cX3_answer 164 = .ok (.if_icmp .ge 17, 3) := by decide +kernel
theorem dX3_answer_167 : decode cX3_answer 167 = .ok (.iload_n 3, 1) := by decide +kernel
theorem dX3_answer_168 : decode cX3_answer 168 = .ok (.iconst 5, 1) := by decide +kernel
theorem dX3_answer_169 : decode cX3_answer 169 = .ok (.if_icmp .ge 12, 3) := by decide +kernel
theorem dX3_answer_172 : decode cX3_answer 172 = .ok (.aload_n 0, 1) := by decide +kernel
theorem dX3_answer_173 : decode cX3_answer 173 = .ok (.getfield 9, 3) := by decide +kernel
theorem dX3_answer_176 : decode cX3_answer 176 = .ok (.iload_n 3, 1) := by decide +kernel
theorem dX3_answer_177 : decode cX3_answer 177 = .ok (.iaload, 1) := by decide +kernel
theorem dX3_answer_178 : decode cX3_answer 178 = .ok (.goto 4, 3) := by decide +kernel
theorem dX3_answer_181 : decode cX3_answer 181 = .ok (.iconst (-1), 1) := by decide +kernel
theorem dX3_answer_182 : decode cX3_answer 182 = .ok (.ireturn, 1) := by decide +kernel
theorem dX3_answer_183 : decode cX3_answer 183 = .ok (.aload_n 0, 1) := by decide +kernel
theorem dX3_answer_184 : decode cX3_answer 184 = .ok (.getfield 15, 3) := by decide +kernel
theorem dX3_answer_187 : decode cX3_answer 187 = .ok (.ireturn, 1) := by decide +kernel
theorem dX3_put_0 : decode cX3_put 0 = .ok (.aload_n 0, 1) := by decide +kernel
theorem dX3_put_1 : decode cX3_put 1 = .ok (.getfield 15, 3) := by decide +kernel
theorem dX3_put_4 : decode cX3_put 4 = .ok (.ifCond .lt 11, 3) := by decide +kernel
theorem dX3_put_7 : decode cX3_put 7 = .ok (.aload_n 0, 1) := by decide +kernel
theorem dX3_put_8 : decode cX3_put 8 = .ok (.getfield 15, 3) := by decide +kernel
theorem dX3_put_11 : decode cX3_put 11 = .ok (.iconst 5, 1) := by decide +kernel
theorem dX3_put_12 : decode cX3_put 12 = .ok (.if_icmp .lt 4, 3) := by decide +kernel
theorem dX3_put_15 : decode cX3_put 15 = .ok (.return_, 1) := by decide +kernel
theorem dX3_put_16 : decode cX3_put 16 = .ok (.aload_n 0, 1) := by decide +kernel
theorem dX3_put_17 : decode cX3_put 17 = .ok (.getfield 15, 3) := by decide +kernel
theorem dX3_put_20 : decode cX3_put 20 = .ok (.istore_n 2, 1) := by decide +kernel
theorem dX3_put_21 : decode cX3_put 21 = .ok (.aload_n 0, 1) := by decide +kernel
theorem dX3_put_22 : decode cX3_put 22 = .ok (.getfield 19, 3) := by decide +kernel
theorem dX3_put_25 : decode cX3_put 25 = .ok (.iconst 2, 1) := by decide +kernel
theorem dX3_put_26 : decode cX3_put 26 = .ok (.if_icmp .ne 39, 3) := by decide +kernel
theorem dX3_put_29 : decode cX3_put 29 = .ok (.iload_n 2, 1) := by decide +kernel
theorem dX3_put_30 : decode cX3_put 30 = .ok (.ifCond .le 35, 3) := by decide +kernel
theorem dX3_put_33 : decode cX3_put 33 = .ok (.aload_n 0, 1) := by decide +kernel
theorem dX3_put_34 : decode cX3_put 34 = .ok (.getfield 9, 3) := by decide +kernel
theorem dX3_put_37 : decode cX3_put 37 = .ok (.iload_n 2, 1) := by decide +kernel
theorem dX3_put_38 : decode cX3_put 38 = .ok (.iconst 1, 1) := by decide +kernel
theorem dX3_put_39 : decode cX3_put 39 = .ok (.isub, 1) := by decide +kernel
theorem dX3_put_40 : decode cX3_put 40 = .ok (.iaload, 1) := by decide +kernel
theorem dX3_put_41 : decode cX3_put 41 = .ok (.iload_n 1, 1) := by decide +kernel
theorem dX3_put_42 : decode cX3_put 42 = .ok (.if_icmp .le 23, 3) := by decide +kernel
theorem dX3_put_45 : decode cX3_put 45 = .ok (.aload_n 0, 1) := by decide +kernel
theorem dX3_put_46 : decode cX3_put 46 = .ok (.getfield 9, 3) := by decide +kernel
theorem dX3_put_49 : decode cX3_put 49 = .ok (.iload_n 2, 1) := by decide +kernel
theorem dX3_put_50 : decode cX3_put 50 = .ok (.aload_n 0, 1) := by decide +kernel
theorem dX3_put_51 : decode cX3_put 51 = .ok (.getfield 9, 3) := by decide +kernel
theorem dX3_put_54 : decode cX3_put 54 = .ok (.iload_n 2, 1) := by decide +kernel
theorem dX3_put_55 : decode cX3_put 55 = .ok (.iconst 1, 1) := by decide +kernel
theorem dX3_put_56 : decode cX3_put 56 = .ok (.isub, 1) := by decide +kernel
theorem dX3_put_57 : decode cX3_put 57 = .ok (.iaload, 1) := by decide +kernel
theorem dX3_put_58 : decode cX3_put 58 = .ok (.iastore, 1) := by decide +kernel
theorem dX3_put_59 : decode cX3_put 59 = .ok (.iinc 2 (-1), 3) := by decide +kernel
theorem dX3_put_62 : decode cX3_put 62 = .ok (.goto (-41), 3) := by decide +kernel
theorem dX3_put_65 : decode cX3_put 65 = .ok (.aload_n 0, 1) := by decide +kernel
theorem dX3_put_66 : decode cX3_put 66 = .ok (.getfield 9, 3) := by decide +kernel
theorem dX3_put_69 : decode cX3_put 69 = .ok (.iload_n 2, 1) := by decide +kernel
theorem dX3_put_70 : decode cX3_put 70 = .ok (.iload_n 1, 1) := by decide +kernel
theorem dX3_put_71 : decode cX3_put 71 = .ok (.iastore, 1) := by decide +kernel
theorem dX3_put_72 : decode cX3_put 72 = .ok (.aload_n 0, 1) := by decide +kernel
theorem dX3_put_73 : decode cX3_put 73 = .ok (.dup, 1) := by decide +kernel
theorem dX3_put_74 : decode cX3_put 74 = .ok (.getfield 15, 3) := by decide +kernel
theorem dX3_put_77 : decode cX3_put 77 = .ok (.iconst 1, 1) := by decide +kernel
theorem dX3_put_78 : decode cX3_put 78 = .ok (.iadd, 1) := by decide +kernel
theorem dX3_put_79 : decode cX3_put 79 = .ok (.putfield 15, 3) := by decide +kernel
theorem dX3_put_82 : decode cX3_put 82 = .ok (.return_, 1) := by decide +kernel
theorem dX3_take_0 : decode cX3_take 0 = .ok (.iload_n 1, 1) := by decide +kernel
theorem dX3_take_1 : decode cX3_take 1 = .ok (.ifCond .lt 16, 3) := by decide +kernel
theorem dX3_take_4 : decode cX3_take 4 = .ok (.iload_n 1, 1) := by decide +kernel
theorem dX3_take_5 : decode cX3_take 5 = .ok (.aload_n 0, 1) := by decide +kernel
theorem dX3_take_6 : decode cX3_take 6 = .ok (.getfield 15, 3) := by decide +kernel
theorem dX3_take_9 : decode cX3_take 9 = .ok (.if_icmp .ge 8, 3) := by decide +kernel
theorem dX3_take_12 : decode cX3_take 12 = .ok (.iload_n 1, 1) := by decide +kernel
theorem dX3_take_13 : decode cX3_take 13 = .ok (.iconst 5, 1) := by decide +kernel
theorem dX3_take_14 : decode cX3_take 14 = .ok (.if_icmp .lt 5, 3) := by decide +kernel
theorem dX3_take_17 : decode cX3_take 17 = .ok (.iconst (-1), 1) := by decide +kernel
theorem dX3_take_18 : decode cX3_take 18 = .ok (.ireturn, 1) := by decide +kernel
theorem dX3_take_19 : decode cX3_take 19 = .ok (.aload_n 0, 1) := by decide +kernel
theorem dX3_take_20 : decode cX3_take 20 = .ok (.getfield 9, 3) := by decide +kernel
theorem dX3_take_23 : decode cX3_take 23 = .ok (.iload_n 1, 1) := by decide +kernel
theorem dX3_take_24 : decode cX3_take 24 = .ok (.iaload, 1) := by decide +kernel
theorem dX3_take_25 : decode cX3_take 25 = .ok (.istore_n 2, 1) := by decide +kernel
theorem dX3_take_26 : decode cX3_take 26 = .ok (.iload_n 1, 1) := by decide +kernel
theorem dX3_take_27 : decode cX3_take 27 = .ok (.istore_n 3, 1) := by decide +kernel
theorem dX3_take_28 : decode cX3_take 28 = .ok (.iload_n 3, 1) := by decide +kernel
theorem dX3_take_29 : decode cX3_take 29 = .ok (.aload_n 0, 1) := by decide +kernel
theorem dX3_take_30 : decode cX3_take 30 = .ok (.getfield 15, 3) := by decide +kernel
theorem dX3_take_33 : decode cX3_take 33 = .ok (.iconst 1, 1) := by decide +kernel
theorem dX3_take_34 : decode cX3_take 34 = .ok (.isub, 1) := by decide +kernel
theorem dX3_take_35 : decode cX3_take 35 = .ok (.if_icmp .ge 28, 3) := by decide +kernel
theorem dX3_take_38 : decode cX3_take 38 = .ok (.iload_n 3, 1) := by decide +kernel
theorem dX3_take_39 : decode cX3_take 39 = .ok (.iconst 4, 1) := by decide +kernel
theorem dX3_take_40 : decode cX3_take 40 = .ok (.if_icmp .ge 23, 3) := by decide +kernel
theorem dX3_take_43 : decode cX3_take 43 = .ok (.aload_n 0, 1) := by decide +kernel
theorem dX3_take_44 : decode cX3_take 44 = .ok (.getfield 9, 3) := by decide +kernel
theorem dX3_take_47 : decode cX3_take 47 = .ok (.iload_n 3, 1) := by decide +kernel
theorem dX3_take_48 : decode cX3_take 48 = .ok (.aload_n 0, 1) := by decide +kernel
theorem dX3_take_49 : decode cX3_take 49 = .ok (.getfield 9, 3) := by decide +kernel
theorem dX3_take_52 : decode cX3_take 52 = .ok (.iload_n 3, 1) := by decide +kernel
theorem dX3_take_53 : decode cX3_take 53 = .ok (.iconst 1, 1) := by decide +kernel
theorem dX3_take_54 : decode cX3_take 54 = .ok (.iadd, 1) := by decide +kernel
theorem dX3_take_55 : decode cX3_take 55 = .ok (.iaload, 1) := by decide +kernel
theorem dX3_take_56 : decode cX3_take 56 = .ok (.iastore, 1) := by decide +kernel
theorem dX3_take_57 : decode cX3_take 57 = .ok (.iinc 3 1, 3) := by decide +kernel
theorem dX3_take_60 : decode cX3_take 60 = .ok (.goto (-32), 3) := by decide +kernel
theorem dX3_take_63 : decode cX3_take 63 = .ok (.aload_n 0, 1) := by decide +kernel
theorem dX3_take_64 : decode cX3_take 64 = .ok (.dup, 1) := by decide +kernel
theorem dX3_take_65 : decode cX3_take 65 = .ok (.getfield 15, 3) := by decide +kernel
theorem dX3_take_68 : decode cX3_take 68 = .ok (.iconst 1, 1) := by decide +kernel
theorem dX3_take_69 : decode cX3_take 69 = .ok (.isub, 1) := by decide +kernel
theorem dX3_take_70 : decode cX3_take 70 = .ok (.putfield 15, 3) := by decide +kernel
theorem dX3_take_73 : decode cX3_take 73 = .ok (.iload_n 2, 1) := by decide +kernel
theorem dX3_take_74 : decode cX3_take 74 = .ok (.ireturn, 1) := by decide +kernel
theorem dX3_howManyLike_0 : decode cX3_howManyLike 0 = .ok (.iconst 0, 1) := by decide +kernel
theorem dX3_howManyLike_1 : decode cX3_howManyLike 1 = .ok (.istore_n 2, 1) := by decide +kernel
theorem dX3_howManyLike_2 : decode cX3_howManyLike 2 = .ok (.iconst 0, 1) := by decide +kernel
theorem dX3_howManyLike_3 : decode cX3_howManyLike 3 = .ok (.istore_n 3, 1) := by decide +kernel
theorem dX3_howManyLike_4 : decode cX3_howManyLike 4 = .ok (.iload_n 3, 1) := by decide +kernel
theorem dX3_howManyLike_5 : decode cX3_howManyLike 5 = .ok (.aload_n 0, 1) := by decide +kernel
theorem dX3_howManyLike_6 : decode cX3_howManyLike 6 = .ok (.getfield 15, 3) := by decide +kernel
theorem dX3_howManyLike_9 : decode cX3_howManyLike 9 = .ok (.if_icmp .ge 27, 3) := by decide +kernel
theorem dX3_howManyLike_12 : decode cX3_howManyLike 12 = .ok (.iload_n 3, 1) := by decide +kernel
theorem dX3_howManyLike_13 : decode cX3_howManyLike 13 = .ok (.iconst 5, 1) := by decide +kernel
theorem dX3_howManyLike_14 : decode cX3_howManyLike 14 = .ok (.if_icmp .ge 22, 3) := by decide +kernel
theorem dX3_howManyLike_17 : decode cX3_howManyLike 17 = .ok (.aload_n 0, 1) := by decide +kernel
theorem dX3_howManyLike_18 : decode cX3_howManyLike 18 = .ok (.getfield 9, 3) := by decide +kernel
theorem dX3_howManyLike_21 : decode cX3_howManyLike 21 = .ok (.iload_n 3, 1) := by decide +kernel
theorem dX3_howManyLike_22 : decode cX3_howManyLike 22 = .ok (.iaload, 1) := by decide +kernel
theorem dX3_howManyLike_23 : decode cX3_howManyLike 23 = .ok (.iload_n 1, 1) := by decide +kernel
theorem dX3_howManyLike_24 : decode cX3_howManyLike 24 = .ok (.if_icmp .ne 6, 3) := by decide +kernel
theorem dX3_howManyLike_27 : decode cX3_howManyLike 27 = .ok (.iinc 2 1, 3) := by decide +kernel
theorem dX3_howManyLike_30 : decode cX3_howManyLike 30 = .ok (.iinc 3 1, 3) := by decide +kernel
theorem dX3_howManyLike_33 : decode cX3_howManyLike 33 = .ok (.goto (-29), 3) := by decide +kernel
theorem dX3_howManyLike_36 : decode cX3_howManyLike 36 = .ok (.iload_n 2, 1) := by decide +kernel
theorem dX3_howManyLike_37 : decode cX3_howManyLike 37 = .ok (.ireturn, 1) := by decide +kernel
theorem dX4_init_0 : decode cX4_init 0 = .ok (.aload_n 0, 1) := by decide +kernel
theorem dX4_init_1 : decode cX4_init 1 = .ok (.invokespecial 1, 3) := by decide +kernel
theorem dX4_init_4 : decode cX4_init 4 = .ok (.aload_n 0, 1) := by decide +kernel
theorem dX4_init_5 : decode cX4_init 5 = .ok (.iload_n 1, 1) := by decide +kernel
theorem dX4_init_6 : decode cX4_init 6 = .ok (.putfield 7, 3) := by decide +kernel
theorem dX4_init_9 : decode cX4_init 9 = .ok (.aload_n 0, 1) := by decide +kernel
theorem dX4_init_10 : decode cX4_init 10 = .ok (.iload_n 2, 1) := by decide +kernel
theorem dX4_init_11 : decode cX4_init 11 = .ok (.putfield 13, 3) := by decide +kernel
theorem dX4_init_14 : decode cX4_init 14 = .ok (.aload_n 0, 1) := by decide +kernel
theorem dX4_init_15 : decode cX4_init 15 = .ok (.iload_n 3, 1) := by decide +kernel
theorem dX4_init_16 : decode cX4_init 16 = .ok (.putfield 16, 3) := by decide +kernel
theorem dX4_init_19 : decode cX4_init 19 = .ok (.aload_n 0, 1) := by decide +kernel
theorem dX4_init_20 : decode cX4_init 20 = .ok (.iload 4, 2) := by decide +kernel
theorem dX4_init_22 : decode cX4_init 22 = .ok (.putfield 19, 3) := by decide +kernel
theorem dX4_init_25 : decode cX4_init 25 = .ok (.aload_n 0, 1) := by decide +kernel
theorem dX4_init_26 : decode cX4_init 26 = .ok (.iload 5, 2) := by decide +kernel
theorem dX4_init_28 : decode cX4_init 28 = .ok (.putfield 22, 3) := by decide +kernel
theorem dX4_init_31 : decode cX4_init 31 = .ok (.aload_n 0, 1) := by decide +kernel
theorem dX4_init_32 : decode cX4_init 32 = .ok (.iload 6, 2) := by decide +kernel
theorem dX4_init_34 : decode cX4_init 34 = .ok (.putfield 25, 3) := by decide +kernel
theorem dX4_init_37 : decode cX4_init 37 = .ok (.aload_n 0, 1) := by decide +kernel
theorem dX4_init_38 : decode cX4_init 38 = .ok (.iload 7, 2) := by decide +kernel
theorem dX4_init_40 : decode cX4_init 40 = .ok (.putfield 28, 3) := by decide +kernel
theorem dX4_init_43 : decode cX4_init 43 = .ok (.return_, 1) := by decide +kernel
theorem dX5_init_0 : decode cX5_init 0 = .ok (.aload_n 0, 1) := by decide +kernel
theorem dX5_init_1 : decode cX5_init 1 = .ok (.invokespecial 3, 3) := by decide +kernel
theorem dX5_init_4 : decode cX5_init 4 = .ok (.aload_n 0, 1) := by decide +kernel
theorem dX5_init_5 : decode cX5_init 5 = .ok (.bipush 30, 2) := by decide +kernel
theorem dX5_init_7 : decode cX5_init 7 = .ok (.anewarray 9, 3) := by decide +kernel
theorem dX5_init_10 : decode cX5_init 10 = .ok (.putfield 11, 3) := by decide +kernel
theorem dX5_init_13 : decode cX5_init 13 = .ok (.aload_n 0, 1) := by decide +kernel
theorem dX5_init_14 : decode cX5_init 14 = .ok (.iconst 0, 1) := by decide +kernel
theorem dX5_init_15 : decode cX5_init 15 = .ok (.putfield 17, 3) := by decide +kernel
theorem dX5_init_18 : decode cX5_init 18 = .ok (.aload_n 0, 1) := by decide +kernel
theorem dX5_init_19 : decode cX5_init 19 = .ok (.new 21, 3) := by decide +kernel
theorem dX5_init_22 : decode cX5_init 22 = .ok (.dup, 1) := by decide +kernel
theorem dX5_init_23 : decode cX5_init 23 = .ok (.invokespecial 23, 3) := by decide +kernel
theorem dX5_init_26 : decode cX5_init 26 = .ok (.putfield 24, 3) := by decide +kernel
theorem dX5_init_29 : decode cX5_init 29 = .ok (.aload_n 0, 1) := by decide +kernel
theorem dX5_init_30 : decode cX5_init 30 = .ok (.new 28, 3) := by decide +kernel
theorem dX5_init_33 : decode cX5_init 33 = .ok (.dup, 1) := by decide +kernel
theorem dX5_init_34 : decode cX5_init 34 = .ok (.invokespecial 30, 3) := by decide +kernel
theorem dX5_init_37 : decode cX5_init 37 = .ok (.putfield 31, 3) := by decide +kernel
theorem dX5_init_40 : decode cX5_init 40 = .ok (.aload_n 0, 1) := by decide +kernel
theorem dX5_init_41 : decode cX5_init 41 = .ok (.lconst 0, 1) := by decide +kernel
theorem dX5_init_42 : decode cX5_init 42 = .ok (.putfield 35, 3) := by decide +kernel
theorem dX5_init_45 : decode cX5_init 45 = .ok (.aload_n 0, 1) := by decide +kernel
theorem dX5_init_46 : decode cX5_init 46 = .ok (.iconst 0, 1) := by decide +kernel
theorem dX5_init_47 : decode cX5_init 47 = .ok (.putfield 39, 3) := by decide +kernel
theorem dX5_init_50 : decode cX5_init 50 = .ok (.aload_n 0, 1) := by decide +kernel
theorem dX5_init_51 : decode cX5_init 51 = .ok (.aload_n 1, 1) := by decide +kernel
theorem dX5_init_52 : decode cX5_init 52 = .ok (.putfield 42, 3) := by decide +kernel
theorem dX5_init_55 : decode cX5_init 55 = .ok (.return_, 1) := by decide +kernel
theorem dX5_add_0 : decode cX5_add 0 = .ok (.aload_n 0, 1) := by decide +kernel
theorem dX5_add_1 : decode cX5_add 1 = .ok (.getfield 17, 3) := by decide +kernel
theorem dX5_add_4 : decode cX5_add 4 = .ok (.ifCond .lt 21, 3) := by decide +kernel
theorem dX5_add_7 : decode cX5_add 7 = .ok (.aload_n 0, 1) := by decide +kernel
theorem dX5_add_8 : decode cX5_add 8 = .ok (.getfield 17, 3) := by decide +kernel
theorem dX5_add_11 : decode cX5_add 11 = .ok (.bipush 30, 2) := by decide +kernel
theorem dX5_add_13 : decode cX5_add 13 = .ok (.if_icmp .ge 12, 3) := by decide +kernel
theorem dX5_add_16 : decode cX5_add 16 = .ok (.aload_n 1, 1) := by decide +kernel
theorem dX5_add_17 : decode cX5_add 17 = .ok (.getfield 46, 3) := by decide +kernel
theorem dX5_add_20 : decode cX5_add 20 = .ok (.bipush 24, 2) := by decide +kernel
theorem dX5_add_22 : decode cX5_add 22 = .ok (.if_icmp .le 6, 3) := by decide +kernel
theorem dX5_add_25 : decode cX5_add 25 = .ok (.bipush (-4), 2) := by decide +kernel
theorem dX5_add_27 : decode cX5_add 27 = .ok (.ireturn, 1) := by decide +kernel
theorem dX5_add_28 : decode cX5_add 28 = .ok (.aload_n 0, 1) := by decide +kernel
theorem dX5_add_29 : decode cX5_add 29 = .ok (.getfield 11, 3) := by decide +kernel
theorem dX5_add_32 : decode cX5_add 32 = .ok (.aload_n 0, 1) := by decide +kernel
theorem dX5_add_33 : decode cX5_add 33 = .ok (.getfield 17, 3) := by decide +kernel
theorem dX5_add_36 : decode cX5_add 36 = .ok (.aload_n 1, 1) := by decide +kernel
theorem dX5_add_37 : decode cX5_add 37 = .ok (.aastore, 1) := by decide +kernel
theorem dX5_add_38 : decode cX5_add 38 = .ok (.aload_n 0, 1) := by decide +kernel
theorem dX5_add_39 : decode cX5_add 39 = .ok (.dup, 1) := by decide +kernel
theorem dX5_add_40 : decode cX5_add 40 = .ok (.getfield 17, 3) := by decide +kernel
theorem dX5_add_43 : decode cX5_add 43 = .ok (.iconst 1, 1) := by decide +kernel
theorem dX5_add_44 : decode cX5_add 44 = .ok (.iadd, 1) := by decide +kernel
theorem dX5_add_45 : decode cX5_add 45 = .ok (.putfield 17, 3) := by decide +kernel
theorem dX5_add_48 : decode cX5_add 48 = .ok (.aload_n 0, 1) := by decide +kernel
theorem dX5_add_49 : decode cX5_add 49 = .ok (.getfield 17, 3) := by decide +kernel
theorem dX5_add_52 : decode cX5_add 52 = .ok (.iconst 1, 1) := by decide +kernel
theorem dX5_add_53 : decode cX5_add 53 = .ok (.isub, 1) := by decide +kernel
theorem dX5_add_54 : decode cX5_add 54 = .ok (.ireturn, 1) := by decide +kernel
theorem dX5_at_0 : decode cX5_at 0 = .ok (.iload_n 1, 1) := by decide +kernel
theorem dX5_at_1 : decode cX5_at 1 = .ok (.ifCond .lt 26, 3) := by decide +kernel
theorem dX5_at_4 : decode cX5_at 4 = .ok (.iload_n 1, 1) := by decide +kernel
theorem dX5_at_5 : decode cX5_at 5 = .ok (.aload_n 0, 1) := by decide +kernel
theorem dX5_at_6 : decode cX5_at 6 = .ok (.getfield 17, 3) := by decide +kernel
theorem dX5_at_9 : decode cX5_at 9 = .ok (.if_icmp .ge 18, 3) := by decide +kernel
theorem dX5_at_12 : decode cX5_at 12 = .ok (.iload_n 1, 1) := by decide +kernel
theorem dX5_at_13 : decode cX5_at 13 = .ok (.bipush 30, 2) := by decide +kernel
theorem dX5_at_15 : decode cX5_at 15 = .ok (.if_icmp .ge 12, 3) := by decide +kernel
theorem dX5_at_18 : decode cX5_at 18 = .ok (.aload_n 0, 1) := by decide +kernel
theorem dX5_at_19 : decode cX5_at 19 = .ok (.getfield 11, 3) := by decide +kernel
theorem dX5_at_22 : decode cX5_at 22 = .ok (.iload_n 1, 1) := by decide +kernel
theorem dX5_at_23 : decode cX5_at 23 = .ok (.aaload, 1) := by decide +kernel
theorem dX5_at_24 : decode cX5_at 24 = .ok (.goto 4, 3) := by decide +kernel
theorem dX5_at_27 : decode cX5_at 27 = .ok (.aconst_null, 1) := by decide +kernel
theorem dX5_at_28 : decode cX5_at 28 = .ok (.areturn, 1) := by decide +kernel
theorem dX5_begin_0 : decode cX5_begin 0 = .ok (.aload_n 0, 1) := by decide +kernel
theorem dX5_begin_1 : decode cX5_begin 1 = .ok (.getfield 24, 3) := by decide +kernel
theorem dX5_begin_4 : decode cX5_begin 4 = .ok (.iconst 0, 1) := by decide +kernel
theorem dX5_begin_5 : decode cX5_begin 5 = .ok (.invokevirtual 49, 3) := by decide +kernel
theorem dX5_begin_8 : decode cX5_begin 8 = .ok (.aload_n 0, 1) := by decide +kernel
theorem dX5_begin_9 : decode cX5_begin 9 = .ok (.lload_n 1, 1) := by decide +kernel
theorem dX5_begin_10 : decode cX5_begin 10 = .ok (.putfield 35, 3) := by decide +kernel
theorem dX5_begin_13 : decode cX5_begin 13 = .ok (.aload_n 0, 1) := by decide +kernel
theorem dX5_begin_14 : decode cX5_begin 14 = .ok (.iload_n 3, 1) := by decide +kernel
theorem dX5_begin_15 : decode cX5_begin 15 = .ok (.putfield 39, 3) := by decide +kernel
theorem dX5_begin_18 : decode cX5_begin 18 = .ok (.return_, 1) := by decide +kernel
theorem dX5_numberBelow_0 : decode cX5_numberBelow 0 = .ok (.aload_n 0, 1) := by decide +kernel
theorem dX5_numberBelow_1 : decode cX5_numberBelow 1 = .ok (.aload_n 0, 1) := by decide +kernel
theorem dX5_numberBelow_2 : decode cX5_numberBelow 2 = .ok (.getfield 35, 3) := by decide +kernel
theorem dX5_numberBelow_5 : decode cX5_numberBelow 5 = .ok (.invokestatic 53, 3) := by decide +kernel
theorem dX5_numberBelow_8 : decode cX5_numberBelow 8 = .ok (.putfield 35, 3) := by decide +kernel
theorem dX5_numberBelow_11 : decode cX5_numberBelow 11 = .ok (.aload_n 0, 1) := by decide +kernel
theorem dX5_numberBelow_12 : decode cX5_numberBelow 12 = .ok (.getfield 35, 3) := by decide +kernel
theorem dX5_numberBelow_15 : decode cX5_numberBelow 15 = .ok (.iload_n 1, 1) := by decide +kernel
theorem dX5_numberBelow_16 : decode cX5_numberBelow 16 = .ok (.invokestatic 57, 3) := by decide +kernel
theorem dX5_numberBelow_19 : decode cX5_numberBelow 19 = .ok (.ireturn, 1) := by decide +kernel
theorem dX5_grow_0 : decode cX5_grow 0 = .ok (.aload_n 0, 1) := by decide +kernel
theorem dX5_grow_1 : decode cX5_grow 1 = .ok (.iload_n 1, 1) := by decide +kernel
theorem dX5_grow_2 : decode cX5_grow 2 = .ok (.invokevirtual 61, 3) := by decide +kernel
theorem dX5_grow_5 : decode cX5_grow 5 = .ok (.astore 4, 2) := by decide +kernel
theorem dX5_grow_7 : decode cX5_grow 7 = .ok (.aload 4, 2) := by decide +kernel
theorem dX5_grow_9 : decode cX5_grow 9 = .ok (.ifnull 9, 3) := by decide +kernel
theorem dX5_grow_12 : decode cX5_grow 12 = .ok (.iload_n 3, 1) := by decide +kernel
theorem dX5_grow_13 : decode cX5_grow 13 = .ok (.bipush 30, 2) := by decide +kernel
theorem dX5_grow_15 : decode cX5_grow 15 = .ok (.if_icmp .lt 6, 3) := by decide +kernel
theorem dX5_grow_18 : decode cX5_grow 18 = .ok (.bipush (-5), 2) := by decide +kernel
theorem dX5_grow_20 : decode cX5_grow 20 = .ok (.ireturn, 1) := by decide +kernel
theorem dX5_grow_21 : decode cX5_grow 21 = .ok (.aload_n 0, 1) := by decide +kernel
theorem dX5_grow_22 : decode cX5_grow 22 = .ok (.getfield 24, 3) := by decide +kernel
theorem dX5_grow_25 : decode cX5_grow 25 = .ok (.aload 4, 2) := by decide +kernel
theorem dX5_grow_27 : decode cX5_grow 27 = .ok (.getfield 65, 3) := by decide +kernel
theorem dX5_grow_30 : decode cX5_grow 30 = .ok (.iconst 0, 1) := by decide +kernel
theorem dX5_grow_31 : decode cX5_grow 31 = .ok (.iload_n 2, 1) := by decide +kernel
theorem dX5_grow_32 : decode cX5_grow 32 = .ok (.invokevirtual 68, 3) := by decide +kernel
theorem dX5_grow_35 : decode cX5_grow 35 = .ok (.istore 5, 2) := by decide +kernel
theorem dX5_grow_37 : decode cX5_grow 37 = .ok (.iload 5, 2) := by decide +kernel
theorem dX5_grow_39 : decode cX5_grow 39 = .ok (.ifCond .ge 6, 3) := by decide +kernel
theorem dX5_grow_42 : decode cX5_grow 42 = .ok (.bipush (-5), 2) := by decide +kernel
theorem dX5_grow_44 : decode cX5_grow 44 = .ok (.ireturn, 1) := by decide +kernel
theorem dX5_grow_45 : decode cX5_grow 45 = .ok (.iconst 1, 1) := by decide +kernel
theorem dX5_grow_46 : decode cX5_grow 46 = .ok (.istore 6, 2) := by decide +kernel
theorem dX5_grow_48 : decode cX5_grow 48 = .ok (.aload 4, 2) := by decide +kernel
theorem dX5_grow_50 : decode cX5_grow 50 = .ok (.getfield 65, 3) := by decide +kernel
theorem dX5_grow_53 : decode cX5_grow 53 = .ok (.tableswitch 292 0 6 #[43, 104, 118, 169, 231, 264, 278], 43) := by decide +kernel
theorem dX5_grow_96 : decode cX5_grow 96 = .ok (.aload_n 0, 1) := by decide +kernel
theorem dX5_grow_97 : decode cX5_grow 97 = .ok (.getfield 24, 3) := by decide +kernel
theorem dX5_grow_100 : decode cX5_grow 100 = .ok (.iload 5, 2) := by decide +kernel
theorem dX5_grow_102 : decode cX5_grow 102 = .ok (.aload 4, 2) := by decide +kernel
theorem dX5_grow_104 : decode cX5_grow 104 = .ok (.getfield 72, 3) := by decide +kernel
theorem dX5_grow_107 : decode cX5_grow 107 = .ok (.aload_n 0, 1) := by decide +kernel
theorem dX5_grow_108 : decode cX5_grow 108 = .ok (.aload 4, 2) := by decide +kernel
theorem dX5_grow_110 : decode cX5_grow 110 = .ok (.getfield 75, 3) := by decide +kernel
theorem dX5_grow_113 : decode cX5_grow 113 = .ok (.aload 4, 2) := by decide +kernel
theorem dX5_grow_115 : decode cX5_grow 115 = .ok (.getfield 72, 3) := by decide +kernel
theorem dX5_grow_118 : decode cX5_grow 118 = .ok (.isub, 1) := by decide +kernel
theorem dX5_grow_119 : decode cX5_grow 119 = .ok (.iconst 1, 1) := by decide +kernel
theorem dX5_grow_120 : decode cX5_grow 120 = .ok (.iadd, 1) := by decide +kernel
theorem dX5_grow_121 : decode cX5_grow 121 = .ok (.invokevirtual 78, 3) := by decide +kernel
theorem dX5_grow_124 : decode cX5_grow 124 = .ok (.iadd, 1) := by decide +kernel
theorem dX5_grow_125 : decode cX5_grow 125 = .ok (.invokevirtual 82, 3) := by decide +kernel
theorem dX5_grow_128 : decode cX5_grow 128 = .ok (.aload_n 0, 1) := by decide +kernel
theorem dX5_grow_129 : decode cX5_grow 129 = .ok (.getfield 24, 3) := by decide +kernel
theorem dX5_grow_132 : decode cX5_grow 132 = .ok (.iload 5, 2) := by decide +kernel
theorem dX5_grow_134 : decode cX5_grow 134 = .ok (.aload 4, 2) := by decide +kernel
theorem dX5_grow_136 : decode cX5_grow 136 = .ok (.getfield 72, 3) := by decide +kernel
theorem dX5_grow_139 : decode cX5_grow 139 = .ok (.iconst 0, 1) := by decide +kernel
theorem dX5_grow_140 : decode cX5_grow 140 = .ok (.aload 4, 2) := by decide +kernel
theorem dX5_grow_142 : decode cX5_grow 142 = .ok (.getfield 75, 3) := by decide +kernel
theorem dX5_grow_145 : decode cX5_grow 145 = .ok (.invokestatic 86, 3) := by decide +kernel
theorem dX5_grow_148 : decode cX5_grow 148 = .ok (.invokestatic 92, 3) := by decide +kernel
theorem dX5_grow_151 : decode cX5_grow 151 = .ok (.invokevirtual 95, 3) := by decide +kernel
theorem dX5_grow_154 : decode cX5_grow 154 = .ok (.goto 202, 3) := by decide +kernel
theorem dX5_grow_157 : decode cX5_grow 157 = .ok (.aload_n 0, 1) := by decide +kernel
theorem dX5_grow_158 : decode cX5_grow 158 = .ok (.aload 4, 2) := by decide +kernel
theorem dX5_grow_160 : decode cX5_grow 160 = .ok (.iload 5, 2) := by decide +kernel
theorem dX5_grow_162 : decode cX5_grow 162 = .ok (.iload_n 3, 1) := by decide +kernel
theorem dX5_grow_163 : decode cX5_grow 163 = .ok (.invokevirtual 98, 3) := by decide +kernel
theorem dX5_grow_166 : decode cX5_grow 166 = .ok (.istore 6, 2) := by decide +kernel
theorem dX5_grow_168 : decode cX5_grow 168 = .ok (.goto 188, 3) := by decide +kernel
theorem dX5_grow_171 : decode cX5_grow 171 = .ok (.aload_n 0, 1) := by decide +kernel
theorem dX5_grow_172 : decode cX5_grow 172 = .ok (.getfield 24, 3) := by decide +kernel
theorem dX5_grow_175 : decode cX5_grow 175 = .ok (.iload 5, 2) := by decide +kernel
theorem dX5_grow_177 : decode cX5_grow 177 = .ok (.iconst 2, 1) := by decide +kernel
theorem dX5_grow_178 : decode cX5_grow 178 = .ok (.invokevirtual 82, 3) := by decide +kernel
theorem dX5_grow_181 : decode cX5_grow 181 = .ok (.aload_n 0, 1) := by decide +kernel
theorem dX5_grow_182 : decode cX5_grow 182 = .ok (.aload 4, 2) := by decide +kernel
theorem dX5_grow_184 : decode cX5_grow 184 = .ok (.getfield 72, 3) := by decide +kernel
theorem dX5_grow_187 : decode cX5_grow 187 = .ok (.iload 5, 2) := by decide +kernel
theorem dX5_grow_189 : decode cX5_grow 189 = .ok (.iload_n 3, 1) := by decide +kernel
theorem dX5_grow_190 : decode cX5_grow 190 = .ok (.iconst 1, 1) := by decide +kernel
theorem dX5_grow_191 : decode cX5_grow 191 = .ok (.iadd, 1) := by decide +kernel
theorem dX5_grow_192 : decode cX5_grow 192 = .ok (.invokevirtual 102, 3) := by decide +kernel
theorem dX5_grow_195 : decode cX5_grow 195 = .ok (.istore 6, 2) := by decide +kernel
theorem dX5_grow_197 : decode cX5_grow 197 = .ok (.iload 6, 2) := by decide +kernel
theorem dX5_grow_199 : decode cX5_grow 199 = .ok (.iconst 1, 1) := by decide +kernel
theorem dX5_grow_200 : decode cX5_grow 200 = .ok (.if_icmp .ne 156, 3) := by decide +kernel
theorem dX5_grow_203 : decode cX5_grow 203 = .ok (.aload_n 0, 1) := by decide +kernel
theorem dX5_grow_204 : decode cX5_grow 204 = .ok (.aload 4, 2) := by decide +kernel
theorem dX5_grow_206 : decode cX5_grow 206 = .ok (.getfield 75, 3) := by decide +kernel
theorem dX5_grow_209 : decode cX5_grow 209 = .ok (.iload 5, 2) := by decide +kernel
theorem dX5_grow_211 : decode cX5_grow 211 = .ok (.iload_n 3, 1) := by decide +kernel
theorem dX5_grow_212 : decode cX5_grow 212 = .ok (.iconst 1, 1) := by decide +kernel
theorem dX5_grow_213 : decode cX5_grow 213 = .ok (.iadd, 1) := by decide +kernel
theorem dX5_grow_214 : decode cX5_grow 214 = .ok (.invokevirtual 102, 3) := by decide +kernel
theorem dX5_grow_217 : decode cX5_grow 217 = .ok (.istore 6, 2) := by decide +kernel
theorem dX5_grow_219 : decode cX5_grow 219 = .ok (.goto 137, 3) := by decide +kernel
theorem dX5_grow_222 : decode cX5_grow 222 = .ok (.aload_n 0, 1) := by decide +kernel
theorem dX5_grow_223 : decode cX5_grow 223 = .ok (.aload 4, 2) := by decide +kernel
theorem dX5_grow_225 : decode cX5_grow 225 = .ok (.getfield 105, 3) := by decide +kernel
theorem dX5_grow_228 : decode cX5_grow 228 = .ok (.aload 4, 2) := by decide +kernel
theorem dX5_grow_230 : decode cX5_grow 230 = .ok (.getfield 108, 3) := by decide +kernel
theorem dX5_grow_233 : decode cX5_grow 233 = .ok (.iadd, 1) := by decide +kernel
theorem dX5_grow_234 : decode cX5_grow 234 = .ok (.invokevirtual 78, 3) := by decide +kernel
theorem dX5_grow_237 : decode cX5_grow 237 = .ok (.aload 4, 2) := by decide +kernel
theorem dX5_grow_239 : decode cX5_grow 239 = .ok (.getfield 105, 3) := by decide +kernel
theorem dX5_grow_242 : decode cX5_grow 242 = .ok (.if_icmp .ge 7, 3) := by decide +kernel
theorem dX5_grow_245 : decode cX5_grow 245 = .ok (.iconst 1, 1) := by decide +kernel
theorem dX5_grow_246 : decode cX5_grow 246 = .ok (.goto 4, 3) := by decide +kernel
theorem dX5_grow_249 : decode cX5_grow 249 = .ok (.iconst 0, 1) := by decide +kernel
theorem dX5_grow_250 : decode cX5_grow 250 = .ok (.istore 7, 2) := by decide +kernel
theorem dX5_grow_252 : decode cX5_grow 252 = .ok (.aload_n 0, 1) := by decide +kernel
theorem dX5_grow_253 : decode cX5_grow 253 = .ok (.iload 7, 2) := by decide +kernel
theorem dX5_grow_255 : decode cX5_grow 255 = .ok (.ifCond .eq 11, 3) := by decide +kernel
theorem dX5_grow_258 : decode cX5_grow 258 = .ok (.aload 4, 2) := by decide +kernel
theorem dX5_grow_260 : decode cX5_grow 260 = .ok (.getfield 72, 3) := by decide +kernel
theorem dX5_grow_263 : decode cX5_grow 263 = .ok (.goto 8, 3) := by decide +kernel
theorem dX5_grow_266 : decode cX5_grow 266 = .ok (.aload 4, 2) := by decide +kernel
theorem dX5_grow_268 : decode cX5_grow 268 = .ok (.getfield 75, 3) := by decide +kernel
theorem dX5_grow_271 : decode cX5_grow 271 = .ok (.iload 5, 2) := by decide +kernel
theorem dX5_grow_273 : decode cX5_grow 273 = .ok (.iload_n 3, 1) := by decide +kernel
theorem dX5_grow_274 : decode cX5_grow 274 = .ok (.iconst 1, 1) := by decide +kernel
theorem dX5_grow_275 : decode cX5_grow 275 = .ok (.iadd, 1) := by decide +kernel
theorem dX5_grow_276 : decode cX5_grow 276 = .ok (.invokevirtual 102, 3) := by decide +kernel
theorem dX5_grow_279 : decode cX5_grow 279 = .ok (.istore 6, 2) := by decide +kernel
theorem dX5_grow_281 : decode cX5_grow 281 = .ok (.goto 75, 3) := by decide +kernel
theorem dX5_grow_284 : decode cX5_grow 284 = .ok (.aload_n 0, 1) := by decide +kernel
theorem dX5_grow_285 : decode cX5_grow 285 = .ok (.getfield 24, 3) := by decide +kernel
theorem dX5_grow_288 : decode cX5_grow 288 = .ok (.iload 5, 2) := by decide +kernel
theorem dX5_grow_290 : decode cX5_grow 290 = .ok (.aload 4, 2) := by decide +kernel
theorem dX5_grow_292 : decode cX5_grow 292 = .ok (.getfield 75, 3) := by decide +kernel
theorem dX5_grow_295 : decode cX5_grow 295 = .ok (.invokevirtual 82, 3) := by decide +kernel
theorem dX5_grow_298 : decode cX5_grow 298 = .ok (.aload_n 0, 1) := by decide +kernel
theorem dX5_grow_299 : decode cX5_grow 299 = .ok (.aload 4, 2) := by decide +kernel
theorem dX5_grow_301 : decode cX5_grow 301 = .ok (.getfield 72, 3) := by decide +kernel
theorem dX5_grow_304 : decode cX5_grow 304 = .ok (.iload 5, 2) := by decide +kernel
theorem dX5_grow_306 : decode cX5_grow 306 = .ok (.iload_n 3, 1) := by decide +kernel
theorem dX5_grow_307 : decode cX5_grow 307 = .ok (.iconst 1, 1) := by decide +kernel
theorem dX5_grow_308 : decode cX5_grow 308 = .ok (.iadd, 1) := by decide +kernel
theorem dX5_grow_309 : decode cX5_grow 309 = .ok (.invokevirtual 102, 3) := by decide +kernel
theorem dX5_grow_312 : decode cX5_grow 312 = .ok (.istore 6, 2) := by decide +kernel
theorem dX5_grow_314 : decode cX5_grow 314 = .ok (.goto 42, 3) := by decide +kernel
theorem dX5_grow_317 : decode cX5_grow 317 = .ok (.aload_n 0, 1) := by decide +kernel
theorem dX5_grow_318 : decode cX5_grow 318 = .ok (.aload 4, 2) := by decide +kernel
theorem dX5_grow_320 : decode cX5_grow 320 = .ok (.iload 5, 2) := by decide +kernel
theorem dX5_grow_322 : decode cX5_grow 322 = .ok (.iload_n 3, 1) := by decide +kernel
theorem dX5_grow_323 : decode cX5_grow 323 = .ok (.invokevirtual 111, 3) := by decide +kernel
theorem dX5_grow_326 : decode cX5_grow 326 = .ok (.istore 6, 2) := by decide +kernel
theorem dX5_grow_328 : decode cX5_grow 328 = .ok (.goto 28, 3) := by decide +kernel
theorem dX5_grow_331 : decode cX5_grow 331 = .ok (.aload_n 0, 1) := by decide +kernel
theorem dX5_grow_332 : decode cX5_grow 332 = .ok (.aload 4, 2) := by decide +kernel
theorem dX5_grow_334 : decode cX5_grow 334 = .ok (.getfield 72, 3) := by decide +kernel
theorem dX5_grow_337 : decode cX5_grow 337 = .ok (.iload 5, 2) := by decide +kernel
theorem dX5_grow_339 : decode cX5_grow 339 = .ok (.invokevirtual 114, 3) := by decide +kernel
theorem dX5_grow_342 : decode cX5_grow 342 = .ok (.goto 14, 3) := by decide +kernel
theorem dX5_grow_345 : decode cX5_grow 345 = .ok (.aload_n 0, 1) := by decide +kernel
theorem dX5_grow_346 : decode cX5_grow 346 = .ok (.aload 4, 2) := by decide +kernel
theorem dX5_grow_348 : decode cX5_grow 348 = .ok (.iload 5, 2) := by decide +kernel
theorem dX5_grow_350 : decode cX5_grow 350 = .ok (.iload_n 3, 1) := by decide +kernel
theorem dX5_grow_351 : decode cX5_grow 351 = .ok (.invokevirtual 117, 3) := by decide +kernel
theorem dX5_grow_354 : decode cX5_grow 354 = .ok (.istore 6, 2) := by decide +kernel
theorem dX5_grow_356 : decode cX5_grow 356 = .ok (.aload_n 0, 1) := by decide +kernel
theorem dX5_grow_357 : decode cX5_grow 357 = .ok (.getfield 24, 3) := by decide +kernel
theorem dX5_grow_360 : decode cX5_grow 360 = .ok (.iload 5, 2) := by decide +kernel
theorem dX5_grow_362 : decode cX5_grow 362 = .ok (.invokevirtual 120, 3) := by decide +kernel
theorem dX5_grow_365 : decode cX5_grow 365 = .ok (.iload 6, 2) := by decide +kernel
theorem dX5_grow_367 : decode cX5_grow 367 = .ok (.ireturn, 1) := by decide +kernel
theorem dX5_growList_0 : decode cX5_growList 0 = .ok (.aload_n 0, 1) := by decide +kernel
theorem dX5_growList_1 : decode cX5_growList 1 = .ok (.iconst 1, 1) := by decide +kernel
theorem dX5_growList_2 : decode cX5_growList 2 = .ok (.aload_n 1, 1) := by decide +kernel
theorem dX5_growList_3 : decode cX5_growList 3 = .ok (.getfield 75, 3) := by decide +kernel
theorem dX5_growList_6 : decode cX5_growList 6 = .ok (.aload_n 0, 1) := by decide +kernel
theorem dX5_growList_7 : decode cX5_growList 7 = .ok (.getfield 39, 3) := by decide +kernel
theorem dX5_growList_10 : decode cX5_growList 10 = .ok (.invokestatic 86, 3) := by decide +kernel
theorem dX5_growList_13 : decode cX5_growList 13 = .ok (.iadd, 1) := by decide +kernel
theorem dX5_growList_14 : decode cX5_growList 14 = .ok (.invokevirtual 78, 3) := by decide +kernel
theorem dX5_growList_17 : decode cX5_growList 17 = .ok (.istore 4, 2) := by decide +kernel
theorem dX5_growList_19 : decode cX5_growList 19 = .ok (.aload_n 0, 1) := by decide +kernel
theorem dX5_growList_20 : decode cX5_growList 20 = .ok (.getfield 24, 3) := by decide +kernel
theorem dX5_growList_23 : decode cX5_growList 23 = .ok (.iload_n 2, 1) := by decide +kernel
theorem dX5_growList_24 : decode cX5_growList 24 = .ok (.iload 4, 2) := by decide +kernel
theorem dX5_growList_26 : decode cX5_growList 26 = .ok (.invokevirtual 82, 3) := by decide +kernel
theorem dX5_growList_29 : decode cX5_growList 29 = .ok (.iconst 0, 1) := by decide +kernel
theorem dX5_growList_30 : decode cX5_growList 30 = .ok (.istore 5, 2) := by decide +kernel
theorem dX5_growList_32 : decode cX5_growList 32 = .ok (.iload 5, 2) := by decide +kernel
theorem dX5_growList_34 : decode cX5_growList 34 = .ok (.iload 4, 2) := by decide +kernel
theorem dX5_growList_36 : decode cX5_growList 36 = .ok (.if_icmp .ge 32, 3) := by decide +kernel
theorem dX5_growList_39 : decode cX5_growList 39 = .ok (.aload_n 0, 1) := by decide +kernel
theorem dX5_growList_40 : decode cX5_growList 40 = .ok (.aload_n 1, 1) := by decide +kernel
theorem dX5_growList_41 : decode cX5_growList 41 = .ok (.getfield 72, 3) := by decide +kernel
theorem dX5_growList_44 : decode cX5_growList 44 = .ok (.iload_n 2, 1) := by decide +kernel
theorem dX5_growList_45 : decode cX5_growList 45 = .ok (.iload_n 3, 1) := by decide +kernel
theorem dX5_growList_46 : decode cX5_growList 46 = .ok (.iconst 1, 1) := by decide +kernel
theorem dX5_growList_47 : decode cX5_growList 47 = .ok (.iadd, 1) := by decide +kernel
theorem dX5_growList_48 : decode cX5_growList 48 = .ok (.invokevirtual 102, 3) := by decide +kernel
theorem dX5_growList_51 : decode cX5_growList 51 = .ok (.istore 6, 2) := by decide +kernel
theorem dX5_growList_53 : decode cX5_growList 53 = .ok (.iload 6, 2) := by decide +kernel
theorem dX5_growList_55 : decode cX5_growList 55 = .ok (.iconst 1, 1) := by decide +kernel
theorem dX5_growList_56 : decode cX5_growList 56 = .ok (.if_icmp .eq 6, 3) := by decide +kernel
theorem dX5_growList_59 : decode cX5_growList 59 = .ok (.iload 6, 2) := by decide +kernel
theorem dX5_growList_61 : decode cX5_growList 61 = .ok (.ireturn, 1) := by decide +kernel
theorem dX5_growList_62 : decode cX5_growList 62 = .ok (.iinc 5 1, 3) := by decide +kernel
theorem dX5_growList_65 : decode cX5_growList 65 = .ok (.goto (-33), 3) := by decide +kernel
theorem dX5_growList_68 : decode cX5_growList 68 = .ok (.iconst 1, 1) := by decide +kernel
theorem dX5_growList_69 : decode cX5_growList 69 = .ok (.ireturn, 1) := by decide +kernel
theorem dX5_growPicked_0 : decode cX5_growPicked 0 = .ok (.aload_n 0, 1) := by decide +kernel
theorem dX5_growPicked_1 : decode cX5_growPicked 1 = .ok (.getfield 24, 3) := by decide +kernel
theorem dX5_growPicked_4 : decode cX5_growPicked 4 = .ok (.iload_n 2, 1) := by decide +kernel
theorem dX5_growPicked_5 : decode cX5_growPicked 5 = .ok (.aload_n 1, 1) := by decide +kernel
theorem dX5_growPicked_6 : decode cX5_growPicked 6 = .ok (.getfield 75, 3) := by decide +kernel
theorem dX5_growPicked_9 : decode cX5_growPicked 9 = .ok (.invokevirtual 82, 3) := by decide +kernel
theorem dX5_growPicked_12 : decode cX5_growPicked 12 = .ok (.iconst 0, 1) := by decide +kernel
theorem dX5_growPicked_13 : decode cX5_growPicked 13 = .ok (.istore 4, 2) := by decide +kernel
theorem dX5_growPicked_15 : decode cX5_growPicked 15 = .ok (.iload 4, 2) := by decide +kernel
theorem dX5_growPicked_17 : decode cX5_growPicked 17 = .ok (.bipush 8, 2) := by decide +kernel
theorem dX5_growPicked_19 : decode cX5_growPicked 19 = .ok (.if_icmp .ge 111, 3) := by decide +kernel
theorem dX5_growPicked_22 : decode cX5_growPicked 22 = .ok (.aload_n 0, 1) := by decide +kernel
theorem dX5_growPicked_23 : decode cX5_growPicked 23 = .ok (.getfield 24, 3) := by decide +kernel
theorem dX5_growPicked_26 : decode cX5_growPicked 26 = .ok (.iload_n 2, 1) := by decide +kernel
theorem dX5_growPicked_27 : decode cX5_growPicked 27 = .ok (.iconst 1, 1) := by decide +kernel
theorem dX5_growPicked_28 : decode cX5_growPicked 28 = .ok (.iadd, 1) := by decide +kernel
theorem dX5_growPicked_29 : decode cX5_growPicked 29 = .ok (.invokevirtual 49, 3) := by decide +kernel
theorem dX5_growPicked_32 : decode cX5_growPicked 32 = .ok (.aload_n 0, 1) := by decide +kernel
theorem dX5_growPicked_33 : decode cX5_growPicked 33 = .ok (.aload_n 1, 1) := by decide +kernel
theorem dX5_growPicked_34 : decode cX5_growPicked 34 = .ok (.getfield 72, 3) := by decide +kernel
theorem dX5_growPicked_37 : decode cX5_growPicked 37 = .ok (.iload_n 2, 1) := by decide +kernel
theorem dX5_growPicked_38 : decode cX5_growPicked 38 = .ok (.iload_n 3, 1) := by decide +kernel
theorem dX5_growPicked_39 : decode cX5_growPicked 39 = .ok (.iconst 1, 1) := by decide +kernel
theorem dX5_growPicked_40 : decode cX5_growPicked 40 = .ok (.iadd, 1) := by decide +kernel
theorem dX5_growPicked_41 : decode cX5_growPicked 41 = .ok (.invokevirtual 102, 3) := by decide +kernel
theorem dX5_growPicked_44 : decode cX5_growPicked 44 = .ok (.istore 5, 2) := by decide +kernel
theorem dX5_growPicked_46 : decode cX5_growPicked 46 = .ok (.iload 5, 2) := by decide +kernel
theorem dX5_growPicked_48 : decode cX5_growPicked 48 = .ok (.iconst 1, 1) := by decide +kernel
theorem dX5_growPicked_49 : decode cX5_growPicked 49 = .ok (.if_icmp .eq 6, 3) := by decide +kernel
theorem dX5_growPicked_52 : decode cX5_growPicked 52 = .ok (.iload 5, 2) := by decide +kernel
theorem dX5_growPicked_54 : decode cX5_growPicked 54 = .ok (.ireturn, 1) := by decide +kernel
theorem dX5_growPicked_55 : decode cX5_growPicked 55 = .ok (.aload_n 0, 1) := by decide +kernel
theorem dX5_growPicked_56 : decode cX5_growPicked 56 = .ok (.getfield 42, 3) := by decide +kernel
theorem dX5_growPicked_59 : decode cX5_growPicked 59 = .ok (.invokevirtual 123, 3) := by decide +kernel
theorem dX5_growPicked_62 : decode cX5_growPicked 62 = .ok (.ifCond .ne 6, 3) := by decide +kernel
theorem dX5_growPicked_65 : decode cX5_growPicked 65 = .ok (.bipush (-6), 2) := by decide +kernel
theorem dX5_growPicked_67 : decode cX5_growPicked 67 = .ok (.ireturn, 1) := by decide +kernel
theorem dX5_growPicked_68 : decode cX5_growPicked 68 = .ok (.aload_n 0, 1) := by decide +kernel
theorem dX5_growPicked_69 : decode cX5_growPicked 69 = .ok (.getfield 24, 3) := by decide +kernel
theorem dX5_growPicked_72 : decode cX5_growPicked 72 = .ok (.iload_n 2, 1) := by decide +kernel
theorem dX5_growPicked_73 : decode cX5_growPicked 73 = .ok (.iconst 1, 1) := by decide +kernel
theorem dX5_growPicked_74 : decode cX5_growPicked 74 = .ok (.iadd, 1) := by decide +kernel
theorem dX5_growPicked_75 : decode cX5_growPicked 75 = .ok (.aload_n 0, 1) := by decide +kernel
theorem dX5_growPicked_76 : decode cX5_growPicked 76 = .ok (.getfield 24, 3) := by decide +kernel
theorem dX5_growPicked_79 : decode cX5_growPicked 79 = .ok (.getfield 129, 3) := by decide +kernel
theorem dX5_growPicked_82 : decode cX5_growPicked 82 = .ok (.aload_n 0, 1) := by decide +kernel
theorem dX5_growPicked_83 : decode cX5_growPicked 83 = .ok (.getfield 31, 3) := by decide +kernel
theorem dX5_growPicked_86 : decode cX5_growPicked 86 = .ok (.invokevirtual 130, 3) := by decide +kernel
theorem dX5_growPicked_89 : decode cX5_growPicked 89 = .ok (.aload_n 0, 1) := by decide +kernel
theorem dX5_growPicked_90 : decode cX5_growPicked 90 = .ok (.getfield 42, 3) := by decide +kernel
theorem dX5_growPicked_93 : decode cX5_growPicked 93 = .ok (.aload_n 1, 1) := by decide +kernel
theorem dX5_growPicked_94 : decode cX5_growPicked 94 = .ok (.getfield 75, 3) := by decide +kernel
theorem dX5_growPicked_97 : decode cX5_growPicked 97 = .ok (.aload_n 0, 1) := by decide +kernel
theorem dX5_growPicked_98 : decode cX5_growPicked 98 = .ok (.getfield 31, 3) := by decide +kernel
theorem dX5_growPicked_101 : decode cX5_growPicked 101 = .ok (.invokevirtual 134, 3) := by decide +kernel
theorem dX5_growPicked_104 : decode cX5_growPicked 104 = .ok (.istore 6, 2) := by decide +kernel
theorem dX5_growPicked_106 : decode cX5_growPicked 106 = .ok (.iload 6, 2) := by decide +kernel
theorem dX5_growPicked_108 : decode cX5_growPicked 108 = .ok (.ifCond .eq 16, 3) := by decide +kernel
theorem dX5_growPicked_111 : decode cX5_growPicked 111 = .ok (.iload 6, 2) := by decide +kernel
theorem dX5_growPicked_113 : decode cX5_growPicked 113 = .ok (.iconst 1, 1) := by decide +kernel
theorem dX5_growPicked_114 : decode cX5_growPicked 114 = .ok (.if_icmp .ne 7, 3) := by decide +kernel
theorem dX5_growPicked_117 : decode cX5_growPicked 117 = .ok (.iconst 1, 1) := by decide +kernel
theorem dX5_growPicked_118 : decode cX5_growPicked 118 = .ok (.goto 5, 3) := by decide +kernel
theorem dX5_growPicked_121 : decode cX5_growPicked 121 = .ok (.bipush (-5), 2) := by decide +kernel
theorem dX5_growPicked_123 : decode cX5_growPicked 123 = .ok (.ireturn, 1) := by decide +kernel
theorem dX5_growPicked_124 : decode cX5_growPicked 124 = .ok (.iinc 4 1, 3) := by decide +kernel
theorem dX5_growPicked_127 : decode cX5_growPicked 127 = .ok (.goto (-112), 3) := by decide +kernel
theorem dX5_growPicked_130 : decode cX5_growPicked 130 = .ok (.bipush (-5), 2) := by decide +kernel
theorem dX5_growPicked_132 : decode cX5_growPicked 132 = .ok (.ireturn, 1) := by decide +kernel
theorem dX5_growShuffled_0 : decode cX5_growShuffled 0 = .ok (.aload_n 0, 1) := by decide +kernel
theorem dX5_growShuffled_1 : decode cX5_growShuffled 1 = .ok (.getfield 24, 3) := by decide +kernel
theorem dX5_growShuffled_4 : decode cX5_growShuffled 4 = .ok (.iload_n 2, 1) := by decide +kernel
theorem dX5_growShuffled_5 : decode cX5_growShuffled 5 = .ok (.iload_n 1, 1) := by decide +kernel
theorem dX5_growShuffled_6 : decode cX5_growShuffled 6 = .ok (.invokevirtual 82, 3) := by decide +kernel
theorem dX5_growShuffled_9 : decode cX5_growShuffled 9 = .ok (.iconst 0, 1) := by decide +kernel
theorem dX5_growShuffled_10 : decode cX5_growShuffled 10 = .ok (.istore_n 3, 1) := by decide +kernel
theorem dX5_growShuffled_11 : decode cX5_growShuffled 11 = .ok (.iload_n 3, 1) := by decide +kernel
theorem dX5_growShuffled_12 : decode cX5_growShuffled 12 = .ok (.iload_n 1, 1) := by decide +kernel
theorem dX5_growShuffled_13 : decode cX5_growShuffled 13 = .ok (.if_icmp .ge 21, 3) := by decide +kernel
theorem dX5_growShuffled_16 : decode cX5_growShuffled 16 = .ok (.aload_n 0, 1) := by decide +kernel
theorem dX5_growShuffled_17 : decode cX5_growShuffled 17 = .ok (.getfield 24, 3) := by decide +kernel
theorem dX5_growShuffled_20 : decode cX5_growShuffled 20 = .ok (.bipush 8, 2) := by decide +kernel
theorem dX5_growShuffled_22 : decode cX5_growShuffled 22 = .ok (.iload_n 3, 1) := by decide +kernel
theorem dX5_growShuffled_23 : decode cX5_growShuffled 23 = .ok (.iload_n 2, 1) := by decide +kernel
theorem dX5_growShuffled_24 : decode cX5_growShuffled 24 = .ok (.invokevirtual 68, 3) := by decide +kernel
theorem dX5_growShuffled_27 : decode cX5_growShuffled 27 = .ok (.pop, 1) := by decide +kernel
theorem dX5_growShuffled_28 : decode cX5_growShuffled 28 = .ok (.iinc 3 1, 3) := by decide +kernel
theorem dX5_growShuffled_31 : decode cX5_growShuffled 31 = .ok (.goto (-20), 3) := by decide +kernel
theorem dX5_growShuffled_34 : decode cX5_growShuffled 34 = .ok (.iload_n 2, 1) := by decide +kernel
theorem dX5_growShuffled_35 : decode cX5_growShuffled 35 = .ok (.iconst 1, 1) := by decide +kernel
theorem dX5_growShuffled_36 : decode cX5_growShuffled 36 = .ok (.iadd, 1) := by decide +kernel
theorem dX5_growShuffled_37 : decode cX5_growShuffled 37 = .ok (.istore_n 3, 1) := by decide +kernel
theorem dX5_growShuffled_38 : decode cX5_growShuffled 38 = .ok (.iload_n 1, 1) := by decide +kernel
theorem dX5_growShuffled_39 : decode cX5_growShuffled 39 = .ok (.iconst 1, 1) := by decide +kernel
theorem dX5_growShuffled_40 : decode cX5_growShuffled 40 = .ok (.isub, 1) := by decide +kernel
theorem dX5_growShuffled_41 : decode cX5_growShuffled 41 = .ok (.istore 4, 2) := by decide +kernel
theorem dX5_growShuffled_43 : decode cX5_growShuffled 43 = .ok (.iload 4, 2) := by decide +kernel
theorem dX5_growShuffled_45 : decode cX5_growShuffled 45 = .ok (.iconst 1, 1) := by decide +kernel
theorem dX5_growShuffled_46 : decode cX5_growShuffled 46 = .ok (.if_icmp .lt 30, 3) := by decide +kernel
theorem dX5_growShuffled_49 : decode cX5_growShuffled 49 = .ok (.aload_n 0, 1) := by decide +kernel
theorem dX5_growShuffled_50 : decode cX5_growShuffled 50 = .ok (.getfield 24, 3) := by decide +kernel
theorem dX5_growShuffled_53 : decode cX5_growShuffled 53 = .ok (.iload_n 3, 1) := by decide +kernel
theorem dX5_growShuffled_54 : decode cX5_growShuffled 54 = .ok (.iload 4, 2) := by decide +kernel
theorem dX5_growShuffled_56 : decode cX5_growShuffled 56 = .ok (.iadd, 1) := by decide +kernel
theorem dX5_growShuffled_57 : decode cX5_growShuffled 57 = .ok (.iload_n 3, 1) := by decide +kernel
theorem dX5_growShuffled_58 : decode cX5_growShuffled 58 = .ok (.aload_n 0, 1) := by decide +kernel
theorem dX5_growShuffled_59 : decode cX5_growShuffled 59 = .ok (.iload 4, 2) := by decide +kernel
theorem dX5_growShuffled_61 : decode cX5_growShuffled 61 = .ok (.iconst 1, 1) := by decide +kernel
theorem dX5_growShuffled_62 : decode cX5_growShuffled 62 = .ok (.iadd, 1) := by decide +kernel
theorem dX5_growShuffled_63 : decode cX5_growShuffled 63 = .ok (.invokevirtual 78, 3) := by decide +kernel
theorem dX5_growShuffled_66 : decode cX5_growShuffled 66 = .ok (.iadd, 1) := by decide +kernel
theorem dX5_growShuffled_67 : decode cX5_growShuffled 67 = .ok (.invokevirtual 138, 3) := by decide +kernel
theorem dX5_growShuffled_70 : decode cX5_growShuffled 70 = .ok (.iinc 4 (-1), 3) := by decide +kernel
theorem dX5_growShuffled_73 : decode cX5_growShuffled 73 = .ok (.goto (-30), 3) := by decide +kernel
theorem dX5_growShuffled_76 : decode cX5_growShuffled 76 = .ok (.return_, 1) := by decide +kernel
theorem dX5_growBelow_0 : decode cX5_growBelow 0 = .ok (.aload_n 0, 1) := by decide +kernel
theorem dX5_growBelow_1 : decode cX5_growBelow 1 = .ok (.getfield 24, 3) := by decide +kernel
theorem dX5_growBelow_4 : decode cX5_growBelow 4 = .ok (.iload_n 2, 1) := by decide +kernel
theorem dX5_growBelow_5 : decode cX5_growBelow 5 = .ok (.iconst 2, 1) := by decide +kernel
theorem dX5_growBelow_6 : decode cX5_growBelow 6 = .ok (.invokevirtual 82, 3) := by decide +kernel
theorem dX5_growBelow_9 : decode cX5_growBelow 9 = .ok (.aload_n 0, 1) := by decide +kernel
theorem dX5_growBelow_10 : decode cX5_growBelow 10 = .ok (.aload_n 1, 1) := by decide +kernel
theorem dX5_growBelow_11 : decode cX5_growBelow 11 = .ok (.getfield 72, 3) := by decide +kernel
theorem dX5_growBelow_14 : decode cX5_growBelow 14 = .ok (.iload_n 2, 1) := by decide +kernel
theorem dX5_growBelow_15 : decode cX5_growBelow 15 = .ok (.iload_n 3, 1) := by decide +kernel
theorem dX5_growBelow_16 : decode cX5_growBelow 16 = .ok (.iconst 1, 1) := by decide +kernel
theorem dX5_growBelow_17 : decode cX5_growBelow 17 = .ok (.iadd, 1) := by decide +kernel
theorem dX5_growBelow_18 : decode cX5_growBelow 18 = .ok (.invokevirtual 102, 3) := by decide +kernel
theorem dX5_growBelow_21 : decode cX5_growBelow 21 = .ok (.istore 4, 2) := by decide +kernel
theorem dX5_growBelow_23 : decode cX5_growBelow 23 = .ok (.iload 4, 2) := by decide +kernel
theorem dX5_growBelow_25 : decode cX5_growBelow 25 = .ok (.iconst 1, 1) := by decide +kernel
theorem dX5_growBelow_26 : decode cX5_growBelow 26 = .ok (.if_icmp .eq 6, 3) := by decide +kernel
theorem dX5_growBelow_29 : decode cX5_growBelow 29 = .ok (.iload 4, 2) := by decide +kernel
theorem dX5_growBelow_31 : decode cX5_growBelow 31 = .ok (.ireturn, 1) := by decide +kernel
theorem dX5_growBelow_32 : decode cX5_growBelow 32 = .ok (.aload_n 0, 1) := by decide +kernel
theorem dX5_growBelow_33 : decode cX5_growBelow 33 = .ok (.getfield 24, 3) := by decide +kernel
theorem dX5_growBelow_36 : decode cX5_growBelow 36 = .ok (.iload_n 2, 1) := by decide +kernel
theorem dX5_growBelow_37 : decode cX5_growBelow 37 = .ok (.iconst 1, 1) := by decide +kernel
theorem dX5_growBelow_38 : decode cX5_growBelow 38 = .ok (.iadd, 1) := by decide +kernel
theorem dX5_growBelow_39 : decode cX5_growBelow 39 = .ok (.aload_n 0, 1) := by decide +kernel
theorem dX5_growBelow_40 : decode cX5_growBelow 40 = .ok (.getfield 24, 3) := by decide +kernel
theorem dX5_growBelow_43 : decode cX5_growBelow 43 = .ok (.getfield 129, 3) := by decide +kernel
theorem dX5_growBelow_46 : decode cX5_growBelow 46 = .ok (.aload_n 0, 1) := by decide +kernel
theorem dX5_growBelow_47 : decode cX5_growBelow 47 = .ok (.getfield 31, 3) := by decide +kernel
theorem dX5_growBelow_50 : decode cX5_growBelow 50 = .ok (.invokevirtual 130, 3) := by decide +kernel
theorem dX5_growBelow_53 : decode cX5_growBelow 53 = .ok (.iconst 0, 1) := by decide +kernel
theorem dX5_growBelow_54 : decode cX5_growBelow 54 = .ok (.aload_n 0, 1) := by decide +kernel
theorem dX5_growBelow_55 : decode cX5_growBelow 55 = .ok (.getfield 31, 3) := by decide +kernel
theorem dX5_growBelow_58 : decode cX5_growBelow 58 = .ok (.invokevirtual 141, 3) := by decide +kernel
theorem dX5_growBelow_61 : decode cX5_growBelow 61 = .ok (.ldc 145, 2) := by decide +kernel
theorem dX5_growBelow_63 : decode cX5_growBelow 63 = .ok (.invokestatic 86, 3) := by decide +kernel
theorem dX5_growBelow_66 : decode cX5_growBelow 66 = .ok (.invokestatic 92, 3) := by decide +kernel
theorem dX5_growBelow_69 : decode cX5_growBelow 69 = .ok (.istore 5, 2) := by decide +kernel
theorem dX5_growBelow_71 : decode cX5_growBelow 71 = .ok (.aload_n 0, 1) := by decide +kernel
theorem dX5_growBelow_72 : decode cX5_growBelow 72 = .ok (.getfield 24, 3) := by decide +kernel
theorem dX5_growBelow_75 : decode cX5_growBelow 75 = .ok (.bipush 9, 2) := by decide +kernel
theorem dX5_growBelow_77 : decode cX5_growBelow 77 = .ok (.aload_n 0, 1) := by decide +kernel
theorem dX5_growBelow_78 : decode cX5_growBelow 78 = .ok (.iconst 1, 1) := by decide +kernel
theorem dX5_growBelow_79 : decode cX5_growBelow 79 = .ok (.iload 5, 2) := by decide +kernel
theorem dX5_growBelow_81 : decode cX5_growBelow 81 = .ok (.iadd, 1) := by decide +kernel
theorem dX5_growBelow_82 : decode cX5_growBelow 82 = .ok (.invokevirtual 78, 3) := by decide +kernel
theorem dX5_growBelow_85 : decode cX5_growBelow 85 = .ok (.iload_n 2, 1) := by decide +kernel
theorem dX5_growBelow_86 : decode cX5_growBelow 86 = .ok (.invokevirtual 68, 3) := by decide +kernel
theorem dX5_growBelow_89 : decode cX5_growBelow 89 = .ok (.pop, 1) := by decide +kernel
theorem dX5_growBelow_90 : decode cX5_growBelow 90 = .ok (.iconst 1, 1) := by decide +kernel
theorem dX5_growBelow_91 : decode cX5_growBelow 91 = .ok (.ireturn, 1) := by decide +kernel
theorem dX6_init_0 : decode cX6_init 0 = .ok (.aload_n 0, 1) := by decide +kernel
theorem dX6_init_1 : decode cX6_init 1 = .ok (.invokespecial 3, 3) := by decide +kernel
theorem dX6_init_4 : decode cX6_init 4 = .ok (.aload_n 0, 1) := by decide +kernel
theorem dX6_init_5 : decode cX6_init 5 = .ok (.iconst 3, 1) := by decide +kernel
theorem dX6_init_6 : decode cX6_init 6 = .ok (.newarray .int, 2) := by decide +kernel
theorem dX6_init_8 : decode cX6_init 8 = .ok (.putfield 9, 3) := by decide +kernel
theorem dX6_init_11 : decode cX6_init 11 = .ok (.aload_n 0, 1) := by decide +kernel
theorem dX6_init_12 : decode cX6_init 12 = .ok (.iconst 0, 1) := by decide +kernel
theorem dX6_init_13 : decode cX6_init 13 = .ok (.putfield 15, 3) := by decide +kernel
theorem dX6_init_16 : decode cX6_init 16 = .ok (.aload_n 0, 1) := by decide +kernel
theorem dX6_init_17 : decode cX6_init 17 = .ok (.iload_n 1, 1) := by decide +kernel
theorem dX6_init_18 : decode cX6_init 18 = .ok (.putfield 19, 3) := by decide +kernel
theorem dX6_init_21 : decode cX6_init 21 = .ok (.aload_n 0, 1) := by decide +kernel
theorem dX6_init_22 : decode cX6_init 22 = .ok (.iload_n 2, 1) := by decide +kernel
theorem dX6_init_23 : decode cX6_init 23 = .ok (.putfield 22, 3) := by decide +kernel
theorem dX6_init_26 : decode cX6_init 26 = .ok (.return_, 1) := by decide +kernel
theorem dX6_addLabel_0 : decode cX6_addLabel 0 = .ok (.aload_n 0, 1) := by decide +kernel
theorem dX6_addLabel_1 : decode cX6_addLabel 1 = .ok (.getfield 15, 3) := by decide +kernel
theorem dX6_addLabel_4 : decode cX6_addLabel 4 = .ok (.ifCond .lt 11, 3) := by decide +kernel
theorem dX6_addLabel_7 : decode cX6_addLabel 7 = .ok (.aload_n 0, 1) := by decide +kernel
theorem dX6_addLabel_8 : decode cX6_addLabel 8 = .ok (.getfield 15, 3) := by decide +kernel
theorem dX6_addLabel_11 : decode cX6_addLabel 11 = .ok (.iconst 3, 1) := by decide +kernel
theorem dX6_addLabel_12 : decode cX6_addLabel 12 = .ok (.if_icmp .lt 6, 3) := by decide +kernel
theorem dX6_addLabel_15 : decode cX6_addLabel 15 = .ok (.bipush (-4), 2) := by decide +kernel
theorem dX6_addLabel_17 : decode cX6_addLabel 17 = .ok (.ireturn, 1) := by decide +kernel
theorem dX6_addLabel_18 : decode cX6_addLabel 18 = .ok (.aload_n 0, 1) := by decide +kernel
theorem dX6_addLabel_19 : decode cX6_addLabel 19 = .ok (.getfield 9, 3) := by decide +kernel
theorem dX6_addLabel_22 : decode cX6_addLabel 22 = .ok (.aload_n 0, 1) := by decide +kernel
theorem dX6_addLabel_23 : decode cX6_addLabel 23 = .ok (.getfield 15, 3) := by decide +kernel
theorem dX6_addLabel_26 : decode cX6_addLabel 26 = .ok (.iload_n 1, 1) := by decide +kernel
theorem dX6_addLabel_27 : decode cX6_addLabel 27 = .ok (.iastore, 1) := by decide +kernel
theorem dX6_addLabel_28 : decode cX6_addLabel 28 = .ok (.aload_n 0, 1) := by decide +kernel
theorem dX6_addLabel_29 : decode cX6_addLabel 29 = .ok (.dup, 1) := by decide +kernel
theorem dX6_addLabel_30 : decode cX6_addLabel 30 = .ok (.getfield 15, 3) := by decide +kernel
theorem dX6_addLabel_33 : decode cX6_addLabel 33 = .ok (.iconst 1, 1) := by decide +kernel
theorem dX6_addLabel_34 : decode cX6_addLabel 34 = .ok (.iadd, 1) := by decide +kernel
theorem dX6_addLabel_35 : decode cX6_addLabel 35 = .ok (.putfield 15, 3) := by decide +kernel
theorem dX6_addLabel_38 : decode cX6_addLabel 38 = .ok (.aload_n 0, 1) := by decide +kernel
theorem dX6_addLabel_39 : decode cX6_addLabel 39 = .ok (.getfield 15, 3) := by decide +kernel
theorem dX6_addLabel_42 : decode cX6_addLabel 42 = .ok (.ireturn, 1) := by decide +kernel
theorem dX7_init_0 : decode cX7_init 0 = .ok (.aload_n 0, 1) := by decide +kernel
theorem dX7_init_1 : decode cX7_init 1 = .ok (.invokespecial 3, 3) := by decide +kernel
theorem dX7_init_4 : decode cX7_init 4 = .ok (.aload_n 0, 1) := by decide +kernel
theorem dX7_init_5 : decode cX7_init 5 = .ok (.new 9, 3) := by decide +kernel
theorem dX7_init_8 : decode cX7_init 8 = .ok (.dup, 1) := by decide +kernel
theorem dX7_init_9 : decode cX7_init 9 = .ok (.invokespecial 11, 3) := by decide +kernel
theorem dX7_init_12 : decode cX7_init 12 = .ok (.putfield 12, 3) := by decide +kernel
theorem dX7_init_15 : decode cX7_init 15 = .ok (.aload_n 0, 1) := by decide +kernel
theorem dX7_init_16 : decode cX7_init 16 = .ok (.new 18, 3) := by decide +kernel
theorem dX7_init_19 : decode cX7_init 19 = .ok (.dup, 1) := by decide +kernel
theorem dX7_init_20 : decode cX7_init 20 = .ok (.invokespecial 20, 3) := by decide +kernel
theorem dX7_init_23 : decode cX7_init 23 = .ok (.putfield 21, 3) := by decide +kernel
theorem dX7_init_26 : decode cX7_init 26 = .ok (.aload_n 0, 1) := by decide +kernel
theorem dX7_init_27 : decode cX7_init 27 = .ok (.new 18, 3) := by decide +kernel
theorem dX7_init_30 : decode cX7_init 30 = .ok (.dup, 1) := by decide +kernel
theorem dX7_init_31 : decode cX7_init 31 = .ok (.invokespecial 20, 3) := by decide +kernel
theorem dX7_init_34 : decode cX7_init 34 = .ok (.putfield 25, 3) := by decide +kernel
theorem dX7_init_37 : decode cX7_init 37 = .ok (.aload_n 0, 1) := by decide +kernel
theorem dX7_init_38 : decode cX7_init 38 = .ok (.iconst 0, 1) := by decide +kernel
theorem dX7_init_39 : decode cX7_init 39 = .ok (.putfield 28, 3) := by decide +kernel
theorem dX7_init_42 : decode cX7_init 42 = .ok (.aload_n 0, 1) := by decide +kernel
theorem dX7_init_43 : decode cX7_init 43 = .ok (.iconst 0, 1) := by decide +kernel
theorem dX7_init_44 : decode cX7_init 44 = .ok (.putfield 32, 3) := by decide +kernel
theorem dX7_init_47 : decode cX7_init 47 = .ok (.aload_n 0, 1) := by decide +kernel
theorem dX7_init_48 : decode cX7_init 48 = .ok (.aload_n 1, 1) := by decide +kernel
theorem dX7_init_49 : decode cX7_init 49 = .ok (.putfield 35, 3) := by decide +kernel
theorem dX7_init_52 : decode cX7_init 52 = .ok (.return_, 1) := by decide +kernel
theorem dX7_start_0 : decode cX7_start 0 = .ok (.aload_n 0, 1) := by decide +kernel
theorem dX7_start_1 : decode cX7_start 1 = .ok (.getfield 21, 3) := by decide +kernel
theorem dX7_start_4 : decode cX7_start 4 = .ok (.aload_n 1, 1) := by decide +kernel
theorem dX7_start_5 : decode cX7_start 5 = .ok (.invokevirtual 39, 3) := by decide +kernel
theorem dX7_start_8 : decode cX7_start 8 = .ok (.aload_n 0, 1) := by decide +kernel
theorem dX7_start_9 : decode cX7_start 9 = .ok (.iconst 0, 1) := by decide +kernel
theorem dX7_start_10 : decode cX7_start 10 = .ok (.putfield 28, 3) := by decide +kernel
theorem dX7_start_13 : decode cX7_start 13 = .ok (.aload_n 0, 1) := by decide +kernel
theorem dX7_start_14 : decode cX7_start 14 = .ok (.iconst 0, 1) := by decide +kernel
theorem dX7_start_15 : decode cX7_start 15 = .ok (.putfield 32, 3) := by decide +kernel
theorem dX7_start_18 : decode cX7_start 18 = .ok (.return_, 1) := by decide +kernel
theorem dX7_advance_0 : decode cX7_advance 0 = .ok (.iconst 0, 1) := by decide +kernel
theorem dX7_advance_1 : decode cX7_advance 1 = .ok (.istore_n 1, 1) := by decide +kernel
theorem dX7_advance_2 : decode cX7_advance 2 = .ok (.iload_n 1, 1) := by decide +kernel
theorem dX7_advance_3 : decode cX7_advance 3 = .ok (.ldc 43, 2) := by decide +kernel
theorem dX7_advance_5 : decode cX7_advance 5 = .ok (.if_icmp .ge 69, 3) := by decide +kernel
theorem dX7_advance_8 : decode cX7_advance 8 = .ok (.aload_n 0, 1) := by decide +kernel
theorem dX7_advance_9 : decode cX7_advance 9 = .ok (.getfield 28, 3) := by decide +kernel
theorem dX7_advance_12 : decode cX7_advance 12 = .ok (.aload_n 0, 1) := by decide +kernel
theorem dX7_advance_13 : decode cX7_advance 13 = .ok (.getfield 21, 3) := by decide +kernel
theorem dX7_advance_16 : decode cX7_advance 16 = .ok (.getfield 44, 3) := by decide +kernel
theorem dX7_advance_19 : decode cX7_advance 19 = .ok (.if_icmp .ge 55, 3) := by decide +kernel
theorem dX7_advance_22 : decode cX7_advance 22 = .ok (.aload_n 0, 1) := by decide +kernel
theorem dX7_advance_23 : decode cX7_advance 23 = .ok (.invokevirtual 47, 3) := by decide +kernel
theorem dX7_advance_26 : decode cX7_advance 26 = .ok (.ifCond .eq 27, 3) := by decide +kernel
theorem dX7_advance_29 : decode cX7_advance 29 = .ok (.aload_n 0, 1) := by decide +kernel
theorem dX7_advance_30 : decode cX7_advance 30 = .ok (.dup, 1) := by decide +kernel
theorem dX7_advance_31 : decode cX7_advance 31 = .ok (.getfield 32, 3) := by decide +kernel
theorem dX7_advance_34 : decode cX7_advance 34 = .ok (.iconst 1, 1) := by decide +kernel
theorem dX7_advance_35 : decode cX7_advance 35 = .ok (.iadd, 1) := by decide +kernel
theorem dX7_advance_36 : decode cX7_advance 36 = .ok (.putfield 32, 3) := by decide +kernel
theorem dX7_advance_39 : decode cX7_advance 39 = .ok (.aload_n 0, 1) := by decide +kernel
theorem dX7_advance_40 : decode cX7_advance 40 = .ok (.invokevirtual 51, 3) := by decide +kernel
theorem dX7_advance_43 : decode cX7_advance 43 = .ok (.istore_n 2, 1) := by decide +kernel
theorem dX7_advance_44 : decode cX7_advance 44 = .ok (.iload_n 2, 1) := by decide +kernel
theorem dX7_advance_45 : decode cX7_advance 45 = .ok (.ifCond .eq 5, 3) := by decide +kernel
theorem dX7_advance_48 : decode cX7_advance 48 = .ok (.iload_n 2, 1) := by decide +kernel
theorem dX7_advance_49 : decode cX7_advance 49 = .ok (.ireturn, 1) := by decide +kernel
theorem dX7_advance_50 : decode cX7_advance 50 = .ok (.goto 18, 3) := by decide +kernel
theorem dX7_advance_53 : decode cX7_advance 53 = .ok (.aload_n 0, 1) := by decide +kernel
theorem dX7_advance_54 : decode cX7_advance 54 = .ok (.dup, 1) := by decide +kernel
theorem dX7_advance_55 : decode cX7_advance 55 = .ok (.getfield 28, 3) := by decide +kernel
theorem dX7_advance_58 : decode cX7_advance 58 = .ok (.iconst 1, 1) := by decide +kernel
theorem dX7_advance_59 : decode cX7_advance 59 = .ok (.iadd, 1) := by decide +kernel
theorem dX7_advance_60 : decode cX7_advance 60 = .ok (.putfield 28, 3) := by decide +kernel
theorem dX7_advance_63 : decode cX7_advance 63 = .ok (.aload_n 0, 1) := by decide +kernel
theorem dX7_advance_64 : decode cX7_advance 64 = .ok (.iconst 0, 1) := by decide +kernel
theorem dX7_advance_65 : decode cX7_advance 65 = .ok (.putfield 32, 3) := by decide +kernel
theorem dX7_advance_68 : decode cX7_advance 68 = .ok (.iinc 1 1, 3) := by decide +kernel
theorem dX7_advance_71 : decode cX7_advance 71 = .ok (.goto (-69), 3) := by decide +kernel
theorem dX7_advance_74 : decode cX7_advance 74 = .ok (.bipush (-9), 2) := by decide +kernel
theorem dX7_advance_76 : decode cX7_advance 76 = .ok (.ireturn, 1) := by decide +kernel
theorem dX7_edit_0 : decode cX7_edit 0 = .ok (.aload_n 0, 1) := by decide +kernel
theorem dX7_edit_1 : decode cX7_edit 1 = .ok (.getfield 21, 3) := by decide +kernel
theorem dX7_edit_4 : decode cX7_edit 4 = .ok (.aload_n 0, 1) := by decide +kernel
theorem dX7_edit_5 : decode cX7_edit 5 = .ok (.getfield 28, 3) := by decide +kernel
theorem dX7_edit_8 : decode cX7_edit 8 = .ok (.invokevirtual 55, 3) := by decide +kernel
theorem dX7_edit_11 : decode cX7_edit 11 = .ok (.tableswitch 83 0 9 #[53, 58, 83, 83, 83, 83, 83, 83, 63, 53], 53) := by decide +kernel
theorem dX7_edit_64 : decode cX7_edit 64 = .ok (.aload_n 0, 1) := by decide +kernel
theorem dX7_edit_65 : decode cX7_edit 65 = .ok (.invokevirtual 59, 3) := by decide +kernel
theorem dX7_edit_68 : decode cX7_edit 68 = .ok (.ireturn, 1) := by decide +kernel
theorem dX7_edit_69 : decode cX7_edit 69 = .ok (.aload_n 0, 1) := by decide +kernel
theorem dX7_edit_70 : decode cX7_edit 70 = .ok (.invokevirtual 62, 3) := by decide +kernel
theorem dX7_edit_73 : decode cX7_edit 73 = .ok (.ireturn, 1) := by decide +kernel
theorem dX7_edit_74 : decode cX7_edit 74 = .ok (.aload_n 0, 1) := by decide +kernel
theorem dX7_edit_75 : decode cX7_edit 75 = .ok (.getfield 32, 3) := by decide +kernel
theorem dX7_edit_78 : decode cX7_edit 78 = .ok (.ifCond .ne 14, 3) := by decide +kernel
theorem dX7_edit_81 : decode cX7_edit 81 = .ok (.aload_n 0, 1) := by decide +kernel
theorem dX7_edit_82 : decode cX7_edit 82 = .ok (.invokevirtual 65, 3) := by decide +kernel
theorem dX7_edit_85 : decode cX7_edit 85 = .ok (.ifCond .eq 7, 3) := by decide +kernel
theorem dX7_edit_88 : decode cX7_edit 88 = .ok (.iconst 1, 1) := by decide +kernel
theorem dX7_edit_89 : decode cX7_edit 89 = .ok (.goto 4, 3) := by decide +kernel
theorem dX7_edit_92 : decode cX7_edit 92 = .ok (.iconst 0, 1) := by decide +kernel
theorem dX7_edit_93 : decode cX7_edit 93 = .ok (.ireturn, 1) := by decide +kernel
theorem dX7_edit_94 : decode cX7_edit 94 = .ok (.iconst 0, 1) := by decide +kernel
theorem dX7_edit_95 : decode cX7_edit 95 = .ok (.ireturn, 1) := by decide +kernel
theorem dX7_moveNearer_0 : decode cX7_moveNearer 0 = .ok (.aload_n 0, 1) := by decide +kernel
theorem dX7_moveNearer_1 : decode cX7_moveNearer 1 = .ok (.getfield 21, 3) := by decide +kernel
theorem dX7_moveNearer_4 : decode cX7_moveNearer 4 = .ok (.aload_n 0, 1) := by decide +kernel
theorem dX7_moveNearer_5 : decode cX7_moveNearer 5 = .ok (.getfield 28, 3) := by decide +kernel
theorem dX7_moveNearer_8 : decode cX7_moveNearer 8 = .ok (.invokevirtual 68, 3) := by decide +kernel
theorem dX7_moveNearer_11 : decode cX7_moveNearer 11 = .ok (.istore_n 1, 1) := by decide +kernel
theorem dX7_moveNearer_12 : decode cX7_moveNearer 12 = .ok (.iload_n 1, 1) := by decide +kernel
theorem dX7_moveNearer_13 : decode cX7_moveNearer 13 = .ok (.aload_n 0, 1) := by decide +kernel
theorem dX7_moveNearer_14 : decode cX7_moveNearer 14 = .ok (.getfield 21, 3) := by decide +kernel
theorem dX7_moveNearer_17 : decode cX7_moveNearer 17 = .ok (.aload_n 0, 1) := by decide +kernel
theorem dX7_moveNearer_18 : decode cX7_moveNearer 18 = .ok (.getfield 28, 3) := by decide +kernel
theorem dX7_moveNearer_21 : decode cX7_moveNearer 21 = .ok (.invokevirtual 71, 3) := by decide +kernel
theorem dX7_moveNearer_24 : decode cX7_moveNearer 24 = .ok (.isub, 1) := by decide +kernel
theorem dX7_moveNearer_25 : decode cX7_moveNearer 25 = .ok (.istore_n 2, 1) := by decide +kernel
theorem dX7_moveNearer_26 : decode cX7_moveNearer 26 = .ok (.iconst 0, 1) := by decide +kernel
theorem dX7_moveNearer_27 : decode cX7_moveNearer 27 = .ok (.istore_n 3, 1) := by decide +kernel
theorem dX7_moveNearer_28 : decode cX7_moveNearer 28 = .ok (.iload_n 3, 1) := by decide +kernel
theorem dX7_moveNearer_29 : decode cX7_moveNearer 29 = .ok (.aload_n 0, 1) := by decide +kernel
theorem dX7_moveNearer_30 : decode cX7_moveNearer 30 = .ok (.getfield 32, 3) := by decide +kernel
theorem dX7_moveNearer_33 : decode cX7_moveNearer 33 = .ok (.if_icmp .ge 17, 3) := by decide +kernel
theorem dX7_moveNearer_36 : decode cX7_moveNearer 36 = .ok (.iload_n 2, 1) := by decide +kernel
theorem dX7_moveNearer_37 : decode cX7_moveNearer 37 = .ok (.ifCond .eq 13, 3) := by decide +kernel
theorem dX7_moveNearer_40 : decode cX7_moveNearer 40 = .ok (.iload_n 2, 1) := by decide +kernel
theorem dX7_moveNearer_41 : decode cX7_moveNearer 41 = .ok (.iconst 2, 1) := by decide +kernel
theorem dX7_moveNearer_42 : decode cX7_moveNearer 42 = .ok (.idiv, 1) := by decide +kernel
theorem dX7_moveNearer_43 : decode cX7_moveNearer 43 = .ok (.istore_n 2, 1) := by decide +kernel
theorem dX7_moveNearer_44 : decode cX7_moveNearer 44 = .ok (.iinc 3 1, 3) := by decide +kernel
theorem dX7_moveNearer_47 : decode cX7_moveNearer 47 = .ok (.goto (-19), 3) := by decide +kernel
theorem dX7_moveNearer_50 : decode cX7_moveNearer 50 = .ok (.iload_n 2, 1) := by decide +kernel
theorem dX7_moveNearer_51 : decode cX7_moveNearer 51 = .ok (.ifCond .ne 5, 3) := by decide +kernel
theorem dX7_moveNearer_54 : decode cX7_moveNearer 54 = .ok (.iconst 0, 1) := by decide +kernel
theorem dX7_moveNearer_55 : decode cX7_moveNearer 55 = .ok (.ireturn, 1) := by decide +kernel
theorem dX7_moveNearer_56 : decode cX7_moveNearer 56 = .ok (.aload_n 0, 1) := by decide +kernel
theorem dX7_moveNearer_57 : decode cX7_moveNearer 57 = .ok (.getfield 25, 3) := by decide +kernel
theorem dX7_moveNearer_60 : decode cX7_moveNearer 60 = .ok (.aload_n 0, 1) := by decide +kernel
theorem dX7_moveNearer_61 : decode cX7_moveNearer 61 = .ok (.getfield 21, 3) := by decide +kernel
theorem dX7_moveNearer_64 : decode cX7_moveNearer 64 = .ok (.invokevirtual 39, 3) := by decide +kernel
theorem dX7_moveNearer_67 : decode cX7_moveNearer 67 = .ok (.aload_n 0, 1) := by decide +kernel
theorem dX7_moveNearer_68 : decode cX7_moveNearer 68 = .ok (.getfield 25, 3) := by decide +kernel
theorem dX7_moveNearer_71 : decode cX7_moveNearer 71 = .ok (.aload_n 0, 1) := by decide +kernel
theorem dX7_moveNearer_72 : decode cX7_moveNearer 72 = .ok (.getfield 28, 3) := by decide +kernel
theorem dX7_moveNearer_75 : decode cX7_moveNearer 75 = .ok (.iload_n 1, 1) := by decide +kernel
theorem dX7_moveNearer_76 : decode cX7_moveNearer 76 = .ok (.iload_n 2, 1) := by decide +kernel
theorem dX7_moveNearer_77 : decode cX7_moveNearer 77 = .ok (.isub, 1) := by decide +kernel
theorem dX7_moveNearer_78 : decode cX7_moveNearer 78 = .ok (.invokevirtual 74, 3) := by decide +kernel
theorem dX7_moveNearer_81 : decode cX7_moveNearer 81 = .ok (.iconst 1, 1) := by decide +kernel
theorem dX7_moveNearer_82 : decode cX7_moveNearer 82 = .ok (.ireturn, 1) := by decide +kernel
theorem dX7_shorten_0 : decode cX7_shorten 0 = .ok (.aload_n 0, 1) := by decide +kernel
theorem dX7_shorten_1 : decode cX7_shorten 1 = .ok (.getfield 21, 3) := by decide +kernel
theorem dX7_shorten_4 : decode cX7_shorten 4 = .ok (.aload_n 0, 1) := by decide +kernel
theorem dX7_shorten_5 : decode cX7_shorten 5 = .ok (.getfield 28, 3) := by decide +kernel
theorem dX7_shorten_8 : decode cX7_shorten 8 = .ok (.invokevirtual 68, 3) := by decide +kernel
theorem dX7_shorten_11 : decode cX7_shorten 11 = .ok (.istore_n 1, 1) := by decide +kernel
theorem dX7_shorten_12 : decode cX7_shorten 12 = .ok (.iload_n 1, 1) := by decide +kernel
theorem dX7_shorten_13 : decode cX7_shorten 13 = .ok (.istore_n 2, 1) := by decide +kernel
theorem dX7_shorten_14 : decode cX7_shorten 14 = .ok (.aload_n 0, 1) := by decide +kernel
theorem dX7_shorten_15 : decode cX7_shorten 15 = .ok (.getfield 32, 3) := by decide +kernel
theorem dX7_shorten_18 : decode cX7_shorten 18 = .ok (.istore_n 3, 1) := by decide +kernel
theorem dX7_shorten_19 : decode cX7_shorten 19 = .ok (.iload_n 2, 1) := by decide +kernel
theorem dX7_shorten_20 : decode cX7_shorten 20 = .ok (.ifCond .le 23, 3) := by decide +kernel
theorem dX7_shorten_23 : decode cX7_shorten 23 = .ok (.iload_n 3, 1) := by decide +kernel
theorem dX7_shorten_24 : decode cX7_shorten 24 = .ok (.iload_n 1, 1) := by decide +kernel
theorem dX7_shorten_25 : decode cX7_shorten 25 = .ok (.iload_n 2, 1) := by decide +kernel
theorem dX7_shorten_26 : decode cX7_shorten 26 = .ok (.idiv, 1) := by decide +kernel
theorem dX7_shorten_27 : decode cX7_shorten 27 = .ok (.if_icmp .lt 16, 3) := by decide +kernel
theorem dX7_shorten_30 : decode cX7_shorten 30 = .ok (.iload_n 3, 1) := by decide +kernel
theorem dX7_shorten_31 : decode cX7_shorten 31 = .ok (.iload_n 1, 1) := by decide +kernel
theorem dX7_shorten_32 : decode cX7_shorten 32 = .ok (.iload_n 2, 1) := by decide +kernel
theorem dX7_shorten_33 : decode cX7_shorten 33 = .ok (.idiv, 1) := by decide +kernel
theorem dX7_shorten_34 : decode cX7_shorten 34 = .ok (.isub, 1) := by decide +kernel
theorem dX7_shorten_35 : decode cX7_shorten 35 = .ok (.istore_n 3, 1) := by decide +kernel
theorem dX7_shorten_36 : decode cX7_shorten 36 = .ok (.iload_n 2, 1) := by decide +kernel
theorem dX7_shorten_37 : decode cX7_shorten 37 = .ok (.iconst 2, 1) := by decide +kernel
theorem dX7_shorten_38 : decode cX7_shorten 38 = .ok (.idiv, 1) := by decide +kernel
theorem dX7_shorten_39 : decode cX7_shorten 39 = .ok (.istore_n 2, 1) := by decide +kernel
theorem dX7_shorten_40 : decode cX7_shorten 40 = .ok (.goto (-21), 3) := by decide +kernel
theorem dX7_shorten_43 : decode cX7_shorten 43 = .ok (.iload_n 2, 1) := by decide +kernel
theorem dX7_shorten_44 : decode cX7_shorten 44 = .ok (.ifCond .gt 5, 3) := by decide +kernel
theorem dX7_shorten_47 : decode cX7_shorten 47 = .ok (.iconst 0, 1) := by decide +kernel
theorem dX7_shorten_48 : decode cX7_shorten 48 = .ok (.ireturn, 1) := by decide +kernel
theorem dX7_shorten_49 : decode cX7_shorten 49 = .ok (.aload_n 0, 1) := by decide +kernel
theorem dX7_shorten_50 : decode cX7_shorten 50 = .ok (.getfield 25, 3) := by decide +kernel
theorem dX7_shorten_53 : decode cX7_shorten 53 = .ok (.aload_n 0, 1) := by decide +kernel
theorem dX7_shorten_54 : decode cX7_shorten 54 = .ok (.getfield 21, 3) := by decide +kernel
theorem dX7_shorten_57 : decode cX7_shorten 57 = .ok (.invokevirtual 39, 3) := by decide +kernel
theorem dX7_shorten_60 : decode cX7_shorten 60 = .ok (.aload_n 0, 1) := by decide +kernel
theorem dX7_shorten_61 : decode cX7_shorten 61 = .ok (.getfield 25, 3) := by decide +kernel
theorem dX7_shorten_64 : decode cX7_shorten 64 = .ok (.aload_n 0, 1) := by decide +kernel
theorem dX7_shorten_65 : decode cX7_shorten 65 = .ok (.getfield 28, 3) := by decide +kernel
theorem dX7_shorten_68 : decode cX7_shorten 68 = .ok (.iload_n 3, 1) := by decide +kernel
theorem dX7_shorten_69 : decode cX7_shorten 69 = .ok (.iload_n 2, 1) := by decide +kernel
theorem dX7_shorten_70 : decode cX7_shorten 70 = .ok (.imul, 1) := by decide +kernel
theorem dX7_shorten_71 : decode cX7_shorten 71 = .ok (.iload_n 2, 1) := by decide +kernel
theorem dX7_shorten_72 : decode cX7_shorten 72 = .ok (.invokevirtual 78, 3) := by decide +kernel
theorem dX7_shorten_75 : decode cX7_shorten 75 = .ok (.iconst 1, 1) := by decide +kernel
theorem dX7_shorten_76 : decode cX7_shorten 76 = .ok (.ireturn, 1) := by decide +kernel
theorem dX7_exchangeWithNext_0 : decode cX7_exchangeWithNext 0 = .ok (.aload_n 0, 1) := by decide +kernel
theorem dX7_exchangeWithNext_1 : decode cX7_exchangeWithNext 1 = .ok (.getfield 21, 3) := by decide +kernel
theorem dX7_exchangeWithNext_4 : decode cX7_exchangeWithNext 4 = .ok (.aload_n 0, 1) := by decide +kernel
theorem dX7_exchangeWithNext_5 : decode cX7_exchangeWithNext 5 = .ok (.getfield 28, 3) := by decide +kernel
theorem dX7_exchangeWithNext_8 : decode cX7_exchangeWithNext 8 = .ok (.iconst 1, 1) := by decide +kernel
theorem dX7_exchangeWithNext_9 : decode cX7_exchangeWithNext 9 = .ok (.iadd, 1) := by decide +kernel
theorem dX7_exchangeWithNext_10 : decode cX7_exchangeWithNext 10 = .ok (.invokevirtual 55, 3) := by decide +kernel
theorem dX7_exchangeWithNext_13 : decode cX7_exchangeWithNext 13 = .ok (.bipush 8, 2) := by decide +kernel
theorem dX7_exchangeWithNext_15 : decode cX7_exchangeWithNext 15 = .ok (.if_icmp .ne 30, 3) := by decide +kernel
theorem dX7_exchangeWithNext_18 : decode cX7_exchangeWithNext 18 = .ok (.aload_n 0, 1) := by decide +kernel
theorem dX7_exchangeWithNext_19 : decode cX7_exchangeWithNext 19 = .ok (.getfield 21, 3) := by decide +kernel
theorem dX7_exchangeWithNext_22 : decode cX7_exchangeWithNext 22 = .ok (.aload_n 0, 1) := by decide +kernel
theorem dX7_exchangeWithNext_23 : decode cX7_exchangeWithNext 23 = .ok (.getfield 28, 3) := by decide +kernel
theorem dX7_exchangeWithNext_26 : decode cX7_exchangeWithNext 26 = .ok (.invokevirtual 68, 3) := by decide +kernel
theorem dX7_exchangeWithNext_29 : decode cX7_exchangeWithNext 29 = .ok (.aload_n 0, 1) := by decide +kernel
theorem dX7_exchangeWithNext_30 : decode cX7_exchangeWithNext 30 = .ok (.getfield 21, 3) := by decide +kernel
theorem dX7_exchangeWithNext_33 : decode cX7_exchangeWithNext 33 = .ok (.aload_n 0, 1) := by decide +kernel
theorem dX7_exchangeWithNext_34 : decode cX7_exchangeWithNext 34 = .ok (.getfield 28, 3) := by decide +kernel
theorem dX7_exchangeWithNext_37 : decode cX7_exchangeWithNext 37 = .ok (.iconst 1, 1) := by decide +kernel
theorem dX7_exchangeWithNext_38 : decode cX7_exchangeWithNext 38 = .ok (.iadd, 1) := by decide +kernel
theorem dX7_exchangeWithNext_39 : decode cX7_exchangeWithNext 39 = .ok (.invokevirtual 68, 3) := by decide +kernel
theorem dX7_exchangeWithNext_42 : decode cX7_exchangeWithNext 42 = .ok (.if_icmp .gt 5, 3) := by decide +kernel
theorem dX7_exchangeWithNext_45 : decode cX7_exchangeWithNext 45 = .ok (.iconst 0, 1) := by decide +kernel
theorem dX7_exchangeWithNext_46 : decode cX7_exchangeWithNext 46 = .ok (.ireturn, 1) := by decide +kernel
theorem dX7_exchangeWithNext_47 : decode cX7_exchangeWithNext 47 = .ok (.aload_n 0, 1) := by decide +kernel
theorem dX7_exchangeWithNext_48 : decode cX7_exchangeWithNext 48 = .ok (.getfield 25, 3) := by decide +kernel
theorem dX7_exchangeWithNext_51 : decode cX7_exchangeWithNext 51 = .ok (.aload_n 0, 1) := by decide +kernel
theorem dX7_exchangeWithNext_52 : decode cX7_exchangeWithNext 52 = .ok (.getfield 21, 3) := by decide +kernel
theorem dX7_exchangeWithNext_55 : decode cX7_exchangeWithNext 55 = .ok (.invokevirtual 39, 3) := by decide +kernel
theorem dX7_exchangeWithNext_58 : decode cX7_exchangeWithNext 58 = .ok (.aload_n 0, 1) := by decide +kernel
theorem dX7_exchangeWithNext_59 : decode cX7_exchangeWithNext 59 = .ok (.getfield 25, 3) := by decide +kernel
theorem dX7_exchangeWithNext_62 : decode cX7_exchangeWithNext 62 = .ok (.aload_n 0, 1) := by decide +kernel
theorem dX7_exchangeWithNext_63 : decode cX7_exchangeWithNext 63 = .ok (.getfield 28, 3) := by decide +kernel
theorem dX7_exchangeWithNext_66 : decode cX7_exchangeWithNext 66 = .ok (.aload_n 0, 1) := by decide +kernel
theorem dX7_exchangeWithNext_67 : decode cX7_exchangeWithNext 67 = .ok (.getfield 28, 3) := by decide +kernel
theorem dX7_exchangeWithNext_70 : decode cX7_exchangeWithNext 70 = .ok (.iconst 1, 1) := by decide +kernel
theorem dX7_exchangeWithNext_71 : decode cX7_exchangeWithNext 71 = .ok (.iadd, 1) := by decide +kernel
theorem dX7_exchangeWithNext_72 : decode cX7_exchangeWithNext 72 = .ok (.invokevirtual 82, 3) := by decide +kernel
theorem dX7_exchangeWithNext_75 : decode cX7_exchangeWithNext 75 = .ok (.iconst 1, 1) := by decide +kernel
theorem dX7_exchangeWithNext_76 : decode cX7_exchangeWithNext 76 = .ok (.ireturn, 1) := by decide +kernel
theorem dX7_settle_0 : decode cX7_settle 0 = .ok (.aload_n 0, 1) := by decide +kernel
theorem dX7_settle_1 : decode cX7_settle 1 = .ok (.getfield 28, 3) := by decide +kernel
theorem dX7_settle_4 : decode cX7_settle 4 = .ok (.istore_n 1, 1) := by decide +kernel
theorem dX7_settle_5 : decode cX7_settle 5 = .ok (.aload_n 0, 1) := by decide +kernel
theorem dX7_settle_6 : decode cX7_settle 6 = .ok (.getfield 25, 3) := by decide +kernel
theorem dX7_settle_9 : decode cX7_settle 9 = .ok (.aload_n 0, 1) := by decide +kernel
theorem dX7_settle_10 : decode cX7_settle 10 = .ok (.getfield 28, 3) := by decide +kernel
theorem dX7_settle_13 : decode cX7_settle 13 = .ok (.invokevirtual 85, 3) := by decide +kernel
theorem dX7_settle_16 : decode cX7_settle 16 = .ok (.istore_n 2, 1) := by decide +kernel
theorem dX7_settle_17 : decode cX7_settle 17 = .ok (.iconst 0, 1) := by decide +kernel
theorem dX7_settle_18 : decode cX7_settle 18 = .ok (.istore_n 3, 1) := by decide +kernel
theorem dX7_settle_19 : decode cX7_settle 19 = .ok (.iload_n 3, 1) := by decide +kernel
theorem dX7_settle_20 : decode cX7_settle 20 = .ok (.bipush 31, 2) := by decide +kernel
theorem dX7_settle_22 : decode cX7_settle 22 = .ok (.if_icmp .ge 122, 3) := by decide +kernel
theorem dX7_settle_25 : decode cX7_settle 25 = .ok (.iload_n 2, 1) := by decide +kernel
theorem dX7_settle_26 : decode cX7_settle 26 = .ok (.ifCond .lt 118, 3) := by decide +kernel
theorem dX7_settle_29 : decode cX7_settle 29 = .ok (.aload_n 0, 1) := by decide +kernel
theorem dX7_settle_30 : decode cX7_settle 30 = .ok (.getfield 25, 3) := by decide +kernel
theorem dX7_settle_33 : decode cX7_settle 33 = .ok (.iload_n 2, 1) := by decide +kernel
theorem dX7_settle_34 : decode cX7_settle 34 = .ok (.invokevirtual 55, 3) := by decide +kernel
theorem dX7_settle_37 : decode cX7_settle 37 = .ok (.bipush 7, 2) := by decide +kernel
theorem dX7_settle_39 : decode cX7_settle 39 = .ok (.if_icmp .ne 18, 3) := by decide +kernel
theorem dX7_settle_42 : decode cX7_settle 42 = .ok (.iload_n 1, 1) := by decide +kernel
theorem dX7_settle_43 : decode cX7_settle 43 = .ok (.iload_n 2, 1) := by decide +kernel
theorem dX7_settle_44 : decode cX7_settle 44 = .ok (.iconst 1, 1) := by decide +kernel
theorem dX7_settle_45 : decode cX7_settle 45 = .ok (.iadd, 1) := by decide +kernel
theorem dX7_settle_46 : decode cX7_settle 46 = .ok (.if_icmp .ne 11, 3) := by decide +kernel
theorem dX7_settle_49 : decode cX7_settle 49 = .ok (.aload_n 0, 1) := by decide +kernel
theorem dX7_settle_50 : decode cX7_settle 50 = .ok (.iload_n 1, 1) := by decide +kernel
theorem dX7_settle_51 : decode cX7_settle 51 = .ok (.invokevirtual 88, 3) := by decide +kernel
theorem dX7_settle_54 : decode cX7_settle 54 = .ok (.goto 73, 3) := by decide +kernel
theorem dX7_settle_57 : decode cX7_settle 57 = .ok (.aload_n 0, 1) := by decide +kernel
theorem dX7_settle_58 : decode cX7_settle 58 = .ok (.getfield 25, 3) := by decide +kernel
theorem dX7_settle_61 : decode cX7_settle 61 = .ok (.iload_n 2, 1) := by decide +kernel
theorem dX7_settle_62 : decode cX7_settle 62 = .ok (.invokevirtual 55, 3) := by decide +kernel
theorem dX7_settle_65 : decode cX7_settle 65 = .ok (.iconst 5, 1) := by decide +kernel
theorem dX7_settle_66 : decode cX7_settle 66 = .ok (.if_icmp .ne 61, 3) := by decide +kernel
theorem dX7_settle_69 : decode cX7_settle 69 = .ok (.aload_n 0, 1) := by decide +kernel
theorem dX7_settle_70 : decode cX7_settle 70 = .ok (.getfield 35, 3) := by decide +kernel
theorem dX7_settle_73 : decode cX7_settle 73 = .ok (.invokevirtual 92, 3) := by decide +kernel
theorem dX7_settle_76 : decode cX7_settle 76 = .ok (.ifCond .ne 6, 3) := by decide +kernel
theorem dX7_settle_79 : decode cX7_settle 79 = .ok (.bipush (-6), 2) := by decide +kernel
theorem dX7_settle_81 : decode cX7_settle 81 = .ok (.ireturn, 1) := by decide +kernel
theorem dX7_settle_82 : decode cX7_settle 82 = .ok (.aload_n 0, 1) := by decide +kernel
theorem dX7_settle_83 : decode cX7_settle 83 = .ok (.getfield 25, 3) := by decide +kernel
theorem dX7_settle_86 : decode cX7_settle 86 = .ok (.iload_n 1, 1) := by decide +kernel
theorem dX7_settle_87 : decode cX7_settle 87 = .ok (.aload_n 0, 1) := by decide +kernel
theorem dX7_settle_88 : decode cX7_settle 88 = .ok (.getfield 25, 3) := by decide +kernel
theorem dX7_settle_91 : decode cX7_settle 91 = .ok (.iload_n 1, 1) := by decide +kernel
theorem dX7_settle_92 : decode cX7_settle 92 = .ok (.invokevirtual 97, 3) := by decide +kernel
theorem dX7_settle_95 : decode cX7_settle 95 = .ok (.aload_n 0, 1) := by decide +kernel
theorem dX7_settle_96 : decode cX7_settle 96 = .ok (.getfield 12, 3) := by decide +kernel
theorem dX7_settle_99 : decode cX7_settle 99 = .ok (.invokevirtual 100, 3) := by decide +kernel
theorem dX7_settle_102 : decode cX7_settle 102 = .ok (.aload_n 0, 1) := by decide +kernel
theorem dX7_settle_103 : decode cX7_settle 103 = .ok (.getfield 35, 3) := by decide +kernel
theorem dX7_settle_106 : decode cX7_settle 106 = .ok (.aload_n 0, 1) := by decide +kernel
theorem dX7_settle_107 : decode cX7_settle 107 = .ok (.getfield 25, 3) := by decide +kernel
theorem dX7_settle_110 : decode cX7_settle 110 = .ok (.iload_n 2, 1) := by decide +kernel
theorem dX7_settle_111 : decode cX7_settle 111 = .ok (.invokevirtual 68, 3) := by decide +kernel
theorem dX7_settle_114 : decode cX7_settle 114 = .ok (.aload_n 0, 1) := by decide +kernel
theorem dX7_settle_115 : decode cX7_settle 115 = .ok (.getfield 12, 3) := by decide +kernel
theorem dX7_settle_118 : decode cX7_settle 118 = .ok (.invokevirtual 104, 3) := by decide +kernel
theorem dX7_settle_121 : decode cX7_settle 121 = .ok (.iconst 1, 1) := by decide +kernel
theorem dX7_settle_122 : decode cX7_settle 122 = .ok (.if_icmp .eq 5, 3) := by decide +kernel
theorem dX7_settle_125 : decode cX7_settle 125 = .ok (.iconst 0, 1) := by decide +kernel
theorem dX7_settle_126 : decode cX7_settle 126 = .ok (.ireturn, 1) := by decide +kernel
theorem dX7_settle_127 : decode cX7_settle 127 = .ok (.iload_n 2, 1) := by decide +kernel
theorem dX7_settle_128 : decode cX7_settle 128 = .ok (.istore_n 1, 1) := by decide +kernel
theorem dX7_settle_129 : decode cX7_settle 129 = .ok (.aload_n 0, 1) := by decide +kernel
theorem dX7_settle_130 : decode cX7_settle 130 = .ok (.getfield 25, 3) := by decide +kernel
theorem dX7_settle_133 : decode cX7_settle 133 = .ok (.iload_n 1, 1) := by decide +kernel
theorem dX7_settle_134 : decode cX7_settle 134 = .ok (.invokevirtual 85, 3) := by decide +kernel
theorem dX7_settle_137 : decode cX7_settle 137 = .ok (.istore_n 2, 1) := by decide +kernel
theorem dX7_settle_138 : decode cX7_settle 138 = .ok (.iinc 3 1, 3) := by decide +kernel
theorem dX7_settle_141 : decode cX7_settle 141 = .ok (.goto (-122), 3) := by decide +kernel
theorem dX7_settle_144 : decode cX7_settle 144 = .ok (.iconst 1, 1) := by decide +kernel
theorem dX7_settle_145 : decode cX7_settle 145 = .ok (.ireturn, 1) := by decide +kernel
theorem dX7_lowerRest_0 : decode cX7_lowerRest 0 = .ok (.aload_n 0, 1) := by decide +kernel
theorem dX7_lowerRest_1 : decode cX7_lowerRest 1 = .ok (.getfield 25, 3) := by decide +kernel
theorem dX7_lowerRest_4 : decode cX7_lowerRest 4 = .ok (.iload_n 1, 1) := by decide +kernel
theorem dX7_lowerRest_5 : decode cX7_lowerRest 5 = .ok (.invokevirtual 97, 3) := by decide +kernel
theorem dX7_lowerRest_8 : decode cX7_lowerRest 8 = .ok (.istore_n 2, 1) := by decide +kernel
theorem dX7_lowerRest_9 : decode cX7_lowerRest 9 = .ok (.aload_n 0, 1) := by decide +kernel
theorem dX7_lowerRest_10 : decode cX7_lowerRest 10 = .ok (.getfield 25, 3) := by decide +kernel
theorem dX7_lowerRest_13 : decode cX7_lowerRest 13 = .ok (.iload_n 1, 1) := by decide +kernel
theorem dX7_lowerRest_14 : decode cX7_lowerRest 14 = .ok (.iload_n 2, 1) := by decide +kernel
theorem dX7_lowerRest_15 : decode cX7_lowerRest 15 = .ok (.aload_n 0, 1) := by decide +kernel
theorem dX7_lowerRest_16 : decode cX7_lowerRest 16 = .ok (.getfield 12, 3) := by decide +kernel
theorem dX7_lowerRest_19 : decode cX7_lowerRest 19 = .ok (.invokevirtual 100, 3) := by decide +kernel
theorem dX7_lowerRest_22 : decode cX7_lowerRest 22 = .ok (.aload_n 0, 1) := by decide +kernel
theorem dX7_lowerRest_23 : decode cX7_lowerRest 23 = .ok (.getfield 25, 3) := by decide +kernel
theorem dX7_lowerRest_26 : decode cX7_lowerRest 26 = .ok (.iload_n 2, 1) := by decide +kernel
theorem dX7_lowerRest_27 : decode cX7_lowerRest 27 = .ok (.invokevirtual 68, 3) := by decide +kernel
theorem dX7_lowerRest_30 : decode cX7_lowerRest 30 = .ok (.iconst 0, 1) := by decide +kernel
theorem dX7_lowerRest_31 : decode cX7_lowerRest 31 = .ok (.aload_n 0, 1) := by decide +kernel
theorem dX7_lowerRest_32 : decode cX7_lowerRest 32 = .ok (.getfield 12, 3) := by decide +kernel
theorem dX7_lowerRest_35 : decode cX7_lowerRest 35 = .ok (.invokevirtual 108, 3) := by decide +kernel
theorem dX7_lowerRest_38 : decode cX7_lowerRest 38 = .ok (.invokestatic 111, 3) := by decide +kernel
theorem dX7_lowerRest_41 : decode cX7_lowerRest 41 = .ok (.if_icmp .le 12, 3) := by decide +kernel
theorem dX7_lowerRest_44 : decode cX7_lowerRest 44 = .ok (.aload_n 0, 1) := by decide +kernel
theorem dX7_lowerRest_45 : decode cX7_lowerRest 45 = .ok (.getfield 25, 3) := by decide +kernel
theorem dX7_lowerRest_48 : decode cX7_lowerRest 48 = .ok (.iload_n 2, 1) := by decide +kernel
theorem dX7_lowerRest_49 : decode cX7_lowerRest 49 = .ok (.iconst 0, 1) := by decide +kernel
theorem dX7_lowerRest_50 : decode cX7_lowerRest 50 = .ok (.invokevirtual 74, 3) := by decide +kernel
theorem dX7_lowerRest_53 : decode cX7_lowerRest 53 = .ok (.return_, 1) := by decide +kernel
theorem dX8_init_0 : decode cX8_init 0 = .ok (.aload_n 0, 1) := by decide +kernel
theorem dX8_init_1 : decode cX8_init 1 = .ok (.invokespecial 3, 3) := by decide +kernel
theorem dX8_init_4 : decode cX8_init 4 = .ok (.aload_n 0, 1) := by decide +kernel
theorem dX8_init_5 : decode cX8_init 5 = .ok (.sipush 744, 3) := by decide +kernel
theorem dX8_init_8 : decode cX8_init 8 = .ok (.newarray .int, 2) := by decide +kernel
theorem dX8_init_10 : decode cX8_init 10 = .ok (.putfield 9, 3) := by decide +kernel
theorem dX8_init_13 : decode cX8_init 13 = .ok (.aload_n 0, 1) := by decide +kernel
theorem dX8_init_14 : decode cX8_init 14 = .ok (.sipush 744, 3) := by decide +kernel
theorem dX8_init_17 : decode cX8_init 17 = .ok (.newarray .int, 2) := by decide +kernel
theorem dX8_init_19 : decode cX8_init 19 = .ok (.putfield 15, 3) := by decide +kernel
theorem dX8_init_22 : decode cX8_init 22 = .ok (.aload_n 0, 1) := by decide +kernel
theorem dX8_init_23 : decode cX8_init 23 = .ok (.sipush 744, 3) := by decide +kernel
theorem dX8_init_26 : decode cX8_init 26 = .ok (.newarray .int, 2) := by decide +kernel
theorem dX8_init_28 : decode cX8_init 28 = .ok (.putfield 18, 3) := by decide +kernel
theorem dX8_init_31 : decode cX8_init 31 = .ok (.aload_n 0, 1) := by decide +kernel
theorem dX8_init_32 : decode cX8_init 32 = .ok (.sipush 744, 3) := by decide +kernel
theorem dX8_init_35 : decode cX8_init 35 = .ok (.newarray .int, 2) := by decide +kernel
theorem dX8_init_37 : decode cX8_init 37 = .ok (.putfield 21, 3) := by decide +kernel
theorem dX8_init_40 : decode cX8_init 40 = .ok (.aload_n 0, 1) := by decide +kernel
theorem dX8_init_41 : decode cX8_init 41 = .ok (.sipush 744, 3) := by decide +kernel
theorem dX8_init_44 : decode cX8_init 44 = .ok (.newarray .int, 2) := by decide +kernel
theorem dX8_init_46 : decode cX8_init 46 = .ok (.putfield 24, 3) := by decide +kernel
theorem dX8_init_49 : decode cX8_init 49 = .ok (.aload_n 0, 1) := by decide +kernel
theorem dX8_init_50 : decode cX8_init 50 = .ok (.sipush 744, 3) := by decide +kernel
theorem dX8_init_53 : decode cX8_init 53 = .ok (.newarray .int, 2) := by decide +kernel
theorem dX8_init_55 : decode cX8_init 55 = .ok (.putfield 27, 3) := by decide +kernel
theorem dX8_init_58 : decode cX8_init 58 = .ok (.aload_n 0, 1) := by decide +kernel
theorem dX8_init_59 : decode cX8_init 59 = .ok (.iconst 0, 1) := by decide +kernel
theorem dX8_init_60 : decode cX8_init 60 = .ok (.putfield 30, 3) := by decide +kernel
theorem dX8_init_63 : decode cX8_init 63 = .ok (.return_, 1) := by decide +kernel
theorem dX8_has_0 : decode cX8_has 0 = .ok (.iload_n 1, 1) := by decide +kernel
theorem dX8_has_1 : decode cX8_has 1 = .ok (.ifCond .lt 22, 3) := by decide +kernel
theorem dX8_has_4 : decode cX8_has 4 = .ok (.iload_n 1, 1) := by decide +kernel
theorem dX8_has_5 : decode cX8_has 5 = .ok (.aload_n 0, 1) := by decide +kernel
theorem dX8_has_6 : decode cX8_has 6 = .ok (.getfield 30, 3) := by decide +kernel
theorem dX8_has_9 : decode cX8_has 9 = .ok (.if_icmp .ge 14, 3) := by decide +kernel
theorem dX8_has_12 : decode cX8_has 12 = .ok (.iload_n 1, 1) := by decide +kernel
theorem dX8_has_13 : decode cX8_has 13 = .ok (.sipush 744, 3) := by decide +kernel
theorem dX8_has_16 : decode cX8_has 16 = .ok (.if_icmp .ge 7, 3) := by decide +kernel
theorem dX8_has_19 : decode cX8_has 19 = .ok (.iconst 1, 1) := by decide +kernel
theorem dX8_has_20 : decode cX8_has 20 = .ok (.goto 4, 3) := by decide +kernel
theorem dX8_has_23 : decode cX8_has 23 = .ok (.iconst 0, 1) := by decide +kernel
theorem dX8_has_24 : decode cX8_has 24 = .ok (.ireturn, 1) := by decide +kernel
theorem dX8_kind_0 : decode cX8_kind 0 = .ok (.aload_n 0, 1) := by decide +kernel
theorem dX8_kind_1 : decode cX8_kind 1 = .ok (.iload_n 1, 1) := by decide +kernel
theorem dX8_kind_2 : decode cX8_kind 2 = .ok (.invokevirtual 34, 3) := by decide +kernel
theorem dX8_kind_5 : decode cX8_kind 5 = .ok (.ifCond .eq 12, 3) := by decide +kernel
theorem dX8_kind_8 : decode cX8_kind 8 = .ok (.aload_n 0, 1) := by decide +kernel
theorem dX8_kind_9 : decode cX8_kind 9 = .ok (.getfield 9, 3) := by decide +kernel
theorem dX8_kind_12 : decode cX8_kind 12 = .ok (.iload_n 1, 1) := by decide +kernel
theorem dX8_kind_13 : decode cX8_kind 13 = .ok (.iaload, 1) := by decide +kernel
theorem dX8_kind_14 : decode cX8_kind 14 = .ok (.goto 4, 3) := by decide +kernel
theorem dX8_kind_17 : decode cX8_kind 17 = .ok (.iconst (-1), 1) := by decide +kernel
theorem dX8_kind_18 : decode cX8_kind 18 = .ok (.ireturn, 1) := by decide +kernel
theorem dX8_value_0 : decode cX8_value 0 = .ok (.aload_n 0, 1) := by decide +kernel
theorem dX8_value_1 : decode cX8_value 1 = .ok (.iload_n 1, 1) := by decide +kernel
theorem dX8_value_2 : decode cX8_value 2 = .ok (.invokevirtual 34, 3) := by decide +kernel
theorem dX8_value_5 : decode cX8_value 5 = .ok (.ifCond .eq 12, 3) := by decide +kernel
theorem dX8_value_8 : decode cX8_value 8 = .ok (.aload_n 0, 1) := by decide +kernel
theorem dX8_value_9 : decode cX8_value 9 = .ok (.getfield 15, 3) := by decide +kernel
theorem dX8_value_12 : decode cX8_value 12 = .ok (.iload_n 1, 1) := by decide +kernel
theorem dX8_value_13 : decode cX8_value 13 = .ok (.iaload, 1) := by decide +kernel
theorem dX8_value_14 : decode cX8_value 14 = .ok (.goto 4, 3) := by decide +kernel
theorem dX8_value_17 : decode cX8_value 17 = .ok (.iconst 0, 1) := by decide +kernel
theorem dX8_value_18 : decode cX8_value 18 = .ok (.ireturn, 1) := by decide +kernel
theorem dX8_goal_0 : decode cX8_goal 0 = .ok (.aload_n 0, 1) := by decide +kernel
theorem dX8_goal_1 : decode cX8_goal 1 = .ok (.iload_n 1, 1) := by decide +kernel
theorem dX8_goal_2 : decode cX8_goal 2 = .ok (.invokevirtual 34, 3) := by decide +kernel
theorem dX8_goal_5 : decode cX8_goal 5 = .ok (.ifCond .eq 12, 3) := by decide +kernel
theorem dX8_goal_8 : decode cX8_goal 8 = .ok (.aload_n 0, 1) := by decide +kernel
theorem dX8_goal_9 : decode cX8_goal 9 = .ok (.getfield 18, 3) := by decide +kernel
theorem dX8_goal_12 : decode cX8_goal 12 = .ok (.iload_n 1, 1) := by decide +kernel
theorem dX8_goal_13 : decode cX8_goal 13 = .ok (.iaload, 1) := by decide +kernel
theorem dX8_goal_14 : decode cX8_goal 14 = .ok (.goto 4, 3) := by decide +kernel
theorem dX8_goal_17 : decode cX8_goal 17 = .ok (.iconst 0, 1) := by decide +kernel
theorem dX8_goal_18 : decode cX8_goal 18 = .ok (.ireturn, 1) := by decide +kernel
theorem dX8_parent_0 : decode cX8_parent 0 = .ok (.aload_n 0, 1) := by decide +kernel
theorem dX8_parent_1 : decode cX8_parent 1 = .ok (.iload_n 1, 1) := by decide +kernel
theorem dX8_parent_2 : decode cX8_parent 2 = .ok (.invokevirtual 34, 3) := by decide +kernel
theorem dX8_parent_5 : decode cX8_parent 5 = .ok (.ifCond .eq 12, 3) := by decide +kernel
theorem dX8_parent_8 : decode cX8_parent 8 = .ok (.aload_n 0, 1) := by decide +kernel
theorem dX8_parent_9 : decode cX8_parent 9 = .ok (.getfield 21, 3) := by decide +kernel
theorem dX8_parent_12 : decode cX8_parent 12 = .ok (.iload_n 1, 1) := by decide +kernel
theorem dX8_parent_13 : decode cX8_parent 13 = .ok (.iaload, 1) := by decide +kernel
theorem dX8_parent_14 : decode cX8_parent 14 = .ok (.goto 4, 3) := by decide +kernel
theorem dX8_parent_17 : decode cX8_parent 17 = .ok (.iconst (-1), 1) := by decide +kernel
theorem dX8_parent_18 : decode cX8_parent 18 = .ok (.ireturn, 1) := by decide +kernel
theorem dX8_end_0 : decode cX8_end 0 = .ok (.aload_n 0, 1) := by decide +kernel
theorem dX8_end_1 : decode cX8_end 1 = .ok (.iload_n 1, 1) := by decide +kernel
theorem dX8_end_2 : decode cX8_end 2 = .ok (.invokevirtual 34, 3) := by decide +kernel
theorem dX8_end_5 : decode cX8_end 5 = .ok (.ifCond .eq 12, 3) := by decide +kernel
theorem dX8_end_8 : decode cX8_end 8 = .ok (.aload_n 0, 1) := by decide +kernel
theorem dX8_end_9 : decode cX8_end 9 = .ok (.getfield 24, 3) := by decide +kernel
theorem dX8_end_12 : decode cX8_end 12 = .ok (.iload_n 1, 1) := by decide +kernel
theorem dX8_end_13 : decode cX8_end 13 = .ok (.iaload, 1) := by decide +kernel
theorem dX8_end_14 : decode cX8_end 14 = .ok (.goto 7, 3) := by decide +kernel
theorem dX8_end_17 : decode cX8_end 17 = .ok (.aload_n 0, 1) := by decide +kernel
theorem dX8_end_18 : decode cX8_end 18 = .ok (.getfield 30, 3) := by decide +kernel
theorem dX8_end_21 : decode cX8_end 21 = .ok (.ireturn, 1) := by decide +kernel
theorem dX8_add_0 : decode cX8_add 0 = .ok (.aload_n 0, 1) := by decide +kernel
theorem dX8_add_1 : decode cX8_add 1 = .ok (.getfield 30, 3) := by decide +kernel
theorem dX8_add_4 : decode cX8_add 4 = .ok (.ifCond .lt 13, 3) := by decide +kernel
theorem dX8_add_7 : decode cX8_add 7 = .ok (.aload_n 0, 1) := by decide +kernel
theorem dX8_add_8 : decode cX8_add 8 = .ok (.getfield 30, 3) := by decide +kernel
theorem dX8_add_11 : decode cX8_add 11 = .ok (.sipush 744, 3) := by decide +kernel
theorem dX8_add_14 : decode cX8_add 14 = .ok (.if_icmp .lt 5, 3) := by decide +kernel
theorem dX8_add_17 : decode cX8_add 17 = .ok (.iconst (-1), 1) := by decide +kernel
theorem dX8_add_18 : decode cX8_add 18 = .ok (.ireturn, 1) := by decide +kernel
theorem dX8_add_19 : decode cX8_add 19 = .ok (.aload_n 0, 1) := by decide +kernel
theorem dX8_add_20 : decode cX8_add 20 = .ok (.getfield 9, 3) := by decide +kernel
theorem dX8_add_23 : decode cX8_add 23 = .ok (.aload_n 0, 1) := by decide +kernel
theorem dX8_add_24 : decode cX8_add 24 = .ok (.getfield 30, 3) := by decide +kernel
theorem dX8_add_27 : decode cX8_add 27 = .ok (.iload_n 1, 1) := by decide +kernel
theorem dX8_add_28 : decode cX8_add 28 = .ok (.iastore, 1) := by decide +kernel
theorem dX8_add_29 : decode cX8_add 29 = .ok (.aload_n 0, 1) := by decide +kernel
theorem dX8_add_30 : decode cX8_add 30 = .ok (.getfield 15, 3) := by decide +kernel
theorem dX8_add_33 : decode cX8_add 33 = .ok (.aload_n 0, 1) := by decide +kernel
theorem dX8_add_34 : decode cX8_add 34 = .ok (.getfield 30, 3) := by decide +kernel
theorem dX8_add_37 : decode cX8_add 37 = .ok (.iload_n 2, 1) := by decide +kernel
theorem dX8_add_38 : decode cX8_add 38 = .ok (.iastore, 1) := by decide +kernel
theorem dX8_add_39 : decode cX8_add 39 = .ok (.aload_n 0, 1) := by decide +kernel
theorem dX8_add_40 : decode cX8_add 40 = .ok (.getfield 18, 3) := by decide +kernel
theorem dX8_add_43 : decode cX8_add 43 = .ok (.aload_n 0, 1) := by decide +kernel
theorem dX8_add_44 : decode cX8_add 44 = .ok (.getfield 30, 3) := by decide +kernel
theorem dX8_add_47 : decode cX8_add 47 = .ok (.iconst 0, 1) := by decide +kernel
theorem dX8_add_48 : decode cX8_add 48 = .ok (.iastore, 1) := by decide +kernel
theorem dX8_add_49 : decode cX8_add 49 = .ok (.aload_n 0, 1) := by decide +kernel
theorem dX8_add_50 : decode cX8_add 50 = .ok (.getfield 21, 3) := by decide +kernel
theorem dX8_add_53 : decode cX8_add 53 = .ok (.aload_n 0, 1) := by decide +kernel
theorem dX8_add_54 : decode cX8_add 54 = .ok (.getfield 30, 3) := by decide +kernel
theorem dX8_add_57 : decode cX8_add 57 = .ok (.iload_n 3, 1) := by decide +kernel
theorem dX8_add_58 : decode cX8_add 58 = .ok (.iastore, 1) := by decide +kernel
theorem dX8_add_59 : decode cX8_add 59 = .ok (.aload_n 0, 1) := by decide +kernel
theorem dX8_add_60 : decode cX8_add 60 = .ok (.dup, 1) := by decide +kernel
theorem dX8_add_61 : decode cX8_add 61 = .ok (.getfield 30, 3) := by decide +kernel
theorem dX8_add_64 : decode cX8_add 64 = .ok (.iconst 1, 1) := by decide +kernel
theorem dX8_add_65 : decode cX8_add 65 = .ok (.iadd, 1) := by decide +kernel
theorem dX8_add_66 : decode cX8_add 66 = .ok (.putfield 30, 3) := by decide +kernel
theorem dX8_add_69 : decode cX8_add 69 = .ok (.aload_n 0, 1) := by decide +kernel
theorem dX8_add_70 : decode cX8_add 70 = .ok (.getfield 24, 3) := by decide +kernel
theorem dX8_add_73 : decode cX8_add 73 = .ok (.aload_n 0, 1) := by decide +kernel
theorem dX8_add_74 : decode cX8_add 74 = .ok (.getfield 30, 3) := by decide +kernel
theorem dX8_add_77 : decode cX8_add 77 = .ok (.iconst 1, 1) := by decide +kernel
theorem dX8_add_78 : decode cX8_add 78 = .ok (.isub, 1) := by decide +kernel
theorem dX8_add_79 : decode cX8_add 79 = .ok (.aload_n 0, 1) := by decide +kernel
theorem dX8_add_80 : decode cX8_add 80 = .ok (.getfield 30, 3) := by decide +kernel
theorem dX8_add_83 : decode cX8_add 83 = .ok (.iastore, 1) := by decide +kernel
theorem dX8_add_84 : decode cX8_add 84 = .ok (.aload_n 0, 1) := by decide +kernel
theorem dX8_add_85 : decode cX8_add 85 = .ok (.getfield 30, 3) := by decide +kernel
theorem dX8_add_88 : decode cX8_add 88 = .ok (.iconst 1, 1) := by decide +kernel
theorem dX8_add_89 : decode cX8_add 89 = .ok (.isub, 1) := by decide +kernel
theorem dX8_add_90 : decode cX8_add 90 = .ok (.ireturn, 1) := by decide +kernel
theorem dX8_setValue_0 : decode cX8_setValue 0 = .ok (.aload_n 0, 1) := by decide +kernel
theorem dX8_setValue_1 : decode cX8_setValue 1 = .ok (.iload_n 1, 1) := by decide +kernel
theorem dX8_setValue_2 : decode cX8_setValue 2 = .ok (.invokevirtual 34, 3) := by decide +kernel
theorem dX8_setValue_5 : decode cX8_setValue 5 = .ok (.ifCond .eq 10, 3) := by decide +kernel
theorem dX8_setValue_8 : decode cX8_setValue 8 = .ok (.aload_n 0, 1) := by decide +kernel
theorem dX8_setValue_9 : decode cX8_setValue 9 = .ok (.getfield 15, 3) := by decide +kernel
theorem dX8_setValue_12 : decode cX8_setValue 12 = .ok (.iload_n 1, 1) := by decide +kernel
theorem dX8_setValue_13 : decode cX8_setValue 13 = .ok (.iload_n 2, 1) := by decide +kernel
theorem dX8_setValue_14 : decode cX8_setValue 14 = .ok (.iastore, 1) := by decide +kernel
theorem dX8_setValue_15 : decode cX8_setValue 15 = .ok (.return_, 1) := by decide +kernel
theorem dX8_setGoal_0 : decode cX8_setGoal 0 = .ok (.aload_n 0, 1) := by decide +kernel
theorem dX8_setGoal_1 : decode cX8_setGoal 1 = .ok (.iload_n 1, 1) := by decide +kernel
theorem dX8_setGoal_2 : decode cX8_setGoal 2 = .ok (.invokevirtual 34, 3) := by decide +kernel
theorem dX8_setGoal_5 : decode cX8_setGoal 5 = .ok (.ifCond .eq 10, 3) := by decide +kernel
theorem dX8_setGoal_8 : decode cX8_setGoal 8 = .ok (.aload_n 0, 1) := by decide +kernel
theorem dX8_setGoal_9 : decode cX8_setGoal 9 = .ok (.getfield 18, 3) := by decide +kernel
theorem dX8_setGoal_12 : decode cX8_setGoal 12 = .ok (.iload_n 1, 1) := by decide +kernel
theorem dX8_setGoal_13 : decode cX8_setGoal 13 = .ok (.iload_n 2, 1) := by decide +kernel
theorem dX8_setGoal_14 : decode cX8_setGoal 14 = .ok (.iastore, 1) := by decide +kernel
theorem dX8_setGoal_15 : decode cX8_setGoal 15 = .ok (.return_, 1) := by decide +kernel
theorem dX8_close_0 : decode cX8_close 0 = .ok (.aload_n 0, 1) := by decide +kernel
theorem dX8_close_1 : decode cX8_close 1 = .ok (.iload_n 1, 1) := by decide +kernel
theorem dX8_close_2 : decode cX8_close 2 = .ok (.invokevirtual 34, 3) := by decide +kernel
theorem dX8_close_5 : decode cX8_close 5 = .ok (.ifCond .eq 13, 3) := by decide +kernel
theorem dX8_close_8 : decode cX8_close 8 = .ok (.aload_n 0, 1) := by decide +kernel
theorem dX8_close_9 : decode cX8_close 9 = .ok (.getfield 24, 3) := by decide +kernel
theorem dX8_close_12 : decode cX8_close 12 = .ok (.iload_n 1, 1) := by decide +kernel
theorem dX8_close_13 : decode cX8_close 13 = .ok (.aload_n 0, 1) := by decide +kernel
theorem dX8_close_14 : decode cX8_close 14 = .ok (.getfield 30, 3) := by decide +kernel
theorem dX8_close_17 : decode cX8_close 17 = .ok (.iastore, 1) := by decide +kernel
theorem dX8_close_18 : decode cX8_close 18 = .ok (.return_, 1) := by decide +kernel
theorem dX8_cut_0 : decode cX8_cut 0 = .ok (.iload_n 1, 1) := by decide +kernel
theorem dX8_cut_1 : decode cX8_cut 1 = .ok (.ifCond .lt 16, 3) := by decide +kernel
theorem dX8_cut_4 : decode cX8_cut 4 = .ok (.iload_n 1, 1) := by decide +kernel
theorem dX8_cut_5 : decode cX8_cut 5 = .ok (.aload_n 0, 1) := by decide +kernel
theorem dX8_cut_6 : decode cX8_cut 6 = .ok (.getfield 30, 3) := by decide +kernel
theorem dX8_cut_9 : decode cX8_cut 9 = .ok (.if_icmp .ge 8, 3) := by decide +kernel
theorem dX8_cut_12 : decode cX8_cut 12 = .ok (.aload_n 0, 1) := by decide +kernel
theorem dX8_cut_13 : decode cX8_cut 13 = .ok (.iload_n 1, 1) := by decide +kernel
theorem dX8_cut_14 : decode cX8_cut 14 = .ok (.putfield 30, 3) := by decide +kernel
theorem dX8_cut_17 : decode cX8_cut 17 = .ok (.return_, 1) := by decide +kernel
theorem dX8_exchange_0 : decode cX8_exchange 0 = .ok (.aload_n 0, 1) := by decide +kernel
theorem dX8_exchange_1 : decode cX8_exchange 1 = .ok (.iload_n 1, 1) := by decide +kernel
theorem dX8_exchange_2 : decode cX8_exchange 2 = .ok (.invokevirtual 38, 3) := by decide +kernel
theorem dX8_exchange_5 : decode cX8_exchange 5 = .ok (.istore_n 3, 1) := by decide +kernel
theorem dX8_exchange_6 : decode cX8_exchange 6 = .ok (.aload_n 0, 1) := by decide +kernel
theorem dX8_exchange_7 : decode cX8_exchange 7 = .ok (.iload_n 1, 1) := by decide +kernel
theorem dX8_exchange_8 : decode cX8_exchange 8 = .ok (.aload_n 0, 1) := by decide +kernel
theorem dX8_exchange_9 : decode cX8_exchange 9 = .ok (.iload_n 2, 1) := by decide +kernel
theorem dX8_exchange_10 : decode cX8_exchange 10 = .ok (.invokevirtual 38, 3) := by decide +kernel
theorem dX8_exchange_13 : decode cX8_exchange 13 = .ok (.invokevirtual 42, 3) := by decide +kernel
theorem dX8_exchange_16 : decode cX8_exchange 16 = .ok (.aload_n 0, 1) := by decide +kernel
theorem dX8_exchange_17 : decode cX8_exchange 17 = .ok (.iload_n 2, 1) := by decide +kernel
theorem dX8_exchange_18 : decode cX8_exchange 18 = .ok (.iload_n 3, 1) := by decide +kernel
theorem dX8_exchange_19 : decode cX8_exchange 19 = .ok (.invokevirtual 42, 3) := by decide +kernel
theorem dX8_exchange_22 : decode cX8_exchange 22 = .ok (.return_, 1) := by decide +kernel
theorem dX8_copy_0 : decode cX8_copy 0 = .ok (.aload_n 0, 1) := by decide +kernel
theorem dX8_copy_1 : decode cX8_copy 1 = .ok (.iconst 0, 1) := by decide +kernel
theorem dX8_copy_2 : decode cX8_copy 2 = .ok (.aload_n 1, 1) := by decide +kernel
theorem dX8_copy_3 : decode cX8_copy 3 = .ok (.getfield 30, 3) := by decide +kernel
theorem dX8_copy_6 : decode cX8_copy 6 = .ok (.sipush 744, 3) := by decide +kernel
theorem dX8_copy_9 : decode cX8_copy 9 = .ok (.invokestatic 46, 3) := by decide +kernel
theorem dX8_copy_12 : decode cX8_copy 12 = .ok (.invokestatic 52, 3) := by decide +kernel
theorem dX8_copy_15 : decode cX8_copy 15 = .ok (.putfield 30, 3) := by decide +kernel
theorem dX8_copy_18 : decode cX8_copy 18 = .ok (.aload_n 1, 1) := by decide +kernel
theorem dX8_copy_19 : decode cX8_copy 19 = .ok (.getfield 9, 3) := by decide +kernel
theorem dX8_copy_22 : decode cX8_copy 22 = .ok (.iconst 0, 1) := by decide +kernel
theorem dX8_copy_23 : decode cX8_copy 23 = .ok (.aload_n 0, 1) := by decide +kernel
theorem dX8_copy_24 : decode cX8_copy 24 = .ok (.getfield 9, 3) := by decide +kernel
theorem dX8_copy_27 : decode cX8_copy 27 = .ok (.iconst 0, 1) := by decide +kernel
theorem dX8_copy_28 : decode cX8_copy 28 = .ok (.aload_n 0, 1) := by decide +kernel
theorem dX8_copy_29 : decode cX8_copy 29 = .ok (.getfield 30, 3) := by decide +kernel
theorem dX8_copy_32 : decode cX8_copy 32 = .ok (.invokestatic 55, 3) := by decide +kernel
theorem dX8_copy_35 : decode cX8_copy 35 = .ok (.aload_n 1, 1) := by decide +kernel
theorem dX8_copy_36 : decode cX8_copy 36 = .ok (.getfield 15, 3) := by decide +kernel
theorem dX8_copy_39 : decode cX8_copy 39 = .ok (.iconst 0, 1) := by decide +kernel
theorem dX8_copy_40 : decode cX8_copy 40 = .ok (.aload_n 0, 1) := by decide +kernel
theorem dX8_copy_41 : decode cX8_copy 41 = .ok (.getfield 15, 3) := by decide +kernel
theorem dX8_copy_44 : decode cX8_copy 44 = .ok (.iconst 0, 1) := by decide +kernel
theorem dX8_copy_45 : decode cX8_copy 45 = .ok (.aload_n 0, 1) := by decide +kernel
theorem dX8_copy_46 : decode cX8_copy 46 = .ok (.getfield 30, 3) := by decide +kernel
theorem dX8_copy_49 : decode cX8_copy 49 = .ok (.invokestatic 55, 3) := by decide +kernel
theorem dX8_copy_52 : decode cX8_copy 52 = .ok (.aload_n 1, 1) := by decide +kernel
theorem dX8_copy_53 : decode cX8_copy 53 = .ok (.getfield 18, 3) := by decide +kernel
theorem dX8_copy_56 : decode cX8_copy 56 = .ok (.iconst 0, 1) := by decide +kernel
theorem dX8_copy_57 : decode cX8_copy 57 = .ok (.aload_n 0, 1) := by decide +kernel
theorem dX8_copy_58 : decode cX8_copy 58 = .ok (.getfield 18, 3) := by decide +kernel
theorem dX8_copy_61 : decode cX8_copy 61 = .ok (.iconst 0, 1) := by decide +kernel
theorem dX8_copy_62 : decode cX8_copy 62 = .ok (.aload_n 0, 1) := by decide +kernel
theorem dX8_copy_63 : decode cX8_copy 63 = .ok (.getfield 30, 3) := by decide +kernel
theorem dX8_copy_66 : decode cX8_copy 66 = .ok (.invokestatic 55, 3) := by decide +kernel
theorem dX8_copy_69 : decode cX8_copy 69 = .ok (.aload_n 1, 1) := by decide +kernel
theorem dX8_copy_70 : decode cX8_copy 70 = .ok (.getfield 21, 3) := by decide +kernel
theorem dX8_copy_73 : decode cX8_copy 73 = .ok (.iconst 0, 1) := by decide +kernel
theorem dX8_copy_74 : decode cX8_copy 74 = .ok (.aload_n 0, 1) := by decide +kernel
theorem dX8_copy_75 : decode cX8_copy 75 = .ok (.getfield 21, 3) := by decide +kernel
theorem dX8_copy_78 : decode cX8_copy 78 = .ok (.iconst 0, 1) := by decide +kernel
theorem dX8_copy_79 : decode cX8_copy 79 = .ok (.aload_n 0, 1) := by decide +kernel
theorem dX8_copy_80 : decode cX8_copy 80 = .ok (.getfield 30, 3) := by decide +kernel
theorem dX8_copy_83 : decode cX8_copy 83 = .ok (.invokestatic 55, 3) := by decide +kernel
theorem dX8_copy_86 : decode cX8_copy 86 = .ok (.aload_n 1, 1) := by decide +kernel
theorem dX8_copy_87 : decode cX8_copy 87 = .ok (.getfield 24, 3) := by decide +kernel
theorem dX8_copy_90 : decode cX8_copy 90 = .ok (.iconst 0, 1) := by decide +kernel
theorem dX8_copy_91 : decode cX8_copy 91 = .ok (.aload_n 0, 1) := by decide +kernel
theorem dX8_copy_92 : decode cX8_copy 92 = .ok (.getfield 24, 3) := by decide +kernel
theorem dX8_copy_95 : decode cX8_copy 95 = .ok (.iconst 0, 1) := by decide +kernel
theorem dX8_copy_96 : decode cX8_copy 96 = .ok (.aload_n 0, 1) := by decide +kernel
theorem dX8_copy_97 : decode cX8_copy 97 = .ok (.getfield 30, 3) := by decide +kernel
theorem dX8_copy_100 : decode cX8_copy 100 = .ok (.invokestatic 55, 3) := by decide +kernel
theorem dX8_copy_103 : decode cX8_copy 103 = .ok (.return_, 1) := by decide +kernel
theorem dX8_dropFromRow_0 : decode cX8_dropFromRow 0 = .ok (.iload_n 1, 1) := by decide +kernel
theorem dX8_dropFromRow_1 : decode cX8_dropFromRow 1 = .ok (.iconst 1, 1) := by decide +kernel
theorem dX8_dropFromRow_2 : decode cX8_dropFromRow 2 = .ok (.iadd, 1) := by decide +kernel
theorem dX8_dropFromRow_3 : decode cX8_dropFromRow 3 = .ok (.istore 4, 2) := by decide +kernel
theorem dX8_dropFromRow_5 : decode cX8_dropFromRow 5 = .ok (.iconst 0, 1) := by decide +kernel
theorem dX8_dropFromRow_6 : decode cX8_dropFromRow 6 = .ok (.istore 5, 2) := by decide +kernel
theorem dX8_dropFromRow_8 : decode cX8_dropFromRow 8 = .ok (.iload 5, 2) := by decide +kernel
theorem dX8_dropFromRow_10 : decode cX8_dropFromRow 10 = .ok (.iload_n 2, 1) := by decide +kernel
theorem dX8_dropFromRow_11 : decode cX8_dropFromRow 11 = .ok (.if_icmp .ge 17, 3) := by decide +kernel
theorem dX8_dropFromRow_14 : decode cX8_dropFromRow 14 = .ok (.aload_n 0, 1) := by decide +kernel
theorem dX8_dropFromRow_15 : decode cX8_dropFromRow 15 = .ok (.iload 4, 2) := by decide +kernel
theorem dX8_dropFromRow_17 : decode cX8_dropFromRow 17 = .ok (.invokevirtual 61, 3) := by decide +kernel
theorem dX8_dropFromRow_20 : decode cX8_dropFromRow 20 = .ok (.istore 4, 2) := by decide +kernel
theorem dX8_dropFromRow_22 : decode cX8_dropFromRow 22 = .ok (.iinc 5 1, 3) := by decide +kernel
theorem dX8_dropFromRow_25 : decode cX8_dropFromRow 25 = .ok (.goto (-17), 3) := by decide +kernel
theorem dX8_dropFromRow_28 : decode cX8_dropFromRow 28 = .ok (.iload 4, 2) := by decide +kernel
theorem dX8_dropFromRow_30 : decode cX8_dropFromRow 30 = .ok (.istore 5, 2) := by decide +kernel
theorem dX8_dropFromRow_32 : decode cX8_dropFromRow 32 = .ok (.iconst 0, 1) := by decide +kernel
theorem dX8_dropFromRow_33 : decode cX8_dropFromRow 33 = .ok (.istore 6, 2) := by decide +kernel
theorem dX8_dropFromRow_35 : decode cX8_dropFromRow 35 = .ok (.iload 6, 2) := by decide +kernel
theorem dX8_dropFromRow_37 : decode cX8_dropFromRow 37 = .ok (.iload_n 3, 1) := by decide +kernel
theorem dX8_dropFromRow_38 : decode cX8_dropFromRow 38 = .ok (.if_icmp .ge 17, 3) := by decide +kernel
theorem dX8_dropFromRow_41 : decode cX8_dropFromRow 41 = .ok (.aload_n 0, 1) := by decide +kernel
theorem dX8_dropFromRow_42 : decode cX8_dropFromRow 42 = .ok (.iload 5, 2) := by decide +kernel
theorem dX8_dropFromRow_44 : decode cX8_dropFromRow 44 = .ok (.invokevirtual 61, 3) := by decide +kernel
theorem dX8_dropFromRow_47 : decode cX8_dropFromRow 47 = .ok (.istore 5, 2) := by decide +kernel
theorem dX8_dropFromRow_49 : decode cX8_dropFromRow 49 = .ok (.iinc 6 1, 3) := by decide +kernel
theorem dX8_dropFromRow_52 : decode cX8_dropFromRow 52 = .ok (.goto (-17), 3) := by decide +kernel
theorem dX8_dropFromRow_55 : decode cX8_dropFromRow 55 = .ok (.aload_n 0, 1) := by decide +kernel
theorem dX8_dropFromRow_56 : decode cX8_dropFromRow 56 = .ok (.iload_n 1, 1) := by decide +kernel
theorem dX8_dropFromRow_57 : decode cX8_dropFromRow 57 = .ok (.aload_n 0, 1) := by decide +kernel
theorem dX8_dropFromRow_58 : decode cX8_dropFromRow 58 = .ok (.iload_n 1, 1) := by decide +kernel
theorem dX8_dropFromRow_59 : decode cX8_dropFromRow 59 = .ok (.invokevirtual 38, 3) := by decide +kernel
theorem dX8_dropFromRow_62 : decode cX8_dropFromRow 62 = .ok (.iload_n 3, 1) := by decide +kernel
theorem dX8_dropFromRow_63 : decode cX8_dropFromRow 63 = .ok (.isub, 1) := by decide +kernel
theorem dX8_dropFromRow_64 : decode cX8_dropFromRow 64 = .ok (.invokevirtual 42, 3) := by decide +kernel
theorem dX8_dropFromRow_67 : decode cX8_dropFromRow 67 = .ok (.aload_n 0, 1) := by decide +kernel
theorem dX8_dropFromRow_68 : decode cX8_dropFromRow 68 = .ok (.iload 4, 2) := by decide +kernel
theorem dX8_dropFromRow_70 : decode cX8_dropFromRow 70 = .ok (.iload 5, 2) := by decide +kernel
theorem dX8_dropFromRow_72 : decode cX8_dropFromRow 72 = .ok (.invokevirtual 64, 3) := by decide +kernel
theorem dX8_dropFromRow_75 : decode cX8_dropFromRow 75 = .ok (.return_, 1) := by decide +kernel
theorem dX8_dropParts_0 : decode cX8_dropParts 0 = .ok (.iload_n 1, 1) := by decide +kernel
theorem dX8_dropParts_1 : decode cX8_dropParts 1 = .ok (.ifCond .lt 26, 3) := by decide +kernel
theorem dX8_dropParts_4 : decode cX8_dropParts 4 = .ok (.iload_n 2, 1) := by decide +kernel
theorem dX8_dropParts_5 : decode cX8_dropParts 5 = .ok (.iload_n 1, 1) := by decide +kernel
theorem dX8_dropParts_6 : decode cX8_dropParts 6 = .ok (.if_icmp .le 21, 3) := by decide +kernel
theorem dX8_dropParts_9 : decode cX8_dropParts 9 = .ok (.iload_n 2, 1) := by decide +kernel
theorem dX8_dropParts_10 : decode cX8_dropParts 10 = .ok (.aload_n 0, 1) := by decide +kernel
theorem dX8_dropParts_11 : decode cX8_dropParts 11 = .ok (.getfield 30, 3) := by decide +kernel
theorem dX8_dropParts_14 : decode cX8_dropParts 14 = .ok (.if_icmp .gt 13, 3) := by decide +kernel
theorem dX8_dropParts_17 : decode cX8_dropParts 17 = .ok (.aload_n 0, 1) := by decide +kernel
theorem dX8_dropParts_18 : decode cX8_dropParts 18 = .ok (.getfield 30, 3) := by decide +kernel
theorem dX8_dropParts_21 : decode cX8_dropParts 21 = .ok (.sipush 744, 3) := by decide +kernel
theorem dX8_dropParts_24 : decode cX8_dropParts 24 = .ok (.if_icmp .le 4, 3) := by decide +kernel
theorem dX8_dropParts_27 : decode cX8_dropParts 27 = .ok (.return_, 1) := by decide +kernel
theorem dX8_dropParts_28 : decode cX8_dropParts 28 = .ok (.iload_n 2, 1) := by decide +kernel
theorem dX8_dropParts_29 : decode cX8_dropParts 29 = .ok (.iload_n 1, 1) := by decide +kernel
theorem dX8_dropParts_30 : decode cX8_dropParts 30 = .ok (.isub, 1) := by decide +kernel
theorem dX8_dropParts_31 : decode cX8_dropParts 31 = .ok (.istore_n 3, 1) := by decide +kernel
theorem dX8_dropParts_32 : decode cX8_dropParts 32 = .ok (.iconst 0, 1) := by decide +kernel
theorem dX8_dropParts_33 : decode cX8_dropParts 33 = .ok (.istore 4, 2) := by decide +kernel
theorem dX8_dropParts_35 : decode cX8_dropParts 35 = .ok (.iload 4, 2) := by decide +kernel
theorem dX8_dropParts_37 : decode cX8_dropParts 37 = .ok (.aload_n 0, 1) := by decide +kernel
theorem dX8_dropParts_38 : decode cX8_dropParts 38 = .ok (.getfield 30, 3) := by decide +kernel
theorem dX8_dropParts_41 : decode cX8_dropParts 41 = .ok (.if_icmp .ge 154, 3) := by decide +kernel
theorem dX8_dropParts_44 : decode cX8_dropParts 44 = .ok (.iload 4, 2) := by decide +kernel
theorem dX8_dropParts_46 : decode cX8_dropParts 46 = .ok (.iload_n 1, 1) := by decide +kernel
theorem dX8_dropParts_47 : decode cX8_dropParts 47 = .ok (.if_icmp .lt 9, 3) := by decide +kernel
theorem dX8_dropParts_50 : decode cX8_dropParts 50 = .ok (.iload 4, 2) := by decide +kernel
theorem dX8_dropParts_52 : decode cX8_dropParts 52 = .ok (.iload_n 2, 1) := by decide +kernel
theorem dX8_dropParts_53 : decode cX8_dropParts 53 = .ok (.if_icmp .lt 136, 3) := by decide +kernel
theorem dX8_dropParts_56 : decode cX8_dropParts 56 = .ok (.iload 4, 2) := by decide +kernel
theorem dX8_dropParts_58 : decode cX8_dropParts 58 = .ok (.iload_n 1, 1) := by decide +kernel
theorem dX8_dropParts_59 : decode cX8_dropParts 59 = .ok (.if_icmp .ge 8, 3) := by decide +kernel
theorem dX8_dropParts_62 : decode cX8_dropParts 62 = .ok (.iload 4, 2) := by decide +kernel
theorem dX8_dropParts_64 : decode cX8_dropParts 64 = .ok (.goto 7, 3) := by decide +kernel
theorem dX8_dropParts_67 : decode cX8_dropParts 67 = .ok (.iload 4, 2) := by decide +kernel
theorem dX8_dropParts_69 : decode cX8_dropParts 69 = .ok (.iload_n 3, 1) := by decide +kernel
theorem dX8_dropParts_70 : decode cX8_dropParts 70 = .ok (.isub, 1) := by decide +kernel
theorem dX8_dropParts_71 : decode cX8_dropParts 71 = .ok (.istore 5, 2) := by decide +kernel
theorem dX8_dropParts_73 : decode cX8_dropParts 73 = .ok (.aload_n 0, 1) := by decide +kernel
theorem dX8_dropParts_74 : decode cX8_dropParts 74 = .ok (.getfield 9, 3) := by decide +kernel
theorem dX8_dropParts_77 : decode cX8_dropParts 77 = .ok (.iload 5, 2) := by decide +kernel
theorem dX8_dropParts_79 : decode cX8_dropParts 79 = .ok (.aload_n 0, 1) := by decide +kernel
theorem dX8_dropParts_80 : decode cX8_dropParts 80 = .ok (.getfield 9, 3) := by decide +kernel
theorem dX8_dropParts_83 : decode cX8_dropParts 83 = .ok (.iload 4, 2) := by decide +kernel
theorem dX8_dropParts_85 : decode cX8_dropParts 85 = .ok (.iaload, 1) := by decide +kernel
theorem dX8_dropParts_86 : decode cX8_dropParts 86 = .ok (.iastore, 1) := by decide +kernel
theorem dX8_dropParts_87 : decode cX8_dropParts 87 = .ok (.aload_n 0, 1) := by decide +kernel
theorem dX8_dropParts_88 : decode cX8_dropParts 88 = .ok (.getfield 15, 3) := by decide +kernel
theorem dX8_dropParts_91 : decode cX8_dropParts 91 = .ok (.iload 5, 2) := by decide +kernel
theorem dX8_dropParts_93 : decode cX8_dropParts 93 = .ok (.aload_n 0, 1) := by decide +kernel
theorem dX8_dropParts_94 : decode cX8_dropParts 94 = .ok (.getfield 15, 3) := by decide +kernel
theorem dX8_dropParts_97 : decode cX8_dropParts 97 = .ok (.iload 4, 2) := by decide +kernel
theorem dX8_dropParts_99 : decode cX8_dropParts 99 = .ok (.iaload, 1) := by decide +kernel
theorem dX8_dropParts_100 : decode cX8_dropParts 100 = .ok (.iastore, 1) := by decide +kernel
theorem dX8_dropParts_101 : decode cX8_dropParts 101 = .ok (.aload_n 0, 1) := by decide +kernel
theorem dX8_dropParts_102 : decode cX8_dropParts 102 = .ok (.getfield 18, 3) := by decide +kernel
theorem dX8_dropParts_105 : decode cX8_dropParts 105 = .ok (.iload 5, 2) := by decide +kernel
theorem dX8_dropParts_107 : decode cX8_dropParts 107 = .ok (.aload_n 0, 1) := by decide +kernel
theorem dX8_dropParts_108 : decode cX8_dropParts 108 = .ok (.getfield 18, 3) := by decide +kernel
theorem dX8_dropParts_111 : decode cX8_dropParts 111 = .ok (.iload 4, 2) := by decide +kernel
theorem dX8_dropParts_113 : decode cX8_dropParts 113 = .ok (.iaload, 1) := by decide +kernel
theorem dX8_dropParts_114 : decode cX8_dropParts 114 = .ok (.iastore, 1) := by decide +kernel
theorem dX8_dropParts_115 : decode cX8_dropParts 115 = .ok (.aload_n 0, 1) := by decide +kernel
theorem dX8_dropParts_116 : decode cX8_dropParts 116 = .ok (.getfield 21, 3) := by decide +kernel
theorem dX8_dropParts_119 : decode cX8_dropParts 119 = .ok (.iload 5, 2) := by decide +kernel
theorem dX8_dropParts_121 : decode cX8_dropParts 121 = .ok (.aload_n 0, 1) := by decide +kernel
theorem dX8_dropParts_122 : decode cX8_dropParts 122 = .ok (.getfield 21, 3) := by decide +kernel
theorem dX8_dropParts_125 : decode cX8_dropParts 125 = .ok (.iload 4, 2) := by decide +kernel
theorem dX8_dropParts_127 : decode cX8_dropParts 127 = .ok (.iaload, 1) := by decide +kernel
theorem dX8_dropParts_128 : decode cX8_dropParts 128 = .ok (.iload_n 2, 1) := by decide +kernel
theorem dX8_dropParts_129 : decode cX8_dropParts 129 = .ok (.if_icmp .lt 15, 3) := by decide +kernel
theorem dX8_dropParts_132 : decode cX8_dropParts 132 = .ok (.aload_n 0, 1) := by decide +kernel
theorem dX8_dropParts_133 : decode cX8_dropParts 133 = .ok (.getfield 21, 3) := by decide +kernel
theorem dX8_dropParts_136 : decode cX8_dropParts 136 = .ok (.iload 4, 2) := by decide +kernel
theorem dX8_dropParts_138 : decode cX8_dropParts 138 = .ok (.iaload, 1) := by decide +kernel
theorem dX8_dropParts_139 : decode cX8_dropParts 139 = .ok (.iload_n 3, 1) := by decide +kernel
theorem dX8_dropParts_140 : decode cX8_dropParts 140 = .ok (.isub, 1) := by decide +kernel
theorem dX8_dropParts_141 : decode cX8_dropParts 141 = .ok (.goto 10, 3) := by decide +kernel
theorem dX8_dropParts_144 : decode cX8_dropParts 144 = .ok (.aload_n 0, 1) := by decide +kernel
theorem dX8_dropParts_145 : decode cX8_dropParts 145 = .ok (.getfield 21, 3) := by decide +kernel
theorem dX8_dropParts_148 : decode cX8_dropParts 148 = .ok (.iload 4, 2) := by decide +kernel
theorem dX8_dropParts_150 : decode cX8_dropParts 150 = .ok (.iaload, 1) := by decide +kernel
theorem dX8_dropParts_151 : decode cX8_dropParts 151 = .ok (.iastore, 1) := by decide +kernel
theorem dX8_dropParts_152 : decode cX8_dropParts 152 = .ok (.aload_n 0, 1) := by decide +kernel
theorem dX8_dropParts_153 : decode cX8_dropParts 153 = .ok (.getfield 24, 3) := by decide +kernel
theorem dX8_dropParts_156 : decode cX8_dropParts 156 = .ok (.iload 5, 2) := by decide +kernel
theorem dX8_dropParts_158 : decode cX8_dropParts 158 = .ok (.aload_n 0, 1) := by decide +kernel
theorem dX8_dropParts_159 : decode cX8_dropParts 159 = .ok (.getfield 24, 3) := by decide +kernel
theorem dX8_dropParts_162 : decode cX8_dropParts 162 = .ok (.iload 4, 2) := by decide +kernel
theorem dX8_dropParts_164 : decode cX8_dropParts 164 = .ok (.iaload, 1) := by decide +kernel
theorem dX8_dropParts_165 : decode cX8_dropParts 165 = .ok (.iload_n 2, 1) := by decide +kernel
theorem dX8_dropParts_166 : decode cX8_dropParts 166 = .ok (.if_icmp .lt 15, 3) := by decide +kernel
theorem dX8_dropParts_169 : decode cX8_dropParts 169 = .ok (.aload_n 0, 1) := by decide +kernel
theorem dX8_dropParts_170 : decode cX8_dropParts 170 = .ok (.getfield 24, 3) := by decide +kernel
theorem dX8_dropParts_173 : decode cX8_dropParts 173 = .ok (.iload 4, 2) := by decide +kernel
theorem dX8_dropParts_175 : decode cX8_dropParts 175 = .ok (.iaload, 1) := by decide +kernel
theorem dX8_dropParts_176 : decode cX8_dropParts 176 = .ok (.iload_n 3, 1) := by decide +kernel
theorem dX8_dropParts_177 : decode cX8_dropParts 177 = .ok (.isub, 1) := by decide +kernel
theorem dX8_dropParts_178 : decode cX8_dropParts 178 = .ok (.goto 10, 3) := by decide +kernel
theorem dX8_dropParts_181 : decode cX8_dropParts 181 = .ok (.aload_n 0, 1) := by decide +kernel
theorem dX8_dropParts_182 : decode cX8_dropParts 182 = .ok (.getfield 24, 3) := by decide +kernel
theorem dX8_dropParts_185 : decode cX8_dropParts 185 = .ok (.iload 4, 2) := by decide +kernel
theorem dX8_dropParts_187 : decode cX8_dropParts 187 = .ok (.iaload, 1) := by decide +kernel
theorem dX8_dropParts_188 : decode cX8_dropParts 188 = .ok (.iastore, 1) := by decide +kernel
theorem dX8_dropParts_189 : decode cX8_dropParts 189 = .ok (.iinc 4 1, 3) := by decide +kernel
theorem dX8_dropParts_192 : decode cX8_dropParts 192 = .ok (.goto (-157), 3) := by decide +kernel
theorem dX8_dropParts_195 : decode cX8_dropParts 195 = .ok (.aload_n 0, 1) := by decide +kernel
theorem dX8_dropParts_196 : decode cX8_dropParts 196 = .ok (.dup, 1) := by decide +kernel
theorem dX8_dropParts_197 : decode cX8_dropParts 197 = .ok (.getfield 30, 3) := by decide +kernel
theorem dX8_dropParts_200 : decode cX8_dropParts 200 = .ok (.iload_n 3, 1) := by decide +kernel
theorem dX8_dropParts_201 : decode cX8_dropParts 201 = .ok (.isub, 1) := by decide +kernel
theorem dX8_dropParts_202 : decode cX8_dropParts 202 = .ok (.putfield 30, 3) := by decide +kernel
theorem dX8_dropParts_205 : decode cX8_dropParts 205 = .ok (.return_, 1) := by decide +kernel
theorem dX8_gather_0 : decode cX8_gather 0 = .ok (.aload_n 3, 1) := by decide +kernel
theorem dX8_gather_1 : decode cX8_gather 1 = .ok (.iconst 0, 1) := by decide +kernel
theorem dX8_gather_2 : decode cX8_gather 2 = .ok (.putfield 67, 3) := by decide +kernel
theorem dX8_gather_5 : decode cX8_gather 5 = .ok (.iconst 0, 1) := by decide +kernel
theorem dX8_gather_6 : decode cX8_gather 6 = .ok (.iload_n 1, 1) := by decide +kernel
theorem dX8_gather_7 : decode cX8_gather 7 = .ok (.invokestatic 52, 3) := by decide +kernel
theorem dX8_gather_10 : decode cX8_gather 10 = .ok (.istore 4, 2) := by decide +kernel
theorem dX8_gather_12 : decode cX8_gather 12 = .ok (.iload_n 2, 1) := by decide +kernel
theorem dX8_gather_13 : decode cX8_gather 13 = .ok (.aload_n 0, 1) := by decide +kernel
theorem dX8_gather_14 : decode cX8_gather 14 = .ok (.getfield 30, 3) := by decide +kernel
theorem dX8_gather_17 : decode cX8_gather 17 = .ok (.invokestatic 46, 3) := by decide +kernel
theorem dX8_gather_20 : decode cX8_gather 20 = .ok (.sipush 744, 3) := by decide +kernel
theorem dX8_gather_23 : decode cX8_gather 23 = .ok (.invokestatic 46, 3) := by decide +kernel
theorem dX8_gather_26 : decode cX8_gather 26 = .ok (.istore 5, 2) := by decide +kernel
theorem dX8_gather_28 : decode cX8_gather 28 = .ok (.iload 4, 2) := by decide +kernel
theorem dX8_gather_30 : decode cX8_gather 30 = .ok (.istore 6, 2) := by decide +kernel
theorem dX8_gather_32 : decode cX8_gather 32 = .ok (.iload 6, 2) := by decide +kernel
theorem dX8_gather_34 : decode cX8_gather 34 = .ok (.iload 5, 2) := by decide +kernel
theorem dX8_gather_36 : decode cX8_gather 36 = .ok (.if_icmp .ge 44, 3) := by decide +kernel
theorem dX8_gather_39 : decode cX8_gather 39 = .ok (.aload_n 0, 1) := by decide +kernel
theorem dX8_gather_40 : decode cX8_gather 40 = .ok (.getfield 27, 3) := by decide +kernel
theorem dX8_gather_43 : decode cX8_gather 43 = .ok (.iload 6, 2) := by decide +kernel
theorem dX8_gather_45 : decode cX8_gather 45 = .ok (.aload_n 3, 1) := by decide +kernel
theorem dX8_gather_46 : decode cX8_gather 46 = .ok (.getfield 67, 3) := by decide +kernel
theorem dX8_gather_49 : decode cX8_gather 49 = .ok (.iastore, 1) := by decide +kernel
theorem dX8_gather_50 : decode cX8_gather 50 = .ok (.aload_n 0, 1) := by decide +kernel
theorem dX8_gather_51 : decode cX8_gather 51 = .ok (.getfield 9, 3) := by decide +kernel
theorem dX8_gather_54 : decode cX8_gather 54 = .ok (.iload 6, 2) := by decide +kernel
theorem dX8_gather_56 : decode cX8_gather 56 = .ok (.iaload, 1) := by decide +kernel
theorem dX8_gather_57 : decode cX8_gather 57 = .ok (.invokestatic 72, 3) := by decide +kernel
theorem dX8_gather_60 : decode cX8_gather 60 = .ok (.ifCond .eq 14, 3) := by decide +kernel
theorem dX8_gather_63 : decode cX8_gather 63 = .ok (.aload_n 3, 1) := by decide +kernel
theorem dX8_gather_64 : decode cX8_gather 64 = .ok (.aload_n 0, 1) := by decide +kernel
theorem dX8_gather_65 : decode cX8_gather 65 = .ok (.getfield 15, 3) := by decide +kernel
theorem dX8_gather_68 : decode cX8_gather 68 = .ok (.iload 6, 2) := by decide +kernel
theorem dX8_gather_70 : decode cX8_gather 70 = .ok (.iaload, 1) := by decide +kernel
theorem dX8_gather_71 : decode cX8_gather 71 = .ok (.invokevirtual 75, 3) := by decide +kernel
theorem dX8_gather_74 : decode cX8_gather 74 = .ok (.iinc 6 1, 3) := by decide +kernel
theorem dX8_gather_77 : decode cX8_gather 77 = .ok (.goto (-45), 3) := by decide +kernel
theorem dX8_gather_80 : decode cX8_gather 80 = .ok (.iload 5, 2) := by decide +kernel
theorem dX8_gather_82 : decode cX8_gather 82 = .ok (.iconst 1, 1) := by decide +kernel
theorem dX8_gather_83 : decode cX8_gather 83 = .ok (.isub, 1) := by decide +kernel
theorem dX8_gather_84 : decode cX8_gather 84 = .ok (.istore 6, 2) := by decide +kernel
theorem dX8_gather_86 : decode cX8_gather 86 = .ok (.iload 6, 2) := by decide +kernel
theorem dX8_gather_88 : decode cX8_gather 88 = .ok (.iload 4, 2) := by decide +kernel
theorem dX8_gather_90 : decode cX8_gather 90 = .ok (.if_icmp .lt 79, 3) := by decide +kernel
theorem dX8_gather_93 : decode cX8_gather 93 = .ok (.aload_n 0, 1) := by decide +kernel
theorem dX8_gather_94 : decode cX8_gather 94 = .ok (.getfield 9, 3) := by decide +kernel
theorem dX8_gather_97 : decode cX8_gather 97 = .ok (.iload 6, 2) := by decide +kernel
theorem dX8_gather_99 : decode cX8_gather 99 = .ok (.iaload, 1) := by decide +kernel
theorem dX8_gather_100 : decode cX8_gather 100 = .ok (.iconst 4, 1) := by decide +kernel
theorem dX8_gather_101 : decode cX8_gather 101 = .ok (.if_icmp .ne 62, 3) := by decide +kernel
theorem dX8_gather_104 : decode cX8_gather 104 = .ok (.aload_n 0, 1) := by decide +kernel
theorem dX8_gather_105 : decode cX8_gather 105 = .ok (.getfield 24, 3) := by decide +kernel
theorem dX8_gather_108 : decode cX8_gather 108 = .ok (.iload 6, 2) := by decide +kernel
theorem dX8_gather_110 : decode cX8_gather 110 = .ok (.iaload, 1) := by decide +kernel
theorem dX8_gather_111 : decode cX8_gather 111 = .ok (.istore 7, 2) := by decide +kernel
theorem dX8_gather_113 : decode cX8_gather 113 = .ok (.iload 7, 2) := by decide +kernel
theorem dX8_gather_115 : decode cX8_gather 115 = .ok (.iload 4, 2) := by decide +kernel
theorem dX8_gather_117 : decode cX8_gather 117 = .ok (.if_icmp .lt 20, 3) := by decide +kernel
theorem dX8_gather_120 : decode cX8_gather 120 = .ok (.iload 7, 2) := by decide +kernel
theorem dX8_gather_122 : decode cX8_gather 122 = .ok (.iload 5, 2) := by decide +kernel
theorem dX8_gather_124 : decode cX8_gather 124 = .ok (.if_icmp .ge 13, 3) := by decide +kernel
theorem dX8_gather_127 : decode cX8_gather 127 = .ok (.aload_n 0, 1) := by decide +kernel
theorem dX8_gather_128 : decode cX8_gather 128 = .ok (.getfield 27, 3) := by decide +kernel
theorem dX8_gather_131 : decode cX8_gather 131 = .ok (.iload 7, 2) := by decide +kernel
theorem dX8_gather_133 : decode cX8_gather 133 = .ok (.iaload, 1) := by decide +kernel
theorem dX8_gather_134 : decode cX8_gather 134 = .ok (.goto 7, 3) := by decide +kernel
theorem dX8_gather_137 : decode cX8_gather 137 = .ok (.aload_n 3, 1) := by decide +kernel
theorem dX8_gather_138 : decode cX8_gather 138 = .ok (.getfield 67, 3) := by decide +kernel
theorem dX8_gather_141 : decode cX8_gather 141 = .ok (.istore 8, 2) := by decide +kernel
theorem dX8_gather_143 : decode cX8_gather 143 = .ok (.aload_n 3, 1) := by decide +kernel
theorem dX8_gather_144 : decode cX8_gather 144 = .ok (.aload_n 0, 1) := by decide +kernel
theorem dX8_gather_145 : decode cX8_gather 145 = .ok (.getfield 15, 3) := by decide +kernel
theorem dX8_gather_148 : decode cX8_gather 148 = .ok (.iload 6, 2) := by decide +kernel
theorem dX8_gather_150 : decode cX8_gather 150 = .ok (.iaload, 1) := by decide +kernel
theorem dX8_gather_151 : decode cX8_gather 151 = .ok (.aload_n 0, 1) := by decide +kernel
theorem dX8_gather_152 : decode cX8_gather 152 = .ok (.getfield 27, 3) := by decide +kernel
theorem dX8_gather_155 : decode cX8_gather 155 = .ok (.iload 6, 2) := by decide +kernel
theorem dX8_gather_157 : decode cX8_gather 157 = .ok (.iaload, 1) := by decide +kernel
theorem dX8_gather_158 : decode cX8_gather 158 = .ok (.iload 8, 2) := by decide +kernel
theorem dX8_gather_160 : decode cX8_gather 160 = .ok (.invokevirtual 79, 3) := by decide +kernel
theorem dX8_gather_163 : decode cX8_gather 163 = .ok (.iinc 6 (-1), 3) := by decide +kernel
theorem dX8_gather_166 : decode cX8_gather 166 = .ok (.goto (-80), 3) := by decide +kernel
theorem dX8_gather_169 : decode cX8_gather 169 = .ok (.return_, 1) := by decide +kernel
theorem dX8_signs_0 : decode cX8_signs 0 = .ok (.iconst 0, 1) := by decide +kernel
theorem dX8_signs_1 : decode cX8_signs 1 = .ok (.istore_n 1, 1) := by decide +kernel
theorem dX8_signs_2 : decode cX8_signs 2 = .ok (.iconst 0, 1) := by decide +kernel
theorem dX8_signs_3 : decode cX8_signs 3 = .ok (.istore_n 2, 1) := by decide +kernel
theorem dX8_signs_4 : decode cX8_signs 4 = .ok (.iload_n 2, 1) := by decide +kernel
theorem dX8_signs_5 : decode cX8_signs 5 = .ok (.aload_n 0, 1) := by decide +kernel
theorem dX8_signs_6 : decode cX8_signs 6 = .ok (.getfield 30, 3) := by decide +kernel
theorem dX8_signs_9 : decode cX8_signs 9 = .ok (.if_icmp .ge 43, 3) := by decide +kernel
theorem dX8_signs_12 : decode cX8_signs 12 = .ok (.iload_n 2, 1) := by decide +kernel
theorem dX8_signs_13 : decode cX8_signs 13 = .ok (.sipush 744, 3) := by decide +kernel
theorem dX8_signs_16 : decode cX8_signs 16 = .ok (.if_icmp .ge 36, 3) := by decide +kernel
theorem dX8_signs_19 : decode cX8_signs 19 = .ok (.aload_n 0, 1) := by decide +kernel
theorem dX8_signs_20 : decode cX8_signs 20 = .ok (.getfield 9, 3) := by decide +kernel
theorem dX8_signs_23 : decode cX8_signs 23 = .ok (.iload_n 2, 1) := by decide +kernel
theorem dX8_signs_24 : decode cX8_signs 24 = .ok (.iaload, 1) := by decide +kernel
theorem dX8_signs_25 : decode cX8_signs 25 = .ok (.invokestatic 72, 3) := by decide +kernel
theorem dX8_signs_28 : decode cX8_signs 28 = .ok (.ifCond .ne 15, 3) := by decide +kernel
theorem dX8_signs_31 : decode cX8_signs 31 = .ok (.aload_n 0, 1) := by decide +kernel
theorem dX8_signs_32 : decode cX8_signs 32 = .ok (.getfield 9, 3) := by decide +kernel
theorem dX8_signs_35 : decode cX8_signs 35 = .ok (.iload_n 2, 1) := by decide +kernel
theorem dX8_signs_36 : decode cX8_signs 36 = .ok (.iaload, 1) := by decide +kernel
theorem dX8_signs_37 : decode cX8_signs 37 = .ok (.invokestatic 83, 3) := by decide +kernel
theorem dX8_signs_40 : decode cX8_signs 40 = .ok (.ifCond .eq 6, 3) := by decide +kernel
theorem dX8_signs_43 : decode cX8_signs 43 = .ok (.iinc 1 2, 3) := by decide +kernel
theorem dX8_signs_46 : decode cX8_signs 46 = .ok (.iinc 2 1, 3) := by decide +kernel
theorem dX8_signs_49 : decode cX8_signs 49 = .ok (.goto (-45), 3) := by decide +kernel
theorem dX8_signs_52 : decode cX8_signs 52 = .ok (.iload_n 1, 1) := by decide +kernel
theorem dX8_signs_53 : decode cX8_signs 53 = .ok (.ireturn, 1) := by decide +kernel
theorem dX8_signAt_0 : decode cX8_signAt 0 = .ok (.iconst 0, 1) := by decide +kernel
theorem dX8_signAt_1 : decode cX8_signAt 1 = .ok (.istore_n 3, 1) := by decide +kernel
theorem dX8_signAt_2 : decode cX8_signAt 2 = .ok (.iconst 0, 1) := by decide +kernel
theorem dX8_signAt_3 : decode cX8_signAt 3 = .ok (.istore 4, 2) := by decide +kernel
theorem dX8_signAt_5 : decode cX8_signAt 5 = .ok (.iconst 0, 1) := by decide +kernel
theorem dX8_signAt_6 : decode cX8_signAt 6 = .ok (.istore 5, 2) := by decide +kernel
theorem dX8_signAt_8 : decode cX8_signAt 8 = .ok (.iload 5, 2) := by decide +kernel
theorem dX8_signAt_10 : decode cX8_signAt 10 = .ok (.aload_n 0, 1) := by decide +kernel
theorem dX8_signAt_11 : decode cX8_signAt 11 = .ok (.getfield 30, 3) := by decide +kernel
theorem dX8_signAt_14 : decode cX8_signAt 14 = .ok (.if_icmp .ge 115, 3) := by decide +kernel
theorem dX8_signAt_17 : decode cX8_signAt 17 = .ok (.iload 5, 2) := by decide +kernel
theorem dX8_signAt_19 : decode cX8_signAt 19 = .ok (.sipush 744, 3) := by decide +kernel
theorem dX8_signAt_22 : decode cX8_signAt 22 = .ok (.if_icmp .ge 107, 3) := by decide +kernel
theorem dX8_signAt_25 : decode cX8_signAt 25 = .ok (.aload_n 0, 1) := by decide +kernel
theorem dX8_signAt_26 : decode cX8_signAt 26 = .ok (.getfield 9, 3) := by decide +kernel
theorem dX8_signAt_29 : decode cX8_signAt 29 = .ok (.iload 5, 2) := by decide +kernel
theorem dX8_signAt_31 : decode cX8_signAt 31 = .ok (.iaload, 1) := by decide +kernel
theorem dX8_signAt_32 : decode cX8_signAt 32 = .ok (.invokestatic 72, 3) := by decide +kernel
theorem dX8_signAt_35 : decode cX8_signAt 35 = .ok (.istore 6, 2) := by decide +kernel
theorem dX8_signAt_37 : decode cX8_signAt 37 = .ok (.iload 6, 2) := by decide +kernel
theorem dX8_signAt_39 : decode cX8_signAt 39 = .ok (.ifCond .ne 19, 3) := by decide +kernel
theorem dX8_signAt_42 : decode cX8_signAt 42 = .ok (.aload_n 0, 1) := by decide +kernel
theorem dX8_signAt_43 : decode cX8_signAt 43 = .ok (.getfield 9, 3) := by decide +kernel
theorem dX8_signAt_46 : decode cX8_signAt 46 = .ok (.iload 5, 2) := by decide +kernel
theorem dX8_signAt_48 : decode cX8_signAt 48 = .ok (.iaload, 1) := by decide +kernel
theorem dX8_signAt_49 : decode cX8_signAt 49 = .ok (.invokestatic 83, 3) := by decide +kernel
theorem dX8_signAt_52 : decode cX8_signAt 52 = .ok (.ifCond .ne 6, 3) := by decide +kernel
theorem dX8_signAt_55 : decode cX8_signAt 55 = .ok (.goto 68, 3) := by decide +kernel
theorem dX8_signAt_58 : decode cX8_signAt 58 = .ok (.iload_n 3, 1) := by decide +kernel
theorem dX8_signAt_59 : decode cX8_signAt 59 = .ok (.iload_n 1, 1) := by decide +kernel
theorem dX8_signAt_60 : decode cX8_signAt 60 = .ok (.if_icmp .ne 14, 3) := by decide +kernel
theorem dX8_signAt_63 : decode cX8_signAt 63 = .ok (.iload 6, 2) := by decide +kernel
theorem dX8_signAt_65 : decode cX8_signAt 65 = .ok (.ifCond .eq 7, 3) := by decide +kernel
theorem dX8_signAt_68 : decode cX8_signAt 68 = .ok (.lconst 0, 1) := by decide +kernel
theorem dX8_signAt_69 : decode cX8_signAt 69 = .ok (.goto 4, 3) := by decide +kernel
theorem dX8_signAt_72 : decode cX8_signAt 72 = .ok (.lconst 1, 1) := by decide +kernel
theorem dX8_signAt_73 : decode cX8_signAt 73 = .ok (.lreturn, 1) := by decide +kernel
theorem dX8_signAt_74 : decode cX8_signAt 74 = .ok (.iload_n 3, 1) := by decide +kernel
theorem dX8_signAt_75 : decode cX8_signAt 75 = .ok (.iconst 1, 1) := by decide +kernel
theorem dX8_signAt_76 : decode cX8_signAt 76 = .ok (.iadd, 1) := by decide +kernel
theorem dX8_signAt_77 : decode cX8_signAt 77 = .ok (.iload_n 1, 1) := by decide +kernel
theorem dX8_signAt_78 : decode cX8_signAt 78 = .ok (.if_icmp .ne 27, 3) := by decide +kernel
theorem dX8_signAt_81 : decode cX8_signAt 81 = .ok (.iload 6, 2) := by decide +kernel
theorem dX8_signAt_83 : decode cX8_signAt 83 = .ok (.ifCond .eq 13, 3) := by decide +kernel
theorem dX8_signAt_86 : decode cX8_signAt 86 = .ok (.aload_n 2, 1) := by decide +kernel
theorem dX8_signAt_87 : decode cX8_signAt 87 = .ok (.iload 4, 2) := by decide +kernel
theorem dX8_signAt_89 : decode cX8_signAt 89 = .ok (.invokevirtual 86, 3) := by decide +kernel
theorem dX8_signAt_92 : decode cX8_signAt 92 = .ok (.i2l, 1) := by decide +kernel
theorem dX8_signAt_93 : decode cX8_signAt 93 = .ok (.goto 11, 3) := by decide +kernel
theorem dX8_signAt_96 : decode cX8_signAt 96 = .ok (.aload_n 0, 1) := by decide +kernel
theorem dX8_signAt_97 : decode cX8_signAt 97 = .ok (.getfield 15, 3) := by decide +kernel
theorem dX8_signAt_100 : decode cX8_signAt 100 = .ok (.iload 5, 2) := by decide +kernel
theorem dX8_signAt_102 : decode cX8_signAt 102 = .ok (.iaload, 1) := by decide +kernel
theorem dX8_signAt_103 : decode cX8_signAt 103 = .ok (.i2l, 1) := by decide +kernel
theorem dX8_signAt_104 : decode cX8_signAt 104 = .ok (.lreturn, 1) := by decide +kernel
theorem dX8_signAt_105 : decode cX8_signAt 105 = .ok (.iinc 3 2, 3) := by decide +kernel
theorem dX8_signAt_108 : decode cX8_signAt 108 = .ok (.iload 4, 2) := by decide +kernel
theorem dX8_signAt_110 : decode cX8_signAt 110 = .ok (.iload 6, 2) := by decide +kernel
theorem dX8_signAt_112 : decode cX8_signAt 112 = .ok (.ifCond .eq 7, 3) := by decide +kernel
theorem dX8_signAt_115 : decode cX8_signAt 115 = .ok (.iconst 1, 1) := by decide +kernel
theorem dX8_signAt_116 : decode cX8_signAt 116 = .ok (.goto 4, 3) := by decide +kernel
theorem dX8_signAt_119 : decode cX8_signAt 119 = .ok (.iconst 0, 1) := by decide +kernel
theorem dX8_signAt_120 : decode cX8_signAt 120 = .ok (.iadd, 1) := by decide +kernel
theorem dX8_signAt_121 : decode cX8_signAt 121 = .ok (.istore 4, 2) := by decide +kernel
theorem dX8_signAt_123 : decode cX8_signAt 123 = .ok (.iinc 5 1, 3) := by decide +kernel
theorem dX8_signAt_126 : decode cX8_signAt 126 = .ok (.goto (-118), 3) := by decide +kernel
theorem dX8_signAt_129 : decode cX8_signAt 129 = .ok (.ldc2_w 89, 3) := by decide +kernel
theorem dX8_signAt_132 : decode cX8_signAt 132 = .ok (.lreturn, 1) := by decide +kernel
theorem dX8_isLeaf_0 : decode cX8_isLeaf 0 = .ok (.iload_n 0, 1) := by decide +kernel
theorem dX8_isLeaf_1 : decode cX8_isLeaf 1 = .ok (.ifCond .eq 15, 3) := by decide +kernel
theorem dX8_isLeaf_4 : decode cX8_isLeaf 4 = .ok (.iload_n 0, 1) := by decide +kernel
theorem dX8_isLeaf_5 : decode cX8_isLeaf 5 = .ok (.bipush 8, 2) := by decide +kernel
theorem dX8_isLeaf_7 : decode cX8_isLeaf 7 = .ok (.if_icmp .eq 9, 3) := by decide +kernel
theorem dX8_isLeaf_10 : decode cX8_isLeaf 10 = .ok (.iload_n 0, 1) := by decide +kernel
theorem dX8_isLeaf_11 : decode cX8_isLeaf 11 = .ok (.bipush 9, 2) := by decide +kernel
theorem dX8_isLeaf_13 : decode cX8_isLeaf 13 = .ok (.if_icmp .ne 7, 3) := by decide +kernel
theorem dX8_isLeaf_16 : decode cX8_isLeaf 16 = .ok (.iconst 1, 1) := by decide +kernel
theorem dX8_isLeaf_17 : decode cX8_isLeaf 17 = .ok (.goto 4, 3) := by decide +kernel
theorem dX8_isLeaf_20 : decode cX8_isLeaf 20 = .ok (.iconst 0, 1) := by decide +kernel
theorem dX8_isLeaf_21 : decode cX8_isLeaf 21 = .ok (.ireturn, 1) := by decide +kernel
theorem dX8_isRow_0 : decode cX8_isRow 0 = .ok (.iload_n 0, 1) := by decide +kernel
theorem dX8_isRow_1 : decode cX8_isRow 1 = .ok (.iconst 1, 1) := by decide +kernel
theorem dX8_isRow_2 : decode cX8_isRow 2 = .ok (.if_icmp .eq 20, 3) := by decide +kernel
theorem dX8_isRow_5 : decode cX8_isRow 5 = .ok (.iload_n 0, 1) := by decide +kernel
theorem dX8_isRow_6 : decode cX8_isRow 6 = .ok (.iconst 2, 1) := by decide +kernel
theorem dX8_isRow_7 : decode cX8_isRow 7 = .ok (.if_icmp .eq 15, 3) := by decide +kernel
theorem dX8_isRow_10 : decode cX8_isRow 10 = .ok (.iload_n 0, 1) := by decide +kernel
theorem dX8_isRow_11 : decode cX8_isRow 11 = .ok (.bipush 6, 2) := by decide +kernel
theorem dX8_isRow_13 : decode cX8_isRow 13 = .ok (.if_icmp .eq 9, 3) := by decide +kernel
theorem dX8_isRow_16 : decode cX8_isRow 16 = .ok (.iload_n 0, 1) := by decide +kernel
theorem dX8_isRow_17 : decode cX8_isRow 17 = .ok (.bipush 7, 2) := by decide +kernel
theorem dX8_isRow_19 : decode cX8_isRow 19 = .ok (.if_icmp .ne 7, 3) := by decide +kernel
theorem dX8_isRow_22 : decode cX8_isRow 22 = .ok (.iconst 1, 1) := by decide +kernel
theorem dX8_isRow_23 : decode cX8_isRow 23 = .ok (.goto 4, 3) := by decide +kernel
theorem dX8_isRow_26 : decode cX8_isRow 26 = .ok (.iconst 0, 1) := by decide +kernel
theorem dX8_isRow_27 : decode cX8_isRow 27 = .ok (.ireturn, 1) := by decide +kernel
theorem dX9_init_0 : decode cX9_init 0 = .ok (.aload_n 0, 1) := by decide +kernel
theorem dX9_init_1 : decode cX9_init 1 = .ok (.invokespecial 3, 3) := by decide +kernel
theorem dX9_init_4 : decode cX9_init 4 = .ok (.aload_n 0, 1) := by decide +kernel
theorem dX9_init_5 : decode cX9_init 5 = .ok (.new 9, 3) := by decide +kernel
theorem dX9_init_8 : decode cX9_init 8 = .ok (.dup, 1) := by decide +kernel
theorem dX9_init_9 : decode cX9_init 9 = .ok (.invokespecial 11, 3) := by decide +kernel
theorem dX9_init_12 : decode cX9_init 12 = .ok (.putfield 12, 3) := by decide +kernel
theorem dX9_init_15 : decode cX9_init 15 = .ok (.aload_n 0, 1) := by decide +kernel
theorem dX9_init_16 : decode cX9_init 16 = .ok (.new 16, 3) := by decide +kernel
theorem dX9_init_19 : decode cX9_init 19 = .ok (.dup, 1) := by decide +kernel
theorem dX9_init_20 : decode cX9_init 20 = .ok (.aload_n 0, 1) := by decide +kernel
theorem dX9_init_21 : decode cX9_init 21 = .ok (.getfield 12, 3) := by decide +kernel
theorem dX9_init_24 : decode cX9_init 24 = .ok (.invokespecial 18, 3) := by decide +kernel
theorem dX9_init_27 : decode cX9_init 27 = .ok (.putfield 21, 3) := by decide +kernel
theorem dX9_init_30 : decode cX9_init 30 = .ok (.aload_n 0, 1) := by decide +kernel
theorem dX9_init_31 : decode cX9_init 31 = .ok (.new 25, 3) := by decide +kernel
theorem dX9_init_34 : decode cX9_init 34 = .ok (.dup, 1) := by decide +kernel
theorem dX9_init_35 : decode cX9_init 35 = .ok (.aload_n 0, 1) := by decide +kernel
theorem dX9_init_36 : decode cX9_init 36 = .ok (.getfield 12, 3) := by decide +kernel
theorem dX9_init_39 : decode cX9_init 39 = .ok (.invokespecial 27, 3) := by decide +kernel
theorem dX9_init_42 : decode cX9_init 42 = .ok (.putfield 28, 3) := by decide +kernel
theorem dX9_init_45 : decode cX9_init 45 = .ok (.aload_n 0, 1) := by decide +kernel
theorem dX9_init_46 : decode cX9_init 46 = .ok (.bipush 20, 2) := by decide +kernel
theorem dX9_init_48 : decode cX9_init 48 = .ok (.anewarray 32, 3) := by decide +kernel
theorem dX9_init_51 : decode cX9_init 51 = .ok (.putfield 34, 3) := by decide +kernel
theorem dX9_init_54 : decode cX9_init 54 = .ok (.aload_n 0, 1) := by decide +kernel
theorem dX9_init_55 : decode cX9_init 55 = .ok (.iconst 0, 1) := by decide +kernel
theorem dX9_init_56 : decode cX9_init 56 = .ok (.putfield 38, 3) := by decide +kernel
theorem dX9_init_59 : decode cX9_init 59 = .ok (.aload_n 0, 1) := by decide +kernel
theorem dX9_init_60 : decode cX9_init 60 = .ok (.new 42, 3) := by decide +kernel
theorem dX9_init_63 : decode cX9_init 63 = .ok (.dup, 1) := by decide +kernel
theorem dX9_init_64 : decode cX9_init 64 = .ok (.invokespecial 44, 3) := by decide +kernel
theorem dX9_init_67 : decode cX9_init 67 = .ok (.putfield 45, 3) := by decide +kernel
theorem dX9_init_70 : decode cX9_init 70 = .ok (.aload_n 0, 1) := by decide +kernel
theorem dX9_init_71 : decode cX9_init 71 = .ok (.new 49, 3) := by decide +kernel
theorem dX9_init_74 : decode cX9_init 74 = .ok (.dup, 1) := by decide +kernel
theorem dX9_init_75 : decode cX9_init 75 = .ok (.invokespecial 51, 3) := by decide +kernel
theorem dX9_init_78 : decode cX9_init 78 = .ok (.putfield 52, 3) := by decide +kernel
theorem dX9_init_81 : decode cX9_init 81 = .ok (.aload_n 0, 1) := by decide +kernel
theorem dX9_init_82 : decode cX9_init 82 = .ok (.iconst 0, 1) := by decide +kernel
theorem dX9_init_83 : decode cX9_init 83 = .ok (.putfield 56, 3) := by decide +kernel
theorem dX9_init_86 : decode cX9_init 86 = .ok (.aload_n 0, 1) := by decide +kernel
theorem dX9_init_87 : decode cX9_init 87 = .ok (.bipush 8, 2) := by decide +kernel
theorem dX9_init_89 : decode cX9_init 89 = .ok (.newarray .int, 2) := by decide +kernel
theorem dX9_init_91 : decode cX9_init 91 = .ok (.putfield 60, 3) := by decide +kernel
theorem dX9_init_94 : decode cX9_init 94 = .ok (.aload_n 0, 1) := by decide +kernel
theorem dX9_init_95 : decode cX9_init 95 = .ok (.iconst 0, 1) := by decide +kernel
theorem dX9_init_96 : decode cX9_init 96 = .ok (.putfield 64, 3) := by decide +kernel
theorem dX9_init_99 : decode cX9_init 99 = .ok (.aload_n 0, 1) := by decide +kernel
theorem dX9_init_100 : decode cX9_init 100 = .ok (.new 42, 3) := by decide +kernel
theorem dX9_init_103 : decode cX9_init 103 = .ok (.dup, 1) := by decide +kernel
theorem dX9_init_104 : decode cX9_init 104 = .ok (.invokespecial 44, 3) := by decide +kernel
theorem dX9_init_107 : decode cX9_init 107 = .ok (.putfield 67, 3) := by decide +kernel
theorem dX9_init_110 : decode cX9_init 110 = .ok (.aload_n 0, 1) := by decide +kernel
theorem dX9_init_111 : decode cX9_init 111 = .ok (.new 42, 3) := by decide +kernel
theorem dX9_init_114 : decode cX9_init 114 = .ok (.dup, 1) := by decide +kernel
theorem dX9_init_115 : decode cX9_init 115 = .ok (.invokespecial 44, 3) := by decide +kernel
theorem dX9_init_118 : decode cX9_init 118 = .ok (.putfield 70, 3) := by decide +kernel
theorem dX9_init_121 : decode cX9_init 121 = .ok (.aload_n 0, 1) := by decide +kernel
theorem dX9_init_122 : decode cX9_init 122 = .ok (.new 49, 3) := by decide +kernel
theorem dX9_init_125 : decode cX9_init 125 = .ok (.dup, 1) := by decide +kernel
theorem dX9_init_126 : decode cX9_init 126 = .ok (.invokespecial 51, 3) := by decide +kernel
theorem dX9_init_129 : decode cX9_init 129 = .ok (.putfield 73, 3) := by decide +kernel
theorem dX9_init_132 : decode cX9_init 132 = .ok (.return_, 1) := by decide +kernel
theorem dX9_whole_0 : decode cX9_whole 0 = .ok (.iload_n 1, 1) := by decide +kernel
theorem dX9_whole_1 : decode cX9_whole 1 = .ok (.ldc 76, 2) := by decide +kernel
theorem dX9_whole_3 : decode cX9_whole 3 = .ok (.if_icmp .lt 14, 3) := by decide +kernel
theorem dX9_whole_6 : decode cX9_whole 6 = .ok (.iload_n 2, 1) := by decide +kernel
theorem dX9_whole_7 : decode cX9_whole 7 = .ok (.ldc 77, 2) := by decide +kernel
theorem dX9_whole_9 : decode cX9_whole 9 = .ok (.if_icmp .gt 8, 3) := by decide +kernel
theorem dX9_whole_12 : decode cX9_whole 12 = .ok (.iload_n 1, 1) := by decide +kernel
theorem dX9_whole_13 : decode cX9_whole 13 = .ok (.iload_n 2, 1) := by decide +kernel
theorem dX9_whole_14 : decode cX9_whole 14 = .ok (.if_icmp .le 6, 3) := by decide +kernel
theorem dX9_whole_17 : decode cX9_whole 17 = .ok (.bipush (-2), 2) := by decide +kernel
theorem dX9_whole_19 : decode cX9_whole 19 = .ok (.ireturn, 1) := by decide +kernel
theorem dX9_whole_20 : decode cX9_whole 20 = .ok (.aload_n 0, 1) := by decide +kernel
theorem dX9_whole_21 : decode cX9_whole 21 = .ok (.getfield 21, 3) := by decide +kernel
theorem dX9_whole_24 : decode cX9_whole 24 = .ok (.new 78, 3) := by decide +kernel
theorem dX9_whole_27 : decode cX9_whole 27 = .ok (.dup, 1) := by decide +kernel
theorem dX9_whole_28 : decode cX9_whole 28 = .ok (.iconst 0, 1) := by decide +kernel
theorem dX9_whole_29 : decode cX9_whole 29 = .ok (.iload_n 1, 1) := by decide +kernel
theorem dX9_whole_30 : decode cX9_whole 30 = .ok (.iload_n 2, 1) := by decide +kernel
theorem dX9_whole_31 : decode cX9_whole 31 = .ok (.iconst 0, 1) := by decide +kernel
theorem dX9_whole_32 : decode cX9_whole 32 = .ok (.iconst 0, 1) := by decide +kernel
theorem dX9_whole_33 : decode cX9_whole 33 = .ok (.iconst 1, 1) := by decide +kernel
theorem dX9_whole_34 : decode cX9_whole 34 = .ok (.iconst 0, 1) := by decide +kernel
theorem dX9_whole_35 : decode cX9_whole 35 = .ok (.invokespecial 80, 3) := by decide +kernel
theorem dX9_whole_38 : decode cX9_whole 38 = .ok (.invokevirtual 83, 3) := by decide +kernel
theorem dX9_whole_41 : decode cX9_whole 41 = .ok (.ireturn, 1) := by decide +kernel
theorem dX9_listOf_0 : decode cX9_listOf 0 = .ok (.aload_n 0, 1) := by decide +kernel
theorem dX9_listOf_1 : decode cX9_listOf 1 = .ok (.getfield 21, 3) := by decide +kernel
theorem dX9_listOf_4 : decode cX9_listOf 4 = .ok (.iload_n 1, 1) := by decide +kernel
theorem dX9_listOf_5 : decode cX9_listOf 5 = .ok (.invokevirtual 87, 3) := by decide +kernel
theorem dX9_listOf_8 : decode cX9_listOf 8 = .ok (.astore_n 3, 1) := by decide +kernel
theorem dX9_listOf_9 : decode cX9_listOf 9 = .ok (.aload_n 3, 1) := by decide +kernel
theorem dX9_listOf_10 : decode cX9_listOf 10 = .ok (.ifnonnull 5, 3) := by decide +kernel
theorem dX9_listOf_13 : decode cX9_listOf 13 = .ok (.iconst (-1), 1) := by decide +kernel
theorem dX9_listOf_14 : decode cX9_listOf 14 = .ok (.ireturn, 1) := by decide +kernel
theorem dX9_listOf_15 : decode cX9_listOf 15 = .ok (.iload_n 2, 1) := by decide +kernel
theorem dX9_listOf_16 : decode cX9_listOf 16 = .ok (.iconst 1, 1) := by decide +kernel
theorem dX9_listOf_17 : decode cX9_listOf 17 = .ok (.if_icmp .lt 9, 3) := by decide +kernel
theorem dX9_listOf_20 : decode cX9_listOf 20 = .ok (.iload_n 2, 1) := by decide +kernel
theorem dX9_listOf_21 : decode cX9_listOf 21 = .ok (.bipush 24, 2) := by decide +kernel
theorem dX9_listOf_23 : decode cX9_listOf 23 = .ok (.if_icmp .le 6, 3) := by decide +kernel
theorem dX9_listOf_26 : decode cX9_listOf 26 = .ok (.bipush (-2), 2) := by decide +kernel
theorem dX9_listOf_28 : decode cX9_listOf 28 = .ok (.ireturn, 1) := by decide +kernel
theorem dX9_listOf_29 : decode cX9_listOf 29 = .ok (.aload_n 0, 1) := by decide +kernel
theorem dX9_listOf_30 : decode cX9_listOf 30 = .ok (.getfield 21, 3) := by decide +kernel
theorem dX9_listOf_33 : decode cX9_listOf 33 = .ok (.new 78, 3) := by decide +kernel
theorem dX9_listOf_36 : decode cX9_listOf 36 = .ok (.dup, 1) := by decide +kernel
theorem dX9_listOf_37 : decode cX9_listOf 37 = .ok (.iconst 1, 1) := by decide +kernel
theorem dX9_listOf_38 : decode cX9_listOf 38 = .ok (.iload_n 1, 1) := by decide +kernel
theorem dX9_listOf_39 : decode cX9_listOf 39 = .ok (.iload_n 2, 1) := by decide +kernel
theorem dX9_listOf_40 : decode cX9_listOf 40 = .ok (.iconst 0, 1) := by decide +kernel
theorem dX9_listOf_41 : decode cX9_listOf 41 = .ok (.iconst 0, 1) := by decide +kernel
theorem dX9_listOf_42 : decode cX9_listOf 42 = .ok (.iload_n 2, 1) := by decide +kernel
theorem dX9_listOf_43 : decode cX9_listOf 43 = .ok (.aload_n 3, 1) := by decide +kernel
theorem dX9_listOf_44 : decode cX9_listOf 44 = .ok (.getfield 91, 3) := by decide +kernel
theorem dX9_listOf_47 : decode cX9_listOf 47 = .ok (.imul, 1) := by decide +kernel
theorem dX9_listOf_48 : decode cX9_listOf 48 = .ok (.aload_n 3, 1) := by decide +kernel
theorem dX9_listOf_49 : decode cX9_listOf 49 = .ok (.getfield 94, 3) := by decide +kernel
theorem dX9_listOf_52 : decode cX9_listOf 52 = .ok (.invokespecial 80, 3) := by decide +kernel
theorem dX9_listOf_55 : decode cX9_listOf 55 = .ok (.invokevirtual 83, 3) := by decide +kernel
theorem dX9_listOf_58 : decode cX9_listOf 58 = .ok (.ireturn, 1) := by decide +kernel
theorem dX9_pair_0 : decode cX9_pair 0 = .ok (.aload_n 0, 1) := by decide +kernel
theorem dX9_pair_1 : decode cX9_pair 1 = .ok (.getfield 21, 3) := by decide +kernel
theorem dX9_pair_4 : decode cX9_pair 4 = .ok (.iload_n 1, 1) := by decide +kernel
theorem dX9_pair_5 : decode cX9_pair 5 = .ok (.invokevirtual 87, 3) := by decide +kernel
theorem dX9_pair_8 : decode cX9_pair 8 = .ok (.astore_n 3, 1) := by decide +kernel
theorem dX9_pair_9 : decode cX9_pair 9 = .ok (.aload_n 0, 1) := by decide +kernel
theorem dX9_pair_10 : decode cX9_pair 10 = .ok (.getfield 21, 3) := by decide +kernel
theorem dX9_pair_13 : decode cX9_pair 13 = .ok (.iload_n 2, 1) := by decide +kernel
theorem dX9_pair_14 : decode cX9_pair 14 = .ok (.invokevirtual 87, 3) := by decide +kernel
theorem dX9_pair_17 : decode cX9_pair 17 = .ok (.astore 4, 2) := by decide +kernel
theorem dX9_pair_19 : decode cX9_pair 19 = .ok (.aload_n 3, 1) := by decide +kernel
theorem dX9_pair_20 : decode cX9_pair 20 = .ok (.ifnull 8, 3) := by decide +kernel
theorem dX9_pair_23 : decode cX9_pair 23 = .ok (.aload 4, 2) := by decide +kernel
theorem dX9_pair_25 : decode cX9_pair 25 = .ok (.ifnonnull 5, 3) := by decide +kernel
theorem dX9_pair_28 : decode cX9_pair 28 = .ok (.iconst (-1), 1) := by decide +kernel
theorem dX9_pair_29 : decode cX9_pair 29 = .ok (.ireturn, 1) := by decide +kernel
theorem dX9_pair_30 : decode cX9_pair 30 = .ok (.aload_n 3, 1) := by decide +kernel
theorem dX9_pair_31 : decode cX9_pair 31 = .ok (.getfield 91, 3) := by decide +kernel
theorem dX9_pair_34 : decode cX9_pair 34 = .ok (.aload 4, 2) := by decide +kernel
theorem dX9_pair_36 : decode cX9_pair 36 = .ok (.getfield 91, 3) := by decide +kernel
theorem dX9_pair_39 : decode cX9_pair 39 = .ok (.iadd, 1) := by decide +kernel
theorem dX9_pair_40 : decode cX9_pair 40 = .ok (.istore 5, 2) := by decide +kernel
theorem dX9_pair_42 : decode cX9_pair 42 = .ok (.aload_n 0, 1) := by decide +kernel
theorem dX9_pair_43 : decode cX9_pair 43 = .ok (.getfield 21, 3) := by decide +kernel
theorem dX9_pair_46 : decode cX9_pair 46 = .ok (.new 78, 3) := by decide +kernel
theorem dX9_pair_49 : decode cX9_pair 49 = .ok (.dup, 1) := by decide +kernel
theorem dX9_pair_50 : decode cX9_pair 50 = .ok (.iconst 2, 1) := by decide +kernel
theorem dX9_pair_51 : decode cX9_pair 51 = .ok (.iload_n 1, 1) := by decide +kernel
theorem dX9_pair_52 : decode cX9_pair 52 = .ok (.iload_n 2, 1) := by decide +kernel
theorem dX9_pair_53 : decode cX9_pair 53 = .ok (.iconst 0, 1) := by decide +kernel
theorem dX9_pair_54 : decode cX9_pair 54 = .ok (.iconst 0, 1) := by decide +kernel
theorem dX9_pair_55 : decode cX9_pair 55 = .ok (.iload 5, 2) := by decide +kernel
theorem dX9_pair_57 : decode cX9_pair 57 = .ok (.aload_n 3, 1) := by decide +kernel
theorem dX9_pair_58 : decode cX9_pair 58 = .ok (.getfield 94, 3) := by decide +kernel
theorem dX9_pair_61 : decode cX9_pair 61 = .ok (.ifCond .ne 11, 3) := by decide +kernel
theorem dX9_pair_64 : decode cX9_pair 64 = .ok (.aload 4, 2) := by decide +kernel
theorem dX9_pair_66 : decode cX9_pair 66 = .ok (.getfield 94, 3) := by decide +kernel
theorem dX9_pair_69 : decode cX9_pair 69 = .ok (.ifCond .eq 7, 3) := by decide +kernel
theorem dX9_pair_72 : decode cX9_pair 72 = .ok (.iconst 1, 1) := by decide +kernel
theorem dX9_pair_73 : decode cX9_pair 73 = .ok (.goto 4, 3) := by decide +kernel
theorem dX9_pair_76 : decode cX9_pair 76 = .ok (.iconst 0, 1) := by decide +kernel
theorem dX9_pair_77 : decode cX9_pair 77 = .ok (.invokespecial 80, 3) := by decide +kernel
theorem dX9_pair_80 : decode cX9_pair 80 = .ok (.invokevirtual 83, 3) := by decide +kernel
theorem dX9_pair_83 : decode cX9_pair 83 = .ok (.ireturn, 1) := by decide +kernel
theorem dX9_oneOf_0 : decode cX9_oneOf 0 = .ok (.aload_n 0, 1) := by decide +kernel
theorem dX9_oneOf_1 : decode cX9_oneOf 1 = .ok (.getfield 21, 3) := by decide +kernel
theorem dX9_oneOf_4 : decode cX9_oneOf 4 = .ok (.iload_n 1, 1) := by decide +kernel
theorem dX9_oneOf_5 : decode cX9_oneOf 5 = .ok (.invokevirtual 87, 3) := by decide +kernel
theorem dX9_oneOf_8 : decode cX9_oneOf 8 = .ok (.astore 5, 2) := by decide +kernel
theorem dX9_oneOf_10 : decode cX9_oneOf 10 = .ok (.aload_n 0, 1) := by decide +kernel
theorem dX9_oneOf_11 : decode cX9_oneOf 11 = .ok (.getfield 21, 3) := by decide +kernel
theorem dX9_oneOf_14 : decode cX9_oneOf 14 = .ok (.iload_n 3, 1) := by decide +kernel
theorem dX9_oneOf_15 : decode cX9_oneOf 15 = .ok (.invokevirtual 87, 3) := by decide +kernel
theorem dX9_oneOf_18 : decode cX9_oneOf 18 = .ok (.astore 6, 2) := by decide +kernel
theorem dX9_oneOf_20 : decode cX9_oneOf 20 = .ok (.aload 5, 2) := by decide +kernel
theorem dX9_oneOf_22 : decode cX9_oneOf 22 = .ok (.ifnull 8, 3) := by decide +kernel
theorem dX9_oneOf_25 : decode cX9_oneOf 25 = .ok (.aload 6, 2) := by decide +kernel
theorem dX9_oneOf_27 : decode cX9_oneOf 27 = .ok (.ifnonnull 5, 3) := by decide +kernel
theorem dX9_oneOf_30 : decode cX9_oneOf 30 = .ok (.iconst (-1), 1) := by decide +kernel
theorem dX9_oneOf_31 : decode cX9_oneOf 31 = .ok (.ireturn, 1) := by decide +kernel
theorem dX9_oneOf_32 : decode cX9_oneOf 32 = .ok (.iload_n 2, 1) := by decide +kernel
theorem dX9_oneOf_33 : decode cX9_oneOf 33 = .ok (.iconst 1, 1) := by decide +kernel
theorem dX9_oneOf_34 : decode cX9_oneOf 34 = .ok (.if_icmp .lt 22, 3) := by decide +kernel
theorem dX9_oneOf_37 : decode cX9_oneOf 37 = .ok (.iload_n 2, 1) := by decide +kernel
theorem dX9_oneOf_38 : decode cX9_oneOf 38 = .ok (.bipush 100, 2) := by decide +kernel
theorem dX9_oneOf_40 : decode cX9_oneOf 40 = .ok (.if_icmp .gt 16, 3) := by decide +kernel
theorem dX9_oneOf_43 : decode cX9_oneOf 43 = .ok (.iload 4, 2) := by decide +kernel
theorem dX9_oneOf_45 : decode cX9_oneOf 45 = .ok (.iconst 1, 1) := by decide +kernel
theorem dX9_oneOf_46 : decode cX9_oneOf 46 = .ok (.if_icmp .lt 10, 3) := by decide +kernel
theorem dX9_oneOf_49 : decode cX9_oneOf 49 = .ok (.iload 4, 2) := by decide +kernel
theorem dX9_oneOf_51 : decode cX9_oneOf 51 = .ok (.bipush 100, 2) := by decide +kernel
theorem dX9_oneOf_53 : decode cX9_oneOf 53 = .ok (.if_icmp .le 6, 3) := by decide +kernel
theorem dX9_oneOf_56 : decode cX9_oneOf 56 = .ok (.bipush (-2), 2) := by decide +kernel
theorem dX9_oneOf_58 : decode cX9_oneOf 58 = .ok (.ireturn, 1) := by decide +kernel
theorem dX9_oneOf_59 : decode cX9_oneOf 59 = .ok (.aload 5, 2) := by decide +kernel
theorem dX9_oneOf_61 : decode cX9_oneOf 61 = .ok (.getfield 91, 3) := by decide +kernel
theorem dX9_oneOf_64 : decode cX9_oneOf 64 = .ok (.aload 6, 2) := by decide +kernel
theorem dX9_oneOf_66 : decode cX9_oneOf 66 = .ok (.getfield 91, 3) := by decide +kernel
theorem dX9_oneOf_69 : decode cX9_oneOf 69 = .ok (.invokestatic 97, 3) := by decide +kernel
theorem dX9_oneOf_72 : decode cX9_oneOf 72 = .ok (.istore 7, 2) := by decide +kernel
theorem dX9_oneOf_74 : decode cX9_oneOf 74 = .ok (.aload_n 0, 1) := by decide +kernel
theorem dX9_oneOf_75 : decode cX9_oneOf 75 = .ok (.getfield 21, 3) := by decide +kernel
theorem dX9_oneOf_78 : decode cX9_oneOf 78 = .ok (.new 78, 3) := by decide +kernel
theorem dX9_oneOf_81 : decode cX9_oneOf 81 = .ok (.dup, 1) := by decide +kernel
theorem dX9_oneOf_82 : decode cX9_oneOf 82 = .ok (.iconst 3, 1) := by decide +kernel
theorem dX9_oneOf_83 : decode cX9_oneOf 83 = .ok (.iload_n 1, 1) := by decide +kernel
theorem dX9_oneOf_84 : decode cX9_oneOf 84 = .ok (.iload_n 3, 1) := by decide +kernel
theorem dX9_oneOf_85 : decode cX9_oneOf 85 = .ok (.iload_n 2, 1) := by decide +kernel
theorem dX9_oneOf_86 : decode cX9_oneOf 86 = .ok (.iload 4, 2) := by decide +kernel
theorem dX9_oneOf_88 : decode cX9_oneOf 88 = .ok (.iload 7, 2) := by decide +kernel
theorem dX9_oneOf_90 : decode cX9_oneOf 90 = .ok (.aload 5, 2) := by decide +kernel
theorem dX9_oneOf_92 : decode cX9_oneOf 92 = .ok (.getfield 94, 3) := by decide +kernel
theorem dX9_oneOf_95 : decode cX9_oneOf 95 = .ok (.ifCond .ne 11, 3) := by decide +kernel
theorem dX9_oneOf_98 : decode cX9_oneOf 98 = .ok (.aload 6, 2) := by decide +kernel
theorem dX9_oneOf_100 : decode cX9_oneOf 100 = .ok (.getfield 94, 3) := by decide +kernel
theorem dX9_oneOf_103 : decode cX9_oneOf 103 = .ok (.ifCond .eq 7, 3) := by decide +kernel
theorem dX9_oneOf_106 : decode cX9_oneOf 106 = .ok (.iconst 1, 1) := by decide +kernel
theorem dX9_oneOf_107 : decode cX9_oneOf 107 = .ok (.goto 4, 3) := by decide +kernel
theorem dX9_oneOf_110 : decode cX9_oneOf 110 = .ok (.iconst 0, 1) := by decide +kernel
theorem dX9_oneOf_111 : decode cX9_oneOf 111 = .ok (.invokespecial 80, 3) := by decide +kernel
theorem dX9_oneOf_114 : decode cX9_oneOf 114 = .ok (.invokevirtual 83, 3) := by decide +kernel
theorem dX9_oneOf_117 : decode cX9_oneOf 117 = .ok (.ireturn, 1) := by decide +kernel
theorem dX9_mapped_0 : decode cX9_mapped 0 = .ok (.aload_n 0, 1) := by decide +kernel
theorem dX9_mapped_1 : decode cX9_mapped 1 = .ok (.getfield 21, 3) := by decide +kernel
theorem dX9_mapped_4 : decode cX9_mapped 4 = .ok (.iload_n 1, 1) := by decide +kernel
theorem dX9_mapped_5 : decode cX9_mapped 5 = .ok (.invokevirtual 87, 3) := by decide +kernel
theorem dX9_mapped_8 : decode cX9_mapped 8 = .ok (.astore_n 3, 1) := by decide +kernel
theorem dX9_mapped_9 : decode cX9_mapped 9 = .ok (.aload_n 3, 1) := by decide +kernel
theorem dX9_mapped_10 : decode cX9_mapped 10 = .ok (.ifnonnull 5, 3) := by decide +kernel
theorem dX9_mapped_13 : decode cX9_mapped 13 = .ok (.iconst (-1), 1) := by decide +kernel
theorem dX9_mapped_14 : decode cX9_mapped 14 = .ok (.ireturn, 1) := by decide +kernel
theorem dX9_mapped_15 : decode cX9_mapped 15 = .ok (.iload_n 2, 1) := by decide +kernel
theorem dX9_mapped_16 : decode cX9_mapped 16 = .ok (.ifCond .lt 8, 3) := by decide +kernel
theorem dX9_mapped_19 : decode cX9_mapped 19 = .ok (.iload_n 2, 1) := by decide +kernel
theorem dX9_mapped_20 : decode cX9_mapped 20 = .ok (.iconst 5, 1) := by decide +kernel
theorem dX9_mapped_21 : decode cX9_mapped 21 = .ok (.if_icmp .lt 6, 3) := by decide +kernel
theorem dX9_mapped_24 : decode cX9_mapped 24 = .ok (.bipush (-2), 2) := by decide +kernel
theorem dX9_mapped_26 : decode cX9_mapped 26 = .ok (.ireturn, 1) := by decide +kernel
theorem dX9_mapped_27 : decode cX9_mapped 27 = .ok (.aload_n 0, 1) := by decide +kernel
theorem dX9_mapped_28 : decode cX9_mapped 28 = .ok (.getfield 21, 3) := by decide +kernel
theorem dX9_mapped_31 : decode cX9_mapped 31 = .ok (.new 78, 3) := by decide +kernel
theorem dX9_mapped_34 : decode cX9_mapped 34 = .ok (.dup, 1) := by decide +kernel
theorem dX9_mapped_35 : decode cX9_mapped 35 = .ok (.iconst 4, 1) := by decide +kernel
theorem dX9_mapped_36 : decode cX9_mapped 36 = .ok (.iload_n 1, 1) := by decide +kernel
theorem dX9_mapped_37 : decode cX9_mapped 37 = .ok (.iload_n 2, 1) := by decide +kernel
theorem dX9_mapped_38 : decode cX9_mapped 38 = .ok (.iconst 0, 1) := by decide +kernel
theorem dX9_mapped_39 : decode cX9_mapped 39 = .ok (.iconst 0, 1) := by decide +kernel
theorem dX9_mapped_40 : decode cX9_mapped 40 = .ok (.aload_n 3, 1) := by decide +kernel
theorem dX9_mapped_41 : decode cX9_mapped 41 = .ok (.getfield 91, 3) := by decide +kernel
theorem dX9_mapped_44 : decode cX9_mapped 44 = .ok (.iconst 1, 1) := by decide +kernel
theorem dX9_mapped_45 : decode cX9_mapped 45 = .ok (.iadd, 1) := by decide +kernel
theorem dX9_mapped_46 : decode cX9_mapped 46 = .ok (.aload_n 3, 1) := by decide +kernel
theorem dX9_mapped_47 : decode cX9_mapped 47 = .ok (.getfield 94, 3) := by decide +kernel
theorem dX9_mapped_50 : decode cX9_mapped 50 = .ok (.invokespecial 80, 3) := by decide +kernel
theorem dX9_mapped_53 : decode cX9_mapped 53 = .ok (.invokevirtual 83, 3) := by decide +kernel
theorem dX9_mapped_56 : decode cX9_mapped 56 = .ok (.ireturn, 1) := by decide +kernel
theorem dX9_picked_0 : decode cX9_picked 0 = .ok (.aload_n 0, 1) := by decide +kernel
theorem dX9_picked_1 : decode cX9_picked 1 = .ok (.getfield 21, 3) := by decide +kernel
theorem dX9_picked_4 : decode cX9_picked 4 = .ok (.iload_n 1, 1) := by decide +kernel
theorem dX9_picked_5 : decode cX9_picked 5 = .ok (.invokevirtual 87, 3) := by decide +kernel
theorem dX9_picked_8 : decode cX9_picked 8 = .ok (.astore_n 3, 1) := by decide +kernel
theorem dX9_picked_9 : decode cX9_picked 9 = .ok (.aload_n 3, 1) := by decide +kernel
theorem dX9_picked_10 : decode cX9_picked 10 = .ok (.ifnull 14, 3) := by decide +kernel
theorem dX9_picked_13 : decode cX9_picked 13 = .ok (.aload_n 0, 1) := by decide +kernel
theorem dX9_picked_14 : decode cX9_picked 14 = .ok (.getfield 12, 3) := by decide +kernel
theorem dX9_picked_17 : decode cX9_picked 17 = .ok (.iload_n 2, 1) := by decide +kernel
theorem dX9_picked_18 : decode cX9_picked 18 = .ok (.invokevirtual 103, 3) := by decide +kernel
theorem dX9_picked_21 : decode cX9_picked 21 = .ok (.ifCond .ne 5, 3) := by decide +kernel
theorem dX9_picked_24 : decode cX9_picked 24 = .ok (.iconst (-1), 1) := by decide +kernel
theorem dX9_picked_25 : decode cX9_picked 25 = .ok (.ireturn, 1) := by decide +kernel
theorem dX9_picked_26 : decode cX9_picked 26 = .ok (.aload_n 3, 1) := by decide +kernel
theorem dX9_picked_27 : decode cX9_picked 27 = .ok (.getfield 94, 3) := by decide +kernel
theorem dX9_picked_30 : decode cX9_picked 30 = .ok (.ifCond .eq 6, 3) := by decide +kernel
theorem dX9_picked_33 : decode cX9_picked 33 = .ok (.bipush (-3), 2) := by decide +kernel
theorem dX9_picked_35 : decode cX9_picked 35 = .ok (.ireturn, 1) := by decide +kernel
theorem dX9_picked_36 : decode cX9_picked 36 = .ok (.aload_n 0, 1) := by decide +kernel
theorem dX9_picked_37 : decode cX9_picked 37 = .ok (.getfield 21, 3) := by decide +kernel
theorem dX9_picked_40 : decode cX9_picked 40 = .ok (.new 78, 3) := by decide +kernel
theorem dX9_picked_43 : decode cX9_picked 43 = .ok (.dup, 1) := by decide +kernel
theorem dX9_picked_44 : decode cX9_picked 44 = .ok (.iconst 5, 1) := by decide +kernel
theorem dX9_picked_45 : decode cX9_picked 45 = .ok (.iload_n 1, 1) := by decide +kernel
theorem dX9_picked_46 : decode cX9_picked 46 = .ok (.iload_n 2, 1) := by decide +kernel
theorem dX9_picked_47 : decode cX9_picked 47 = .ok (.iconst 0, 1) := by decide +kernel
theorem dX9_picked_48 : decode cX9_picked 48 = .ok (.iconst 0, 1) := by decide +kernel
theorem dX9_picked_49 : decode cX9_picked 49 = .ok (.aload_n 3, 1) := by decide +kernel
theorem dX9_picked_50 : decode cX9_picked 50 = .ok (.getfield 91, 3) := by decide +kernel
theorem dX9_picked_53 : decode cX9_picked 53 = .ok (.iconst 1, 1) := by decide +kernel
theorem dX9_picked_54 : decode cX9_picked 54 = .ok (.iadd, 1) := by decide +kernel
theorem dX9_picked_55 : decode cX9_picked 55 = .ok (.iconst 1, 1) := by decide +kernel
theorem dX9_picked_56 : decode cX9_picked 56 = .ok (.invokespecial 80, 3) := by decide +kernel
theorem dX9_picked_59 : decode cX9_picked 59 = .ok (.invokevirtual 83, 3) := by decide +kernel
theorem dX9_picked_62 : decode cX9_picked 62 = .ok (.ireturn, 1) := by decide +kernel
theorem dX9_shuffled_0 : decode cX9_shuffled 0 = .ok (.iload_n 1, 1) := by decide +kernel
theorem dX9_shuffled_1 : decode cX9_shuffled 1 = .ok (.iconst 1, 1) := by decide +kernel
theorem dX9_shuffled_2 : decode cX9_shuffled 2 = .ok (.if_icmp .lt 9, 3) := by decide +kernel
theorem dX9_shuffled_5 : decode cX9_shuffled 5 = .ok (.iload_n 1, 1) := by decide +kernel
theorem dX9_shuffled_6 : decode cX9_shuffled 6 = .ok (.bipush 24, 2) := by decide +kernel
theorem dX9_shuffled_8 : decode cX9_shuffled 8 = .ok (.if_icmp .le 6, 3) := by decide +kernel
theorem dX9_shuffled_11 : decode cX9_shuffled 11 = .ok (.bipush (-2), 2) := by decide +kernel
theorem dX9_shuffled_13 : decode cX9_shuffled 13 = .ok (.ireturn, 1) := by decide +kernel
theorem dX9_shuffled_14 : decode cX9_shuffled 14 = .ok (.aload_n 0, 1) := by decide +kernel
theorem dX9_shuffled_15 : decode cX9_shuffled 15 = .ok (.getfield 21, 3) := by decide +kernel
theorem dX9_shuffled_18 : decode cX9_shuffled 18 = .ok (.new 78, 3) := by decide +kernel
theorem dX9_shuffled_21 : decode cX9_shuffled 21 = .ok (.dup, 1) := by decide +kernel
theorem dX9_shuffled_22 : decode cX9_shuffled 22 = .ok (.bipush 6, 2) := by decide +kernel
theorem dX9_shuffled_24 : decode cX9_shuffled 24 = .ok (.iload_n 1, 1) := by decide +kernel
theorem dX9_shuffled_25 : decode cX9_shuffled 25 = .ok (.iconst 0, 1) := by decide +kernel
theorem dX9_shuffled_26 : decode cX9_shuffled 26 = .ok (.iconst 0, 1) := by decide +kernel
theorem dX9_shuffled_27 : decode cX9_shuffled 27 = .ok (.iconst 0, 1) := by decide +kernel
theorem dX9_shuffled_28 : decode cX9_shuffled 28 = .ok (.iload_n 1, 1) := by decide +kernel
theorem dX9_shuffled_29 : decode cX9_shuffled 29 = .ok (.iconst 0, 1) := by decide +kernel
theorem dX9_shuffled_30 : decode cX9_shuffled 30 = .ok (.invokespecial 80, 3) := by decide +kernel
theorem dX9_shuffled_33 : decode cX9_shuffled 33 = .ok (.invokevirtual 83, 3) := by decide +kernel
theorem dX9_shuffled_36 : decode cX9_shuffled 36 = .ok (.ireturn, 1) := by decide +kernel
theorem dX9_below_0 : decode cX9_below 0 = .ok (.aload_n 0, 1) := by decide +kernel
theorem dX9_below_1 : decode cX9_below 1 = .ok (.getfield 21, 3) := by decide +kernel
theorem dX9_below_4 : decode cX9_below 4 = .ok (.iload_n 1, 1) := by decide +kernel
theorem dX9_below_5 : decode cX9_below 5 = .ok (.invokevirtual 87, 3) := by decide +kernel
theorem dX9_below_8 : decode cX9_below 8 = .ok (.astore_n 2, 1) := by decide +kernel
theorem dX9_below_9 : decode cX9_below 9 = .ok (.aload_n 2, 1) := by decide +kernel
theorem dX9_below_10 : decode cX9_below 10 = .ok (.ifnonnull 5, 3) := by decide +kernel
theorem dX9_below_13 : decode cX9_below 13 = .ok (.iconst (-1), 1) := by decide +kernel
theorem dX9_below_14 : decode cX9_below 14 = .ok (.ireturn, 1) := by decide +kernel
theorem dX9_below_15 : decode cX9_below 15 = .ok (.aload_n 0, 1) := by decide +kernel
theorem dX9_below_16 : decode cX9_below 16 = .ok (.getfield 21, 3) := by decide +kernel
theorem dX9_below_19 : decode cX9_below 19 = .ok (.new 78, 3) := by decide +kernel
theorem dX9_below_22 : decode cX9_below 22 = .ok (.dup, 1) := by decide +kernel
theorem dX9_below_23 : decode cX9_below 23 = .ok (.bipush 7, 2) := by decide +kernel
theorem dX9_below_25 : decode cX9_below 25 = .ok (.iload_n 1, 1) := by decide +kernel
theorem dX9_below_26 : decode cX9_below 26 = .ok (.iconst 0, 1) := by decide +kernel
theorem dX9_below_27 : decode cX9_below 27 = .ok (.iconst 0, 1) := by decide +kernel
theorem dX9_below_28 : decode cX9_below 28 = .ok (.iconst 0, 1) := by decide +kernel
theorem dX9_below_29 : decode cX9_below 29 = .ok (.aload_n 2, 1) := by decide +kernel
theorem dX9_below_30 : decode cX9_below 30 = .ok (.getfield 91, 3) := by decide +kernel
theorem dX9_below_33 : decode cX9_below 33 = .ok (.iconst 1, 1) := by decide +kernel
theorem dX9_below_34 : decode cX9_below 34 = .ok (.iadd, 1) := by decide +kernel
theorem dX9_below_35 : decode cX9_below 35 = .ok (.aload_n 2, 1) := by decide +kernel
theorem dX9_below_36 : decode cX9_below 36 = .ok (.getfield 94, 3) := by decide +kernel
theorem dX9_below_39 : decode cX9_below 39 = .ok (.invokespecial 80, 3) := by decide +kernel
theorem dX9_below_42 : decode cX9_below 42 = .ok (.invokevirtual 83, 3) := by decide +kernel
theorem dX9_below_45 : decode cX9_below 45 = .ok (.ireturn, 1) := by decide +kernel
theorem dX9_maker_0 : decode cX9_maker 0 = .ok (.aload_n 0, 1) := by decide +kernel
theorem dX9_maker_1 : decode cX9_maker 1 = .ok (.getfield 21, 3) := by decide +kernel
theorem dX9_maker_4 : decode cX9_maker 4 = .ok (.iload_n 1, 1) := by decide +kernel
theorem dX9_maker_5 : decode cX9_maker 5 = .ok (.invokevirtual 87, 3) := by decide +kernel
theorem dX9_maker_8 : decode cX9_maker 8 = .ok (.astore_n 3, 1) := by decide +kernel
theorem dX9_maker_9 : decode cX9_maker 9 = .ok (.aload_n 3, 1) := by decide +kernel
theorem dX9_maker_10 : decode cX9_maker 10 = .ok (.ifnonnull 5, 3) := by decide +kernel
theorem dX9_maker_13 : decode cX9_maker 13 = .ok (.iconst (-1), 1) := by decide +kernel
theorem dX9_maker_14 : decode cX9_maker 14 = .ok (.ireturn, 1) := by decide +kernel
theorem dX9_maker_15 : decode cX9_maker 15 = .ok (.iload_n 2, 1) := by decide +kernel
theorem dX9_maker_16 : decode cX9_maker 16 = .ok (.tableswitch 51 0 2 #[28, 33, 38], 28) := by decide +kernel
theorem dX9_maker_44 : decode cX9_maker 44 = .ok (.aload_n 3, 1) := by decide +kernel
theorem dX9_maker_45 : decode cX9_maker 45 = .ok (.getfield 107, 3) := by decide +kernel
theorem dX9_maker_48 : decode cX9_maker 48 = .ok (.ireturn, 1) := by decide +kernel
theorem dX9_maker_49 : decode cX9_maker 49 = .ok (.aload_n 3, 1) := by decide +kernel
theorem dX9_maker_50 : decode cX9_maker 50 = .ok (.getfield 91, 3) := by decide +kernel
theorem dX9_maker_53 : decode cX9_maker 53 = .ok (.ireturn, 1) := by decide +kernel
theorem dX9_maker_54 : decode cX9_maker 54 = .ok (.aload_n 3, 1) := by decide +kernel
theorem dX9_maker_55 : decode cX9_maker 55 = .ok (.getfield 94, 3) := by decide +kernel
theorem dX9_maker_58 : decode cX9_maker 58 = .ok (.ifCond .eq 7, 3) := by decide +kernel
theorem dX9_maker_61 : decode cX9_maker 61 = .ok (.iconst 1, 1) := by decide +kernel
theorem dX9_maker_62 : decode cX9_maker 62 = .ok (.goto 4, 3) := by decide +kernel
theorem dX9_maker_65 : decode cX9_maker 65 = .ok (.iconst 0, 1) := by decide +kernel
theorem dX9_maker_66 : decode cX9_maker 66 = .ok (.ireturn, 1) := by decide +kernel
theorem dX9_maker_67 : decode cX9_maker 67 = .ok (.bipush (-2), 2) := by decide +kernel
theorem dX9_maker_69 : decode cX9_maker 69 = .ok (.ireturn, 1) := by decide +kernel
theorem dX9_check_0 : decode cX9_check 0 = .ok (.iload_n 1, 1) := by decide +kernel
theorem dX9_check_1 : decode cX9_check 1 = .ok (.ifCond .lt 23, 3) := by decide +kernel
theorem dX9_check_4 : decode cX9_check 4 = .ok (.iload_n 1, 1) := by decide +kernel
theorem dX9_check_5 : decode cX9_check 5 = .ok (.bipush 11, 2) := by decide +kernel
theorem dX9_check_7 : decode cX9_check 7 = .ok (.if_icmp .gt 17, 3) := by decide +kernel
theorem dX9_check_10 : decode cX9_check 10 = .ok (.iload_n 1, 1) := by decide +kernel
theorem dX9_check_11 : decode cX9_check 11 = .ok (.bipush 11, 2) := by decide +kernel
theorem dX9_check_13 : decode cX9_check 13 = .ok (.if_icmp .ne 14, 3) := by decide +kernel
theorem dX9_check_16 : decode cX9_check 16 = .ok (.iload_n 2, 1) := by decide +kernel
theorem dX9_check_17 : decode cX9_check 17 = .ok (.iload_n 3, 1) := by decide +kernel
theorem dX9_check_18 : decode cX9_check 18 = .ok (.invokestatic 112, 3) := by decide +kernel
theorem dX9_check_21 : decode cX9_check 21 = .ok (.ifCond .ne 6, 3) := by decide +kernel
theorem dX9_check_24 : decode cX9_check 24 = .ok (.bipush (-2), 2) := by decide +kernel
theorem dX9_check_26 : decode cX9_check 26 = .ok (.ireturn, 1) := by decide +kernel
theorem dX9_check_27 : decode cX9_check 27 = .ok (.new 110, 3) := by decide +kernel
theorem dX9_check_30 : decode cX9_check 30 = .ok (.dup, 1) := by decide +kernel
theorem dX9_check_31 : decode cX9_check 31 = .ok (.iload_n 1, 1) := by decide +kernel
theorem dX9_check_32 : decode cX9_check 32 = .ok (.iload_n 2, 1) := by decide +kernel
theorem dX9_check_33 : decode cX9_check 33 = .ok (.iload_n 3, 1) := by decide +kernel
theorem dX9_check_34 : decode cX9_check 34 = .ok (.invokespecial 116, 3) := by decide +kernel
theorem dX9_check_37 : decode cX9_check 37 = .ok (.astore 4, 2) := by decide +kernel
theorem dX9_check_39 : decode cX9_check 39 = .ok (.aload 4, 2) := by decide +kernel
theorem dX9_check_41 : decode cX9_check 41 = .ok (.invokevirtual 119, 3) := by decide +kernel
theorem dX9_check_44 : decode cX9_check 44 = .ok (.ifCond .eq 14, 3) := by decide +kernel
theorem dX9_check_47 : decode cX9_check 47 = .ok (.aload_n 0, 1) := by decide +kernel
theorem dX9_check_48 : decode cX9_check 48 = .ok (.getfield 12, 3) := by decide +kernel
theorem dX9_check_51 : decode cX9_check 51 = .ok (.iload_n 2, 1) := by decide +kernel
theorem dX9_check_52 : decode cX9_check 52 = .ok (.invokevirtual 103, 3) := by decide +kernel
theorem dX9_check_55 : decode cX9_check 55 = .ok (.ifCond .eq 22, 3) := by decide +kernel
theorem dX9_check_58 : decode cX9_check 58 = .ok (.aload 4, 2) := by decide +kernel
theorem dX9_check_60 : decode cX9_check 60 = .ok (.invokevirtual 123, 3) := by decide +kernel
theorem dX9_check_63 : decode cX9_check 63 = .ok (.ifCond .eq 16, 3) := by decide +kernel
theorem dX9_check_66 : decode cX9_check 66 = .ok (.aload_n 0, 1) := by decide +kernel
theorem dX9_check_67 : decode cX9_check 67 = .ok (.getfield 12, 3) := by decide +kernel
theorem dX9_check_70 : decode cX9_check 70 = .ok (.iload_n 3, 1) := by decide +kernel
theorem dX9_check_71 : decode cX9_check 71 = .ok (.invokevirtual 103, 3) := by decide +kernel
theorem dX9_check_74 : decode cX9_check 74 = .ok (.ifCond .ne 5, 3) := by decide +kernel
theorem dX9_check_77 : decode cX9_check 77 = .ok (.iconst (-1), 1) := by decide +kernel
theorem dX9_check_78 : decode cX9_check 78 = .ok (.ireturn, 1) := by decide +kernel
theorem dX9_check_79 : decode cX9_check 79 = .ok (.aload_n 0, 1) := by decide +kernel
theorem dX9_check_80 : decode cX9_check 80 = .ok (.getfield 12, 3) := by decide +kernel
theorem dX9_check_83 : decode cX9_check 83 = .ok (.aload 4, 2) := by decide +kernel
theorem dX9_check_85 : decode cX9_check 85 = .ok (.invokevirtual 126, 3) := by decide +kernel
theorem dX9_check_88 : decode cX9_check 88 = .ok (.ireturn, 1) := by decide +kernel
theorem dX9_make_0 : decode cX9_make 0 = .ok (.aload_n 0, 1) := by decide +kernel
theorem dX9_make_1 : decode cX9_make 1 = .ok (.getfield 21, 3) := by decide +kernel
theorem dX9_make_4 : decode cX9_make 4 = .ok (.iload_n 1, 1) := by decide +kernel
theorem dX9_make_5 : decode cX9_make 5 = .ok (.invokevirtual 87, 3) := by decide +kernel
theorem dX9_make_8 : decode cX9_make 8 = .ok (.ifnonnull 5, 3) := by decide +kernel
theorem dX9_make_11 : decode cX9_make 11 = .ok (.iconst (-1), 1) := by decide +kernel
theorem dX9_make_12 : decode cX9_make 12 = .ok (.ireturn, 1) := by decide +kernel
theorem dX9_make_13 : decode cX9_make 13 = .ok (.iload 4, 2) := by decide +kernel
theorem dX9_make_15 : decode cX9_make 15 = .ok (.invokestatic 129, 3) := by decide +kernel
theorem dX9_make_18 : decode cX9_make 18 = .ok (.ifCond .ne 6, 3) := by decide +kernel
theorem dX9_make_21 : decode cX9_make 21 = .ok (.bipush (-2), 2) := by decide +kernel
theorem dX9_make_23 : decode cX9_make 23 = .ok (.ireturn, 1) := by decide +kernel
theorem dX9_make_24 : decode cX9_make 24 = .ok (.aload_n 0, 1) := by decide +kernel
theorem dX9_make_25 : decode cX9_make 25 = .ok (.getfield 21, 3) := by decide +kernel
theorem dX9_make_28 : decode cX9_make 28 = .ok (.lload_n 2, 1) := by decide +kernel
theorem dX9_make_29 : decode cX9_make 29 = .ok (.iload 4, 2) := by decide +kernel
theorem dX9_make_31 : decode cX9_make 31 = .ok (.invokevirtual 132, 3) := by decide +kernel
theorem dX9_make_34 : decode cX9_make 34 = .ok (.aload_n 0, 1) := by decide +kernel
theorem dX9_make_35 : decode cX9_make 35 = .ok (.getfield 21, 3) := by decide +kernel
theorem dX9_make_38 : decode cX9_make 38 = .ok (.iload_n 1, 1) := by decide +kernel
theorem dX9_make_39 : decode cX9_make 39 = .ok (.iconst (-1), 1) := by decide +kernel
theorem dX9_make_40 : decode cX9_make 40 = .ok (.iconst 0, 1) := by decide +kernel
theorem dX9_make_41 : decode cX9_make 41 = .ok (.invokevirtual 136, 3) := by decide +kernel
theorem dX9_make_44 : decode cX9_make 44 = .ok (.istore 5, 2) := by decide +kernel
theorem dX9_make_46 : decode cX9_make 46 = .ok (.iload 5, 2) := by decide +kernel
theorem dX9_make_48 : decode cX9_make 48 = .ok (.iconst 1, 1) := by decide +kernel
theorem dX9_make_49 : decode cX9_make 49 = .ok (.if_icmp .ne 17, 3) := by decide +kernel
theorem dX9_make_52 : decode cX9_make 52 = .ok (.aload_n 0, 1) := by decide +kernel
theorem dX9_make_53 : decode cX9_make 53 = .ok (.aload_n 0, 1) := by decide +kernel
theorem dX9_make_54 : decode cX9_make 54 = .ok (.getfield 21, 3) := by decide +kernel
theorem dX9_make_57 : decode cX9_make 57 = .ok (.getfield 140, 3) := by decide +kernel
theorem dX9_make_60 : decode cX9_make 60 = .ok (.invokevirtual 143, 3) := by decide +kernel
theorem dX9_make_63 : decode cX9_make 63 = .ok (.goto 5, 3) := by decide +kernel
theorem dX9_make_66 : decode cX9_make 66 = .ok (.iload 5, 2) := by decide +kernel
theorem dX9_make_68 : decode cX9_make 68 = .ok (.ireturn, 1) := by decide +kernel
theorem dX9_smaller_0 : decode cX9_smaller 0 = .ok (.iload_n 1, 1) := by decide +kernel
theorem dX9_smaller_1 : decode cX9_smaller 1 = .ok (.ifCond .lt 9, 3) := by decide +kernel
theorem dX9_smaller_4 : decode cX9_smaller 4 = .ok (.iload_n 1, 1) := by decide +kernel
theorem dX9_smaller_5 : decode cX9_smaller 5 = .ok (.bipush 20, 2) := by decide +kernel
theorem dX9_smaller_7 : decode cX9_smaller 7 = .ok (.if_icmp .le 6, 3) := by decide +kernel
theorem dX9_smaller_10 : decode cX9_smaller 10 = .ok (.bipush (-2), 2) := by decide +kernel
theorem dX9_smaller_12 : decode cX9_smaller 12 = .ok (.ireturn, 1) := by decide +kernel
theorem dX9_smaller_13 : decode cX9_smaller 13 = .ok (.aload_n 0, 1) := by decide +kernel
theorem dX9_smaller_14 : decode cX9_smaller 14 = .ok (.getfield 56, 3) := by decide +kernel
theorem dX9_smaller_17 : decode cX9_smaller 17 = .ok (.ifCond .ne 6, 3) := by decide +kernel
theorem dX9_smaller_20 : decode cX9_smaller 20 = .ok (.bipush (-9), 2) := by decide +kernel
theorem dX9_smaller_22 : decode cX9_smaller 22 = .ok (.ireturn, 1) := by decide +kernel
theorem dX9_smaller_23 : decode cX9_smaller 23 = .ok (.aload_n 0, 1) := by decide +kernel
theorem dX9_smaller_24 : decode cX9_smaller 24 = .ok (.getfield 28, 3) := by decide +kernel
theorem dX9_smaller_27 : decode cX9_smaller 27 = .ok (.aload_n 0, 1) := by decide +kernel
theorem dX9_smaller_28 : decode cX9_smaller 28 = .ok (.getfield 45, 3) := by decide +kernel
theorem dX9_smaller_31 : decode cX9_smaller 31 = .ok (.invokevirtual 147, 3) := by decide +kernel
theorem dX9_smaller_34 : decode cX9_smaller 34 = .ok (.iconst 1, 1) := by decide +kernel
theorem dX9_smaller_35 : decode cX9_smaller 35 = .ok (.istore_n 2, 1) := by decide +kernel
theorem dX9_smaller_36 : decode cX9_smaller 36 = .ok (.iconst 0, 1) := by decide +kernel
theorem dX9_smaller_37 : decode cX9_smaller 37 = .ok (.istore_n 3, 1) := by decide +kernel
theorem dX9_smaller_38 : decode cX9_smaller 38 = .ok (.iload_n 3, 1) := by decide +kernel
theorem dX9_smaller_39 : decode cX9_smaller 39 = .ok (.iload_n 1, 1) := by decide +kernel
theorem dX9_smaller_40 : decode cX9_smaller 40 = .ok (.if_icmp .gt 22, 3) := by decide +kernel
theorem dX9_smaller_43 : decode cX9_smaller 43 = .ok (.iload_n 2, 1) := by decide +kernel
theorem dX9_smaller_44 : decode cX9_smaller 44 = .ok (.iconst 1, 1) := by decide +kernel
theorem dX9_smaller_45 : decode cX9_smaller 45 = .ok (.if_icmp .ne 17, 3) := by decide +kernel
theorem dX9_smaller_48 : decode cX9_smaller 48 = .ok (.aload_n 0, 1) := by decide +kernel
theorem dX9_smaller_49 : decode cX9_smaller 49 = .ok (.getfield 28, 3) := by decide +kernel
theorem dX9_smaller_52 : decode cX9_smaller 52 = .ok (.invokevirtual 151, 3) := by decide +kernel
theorem dX9_smaller_55 : decode cX9_smaller 55 = .ok (.istore_n 2, 1) := by decide +kernel
theorem dX9_smaller_56 : decode cX9_smaller 56 = .ok (.iinc 3 1, 3) := by decide +kernel
theorem dX9_smaller_59 : decode cX9_smaller 59 = .ok (.goto (-21), 3) := by decide +kernel
theorem dX9_smaller_62 : decode cX9_smaller 62 = .ok (.iload_n 2, 1) := by decide +kernel
theorem dX9_smaller_63 : decode cX9_smaller 63 = .ok (.iconst 1, 1) := by decide +kernel
theorem dX9_smaller_64 : decode cX9_smaller 64 = .ok (.if_icmp .ne 17, 3) := by decide +kernel
theorem dX9_smaller_67 : decode cX9_smaller 67 = .ok (.aload_n 0, 1) := by decide +kernel
theorem dX9_smaller_68 : decode cX9_smaller 68 = .ok (.aload_n 0, 1) := by decide +kernel
theorem dX9_smaller_69 : decode cX9_smaller 69 = .ok (.getfield 28, 3) := by decide +kernel
theorem dX9_smaller_72 : decode cX9_smaller 72 = .ok (.getfield 155, 3) := by decide +kernel
theorem dX9_smaller_75 : decode cX9_smaller 75 = .ok (.invokevirtual 143, 3) := by decide +kernel
theorem dX9_smaller_78 : decode cX9_smaller 78 = .ok (.goto 4, 3) := by decide +kernel
theorem dX9_smaller_81 : decode cX9_smaller 81 = .ok (.iload_n 2, 1) := by decide +kernel
theorem dX9_smaller_82 : decode cX9_smaller 82 = .ok (.ireturn, 1) := by decide +kernel
theorem dX9_sign_0 : decode cX9_sign 0 = .ok (.aload_n 0, 1) := by decide +kernel
theorem dX9_sign_1 : decode cX9_sign 1 = .ok (.getfield 56, 3) := by decide +kernel
theorem dX9_sign_4 : decode cX9_sign 4 = .ok (.ifCond .eq 18, 3) := by decide +kernel
theorem dX9_sign_7 : decode cX9_sign 7 = .ok (.aload_n 0, 1) := by decide +kernel
theorem dX9_sign_8 : decode cX9_sign 8 = .ok (.getfield 45, 3) := by decide +kernel
theorem dX9_sign_11 : decode cX9_sign 11 = .ok (.iload_n 1, 1) := by decide +kernel
theorem dX9_sign_12 : decode cX9_sign 12 = .ok (.aload_n 0, 1) := by decide +kernel
theorem dX9_sign_13 : decode cX9_sign 13 = .ok (.getfield 52, 3) := by decide +kernel
theorem dX9_sign_16 : decode cX9_sign 16 = .ok (.invokevirtual 158, 3) := by decide +kernel
theorem dX9_sign_19 : decode cX9_sign 19 = .ok (.goto 6, 3) := by decide +kernel
theorem dX9_sign_22 : decode cX9_sign 22 = .ok (.ldc2_w 162, 3) := by decide +kernel
theorem dX9_sign_25 : decode cX9_sign 25 = .ok (.lreturn, 1) := by decide +kernel
theorem dX9_holds_0 : decode cX9_holds 0 = .ok (.aload_n 0, 1) := by decide +kernel
theorem dX9_holds_1 : decode cX9_holds 1 = .ok (.getfield 12, 3) := by decide +kernel
theorem dX9_holds_4 : decode cX9_holds 4 = .ok (.iload_n 1, 1) := by decide +kernel
theorem dX9_holds_5 : decode cX9_holds 5 = .ok (.invokevirtual 103, 3) := by decide +kernel
theorem dX9_holds_8 : decode cX9_holds 8 = .ok (.ifCond .ne 5, 3) := by decide +kernel
theorem dX9_holds_11 : decode cX9_holds 11 = .ok (.iconst (-1), 1) := by decide +kernel
theorem dX9_holds_12 : decode cX9_holds 12 = .ok (.ireturn, 1) := by decide +kernel
theorem dX9_holds_13 : decode cX9_holds 13 = .ok (.aload_n 0, 1) := by decide +kernel
theorem dX9_holds_14 : decode cX9_holds 14 = .ok (.getfield 56, 3) := by decide +kernel
theorem dX9_holds_17 : decode cX9_holds 17 = .ok (.ifCond .ne 6, 3) := by decide +kernel
theorem dX9_holds_20 : decode cX9_holds 20 = .ok (.bipush (-3), 2) := by decide +kernel
theorem dX9_holds_22 : decode cX9_holds 22 = .ok (.ireturn, 1) := by decide +kernel
theorem dX9_holds_23 : decode cX9_holds 23 = .ok (.aload_n 0, 1) := by decide +kernel
theorem dX9_holds_24 : decode cX9_holds 24 = .ok (.getfield 12, 3) := by decide +kernel
theorem dX9_holds_27 : decode cX9_holds 27 = .ok (.iload_n 1, 1) := by decide +kernel
theorem dX9_holds_28 : decode cX9_holds 28 = .ok (.aload_n 0, 1) := by decide +kernel
theorem dX9_holds_29 : decode cX9_holds 29 = .ok (.getfield 52, 3) := by decide +kernel
theorem dX9_holds_32 : decode cX9_holds 32 = .ok (.invokevirtual 164, 3) := by decide +kernel
theorem dX9_holds_35 : decode cX9_holds 35 = .ok (.istore_n 2, 1) := by decide +kernel
theorem dX9_holds_36 : decode cX9_holds 36 = .ok (.iload_n 2, 1) := by decide +kernel
theorem dX9_holds_37 : decode cX9_holds 37 = .ok (.ifCond .ge 10, 3) := by decide +kernel
theorem dX9_holds_40 : decode cX9_holds 40 = .ok (.bipush (-10), 2) := by decide +kernel
theorem dX9_holds_42 : decode cX9_holds 42 = .ok (.iload_n 2, 1) := by decide +kernel
theorem dX9_holds_43 : decode cX9_holds 43 = .ok (.iadd, 1) := by decide +kernel
theorem dX9_holds_44 : decode cX9_holds 44 = .ok (.goto 4, 3) := by decide +kernel
theorem dX9_holds_47 : decode cX9_holds 47 = .ok (.iload_n 2, 1) := by decide +kernel
theorem dX9_holds_48 : decode cX9_holds 48 = .ok (.ireturn, 1) := by decide +kernel
theorem dX9_script_0 : decode cX9_script 0 = .ok (.aload_n 0, 1) := by decide +kernel
theorem dX9_script_1 : decode cX9_script 1 = .ok (.getfield 56, 3) := by decide +kernel
theorem dX9_script_4 : decode cX9_script 4 = .ok (.ifCond .eq 26, 3) := by decide +kernel
theorem dX9_script_7 : decode cX9_script 7 = .ok (.iload_n 1, 1) := by decide +kernel
theorem dX9_script_8 : decode cX9_script 8 = .ok (.iload_n 2, 1) := by decide +kernel
theorem dX9_script_9 : decode cX9_script 9 = .ok (.invokestatic 112, 3) := by decide +kernel
theorem dX9_script_12 : decode cX9_script 12 = .ok (.ifCond .eq 18, 3) := by decide +kernel
theorem dX9_script_15 : decode cX9_script 15 = .ok (.iload_n 3, 1) := by decide +kernel
theorem dX9_script_16 : decode cX9_script 16 = .ok (.ifCond .lt 14, 3) := by decide +kernel
theorem dX9_script_19 : decode cX9_script 19 = .ok (.iload_n 3, 1) := by decide +kernel
theorem dX9_script_20 : decode cX9_script 20 = .ok (.aload_n 0, 1) := by decide +kernel
theorem dX9_script_21 : decode cX9_script 21 = .ok (.getfield 52, 3) := by decide +kernel
theorem dX9_script_24 : decode cX9_script 24 = .ok (.invokevirtual 168, 3) := by decide +kernel
theorem dX9_script_27 : decode cX9_script 27 = .ok (.if_icmp .lt 7, 3) := by decide +kernel
theorem dX9_script_30 : decode cX9_script 30 = .ok (.ldc2_w 162, 3) := by decide +kernel
theorem dX9_script_33 : decode cX9_script 33 = .ok (.lreturn, 1) := by decide +kernel
theorem dX9_script_34 : decode cX9_script 34 = .ok (.iload 4, 2) := by decide +kernel
theorem dX9_script_36 : decode cX9_script 36 = .ok (.tableswitch 82 0 3 #[32, 42, 52, 67], 32) := by decide +kernel
theorem dX9_script_68 : decode cX9_script 68 = .ok (.aload_n 0, 1) := by decide +kernel
theorem dX9_script_69 : decode cX9_script 69 = .ok (.getfield 52, 3) := by decide +kernel
theorem dX9_script_72 : decode cX9_script 72 = .ok (.iload_n 3, 1) := by decide +kernel
theorem dX9_script_73 : decode cX9_script 73 = .ok (.invokevirtual 171, 3) := by decide +kernel
theorem dX9_script_76 : decode cX9_script 76 = .ok (.i2l, 1) := by decide +kernel
theorem dX9_script_77 : decode cX9_script 77 = .ok (.lreturn, 1) := by decide +kernel
theorem dX9_script_78 : decode cX9_script 78 = .ok (.aload_n 0, 1) := by decide +kernel
theorem dX9_script_79 : decode cX9_script 79 = .ok (.getfield 52, 3) := by decide +kernel
theorem dX9_script_82 : decode cX9_script 82 = .ok (.iload_n 3, 1) := by decide +kernel
theorem dX9_script_83 : decode cX9_script 83 = .ok (.invokevirtual 175, 3) := by decide +kernel
theorem dX9_script_86 : decode cX9_script 86 = .ok (.i2l, 1) := by decide +kernel
theorem dX9_script_87 : decode cX9_script 87 = .ok (.lreturn, 1) := by decide +kernel
theorem dX9_script_88 : decode cX9_script 88 = .ok (.aload_n 0, 1) := by decide +kernel
theorem dX9_script_89 : decode cX9_script 89 = .ok (.getfield 12, 3) := by decide +kernel
theorem dX9_script_92 : decode cX9_script 92 = .ok (.iload_n 1, 1) := by decide +kernel
theorem dX9_script_93 : decode cX9_script 93 = .ok (.iload_n 2, 1) := by decide +kernel
theorem dX9_script_94 : decode cX9_script 94 = .ok (.aload_n 0, 1) := by decide +kernel
theorem dX9_script_95 : decode cX9_script 95 = .ok (.getfield 52, 3) := by decide +kernel
theorem dX9_script_98 : decode cX9_script 98 = .ok (.iload_n 3, 1) := by decide +kernel
theorem dX9_script_99 : decode cX9_script 99 = .ok (.invokevirtual 178, 3) := by decide +kernel
theorem dX9_script_102 : decode cX9_script 102 = .ok (.lreturn, 1) := by decide +kernel
theorem dX9_script_103 : decode cX9_script 103 = .ok (.aload_n 0, 1) := by decide +kernel
theorem dX9_script_104 : decode cX9_script 104 = .ok (.getfield 12, 3) := by decide +kernel
theorem dX9_script_107 : decode cX9_script 107 = .ok (.iload_n 1, 1) := by decide +kernel
theorem dX9_script_108 : decode cX9_script 108 = .ok (.iconst 0, 1) := by decide +kernel
theorem dX9_script_109 : decode cX9_script 109 = .ok (.aload_n 0, 1) := by decide +kernel
theorem dX9_script_110 : decode cX9_script 110 = .ok (.getfield 52, 3) := by decide +kernel
theorem dX9_script_113 : decode cX9_script 113 = .ok (.iload_n 3, 1) := by decide +kernel
theorem dX9_script_114 : decode cX9_script 114 = .ok (.invokevirtual 178, 3) := by decide +kernel
theorem dX9_script_117 : decode cX9_script 117 = .ok (.lreturn, 1) := by decide +kernel
theorem dX9_script_118 : decode cX9_script 118 = .ok (.ldc2_w 162, 3) := by decide +kernel
theorem dX9_script_121 : decode cX9_script 121 = .ok (.lreturn, 1) := by decide +kernel
theorem dX9_draw_0 : decode cX9_draw 0 = .ok (.iload 4, 2) := by decide +kernel
theorem dX9_draw_2 : decode cX9_draw 2 = .ok (.iconst 1, 1) := by decide +kernel
theorem dX9_draw_3 : decode cX9_draw 3 = .ok (.if_icmp .lt 14, 3) := by decide +kernel
theorem dX9_draw_6 : decode cX9_draw 6 = .ok (.iload_n 3, 1) := by decide +kernel
theorem dX9_draw_7 : decode cX9_draw 7 = .ok (.ifCond .lt 10, 3) := by decide +kernel
theorem dX9_draw_10 : decode cX9_draw 10 = .ok (.iload_n 3, 1) := by decide +kernel
theorem dX9_draw_11 : decode cX9_draw 11 = .ok (.sipush 1000, 3) := by decide +kernel
theorem dX9_draw_14 : decode cX9_draw 14 = .ok (.if_icmp .le 6, 3) := by decide +kernel
theorem dX9_draw_17 : decode cX9_draw 17 = .ok (.bipush (-2), 2) := by decide +kernel
theorem dX9_draw_19 : decode cX9_draw 19 = .ok (.ireturn, 1) := by decide +kernel
theorem dX9_draw_20 : decode cX9_draw 20 = .ok (.lload_n 1, 1) := by decide +kernel
theorem dX9_draw_21 : decode cX9_draw 21 = .ok (.lstore 5, 2) := by decide +kernel
theorem dX9_draw_23 : decode cX9_draw 23 = .ok (.iconst 0, 1) := by decide +kernel
theorem dX9_draw_24 : decode cX9_draw 24 = .ok (.istore 7, 2) := by decide +kernel
theorem dX9_draw_26 : decode cX9_draw 26 = .ok (.iload 7, 2) := by decide +kernel
theorem dX9_draw_28 : decode cX9_draw 28 = .ok (.iload_n 3, 1) := by decide +kernel
theorem dX9_draw_29 : decode cX9_draw 29 = .ok (.if_icmp .gt 16, 3) := by decide +kernel
theorem dX9_draw_32 : decode cX9_draw 32 = .ok (.lload 5, 2) := by decide +kernel
theorem dX9_draw_34 : decode cX9_draw 34 = .ok (.invokestatic 182, 3) := by decide +kernel
theorem dX9_draw_37 : decode cX9_draw 37 = .ok (.lstore 5, 2) := by decide +kernel
theorem dX9_draw_39 : decode cX9_draw 39 = .ok (.iinc 7 1, 3) := by decide +kernel
theorem dX9_draw_42 : decode cX9_draw 42 = .ok (.goto (-16), 3) := by decide +kernel
theorem dX9_draw_45 : decode cX9_draw 45 = .ok (.lload 5, 2) := by decide +kernel
theorem dX9_draw_47 : decode cX9_draw 47 = .ok (.iload 4, 2) := by decide +kernel
theorem dX9_draw_49 : decode cX9_draw 49 = .ok (.invokestatic 186, 3) := by decide +kernel
theorem dX9_draw_52 : decode cX9_draw 52 = .ok (.ireturn, 1) := by decide +kernel
theorem dX9_property_0 : decode cX9_property 0 = .ok (.aload_n 0, 1) := by decide +kernel
theorem dX9_property_1 : decode cX9_property 1 = .ok (.getfield 21, 3) := by decide +kernel
theorem dX9_property_4 : decode cX9_property 4 = .ok (.iload_n 1, 1) := by decide +kernel
theorem dX9_property_5 : decode cX9_property 5 = .ok (.invokevirtual 87, 3) := by decide +kernel
theorem dX9_property_8 : decode cX9_property 8 = .ok (.ifnull 14, 3) := by decide +kernel
theorem dX9_property_11 : decode cX9_property 11 = .ok (.aload_n 0, 1) := by decide +kernel
theorem dX9_property_12 : decode cX9_property 12 = .ok (.getfield 12, 3) := by decide +kernel
theorem dX9_property_15 : decode cX9_property 15 = .ok (.iload_n 2, 1) := by decide +kernel
theorem dX9_property_16 : decode cX9_property 16 = .ok (.invokevirtual 103, 3) := by decide +kernel
theorem dX9_property_19 : decode cX9_property 19 = .ok (.ifCond .ne 5, 3) := by decide +kernel
theorem dX9_property_22 : decode cX9_property 22 = .ok (.iconst (-1), 1) := by decide +kernel
theorem dX9_property_23 : decode cX9_property 23 = .ok (.ireturn, 1) := by decide +kernel
theorem dX9_property_24 : decode cX9_property 24 = .ok (.aload_n 0, 1) := by decide +kernel
theorem dX9_property_25 : decode cX9_property 25 = .ok (.getfield 38, 3) := by decide +kernel
theorem dX9_property_28 : decode cX9_property 28 = .ok (.ifCond .lt 12, 3) := by decide +kernel
theorem dX9_property_31 : decode cX9_property 31 = .ok (.aload_n 0, 1) := by decide +kernel
theorem dX9_property_32 : decode cX9_property 32 = .ok (.getfield 38, 3) := by decide +kernel
theorem dX9_property_35 : decode cX9_property 35 = .ok (.bipush 20, 2) := by decide +kernel
theorem dX9_property_37 : decode cX9_property 37 = .ok (.if_icmp .lt 6, 3) := by decide +kernel
theorem dX9_property_40 : decode cX9_property 40 = .ok (.bipush (-4), 2) := by decide +kernel
theorem dX9_property_42 : decode cX9_property 42 = .ok (.ireturn, 1) := by decide +kernel
theorem dX9_property_43 : decode cX9_property 43 = .ok (.aload_n 0, 1) := by decide +kernel
theorem dX9_property_44 : decode cX9_property 44 = .ok (.getfield 34, 3) := by decide +kernel
theorem dX9_property_47 : decode cX9_property 47 = .ok (.aload_n 0, 1) := by decide +kernel
theorem dX9_property_48 : decode cX9_property 48 = .ok (.getfield 38, 3) := by decide +kernel
theorem dX9_property_51 : decode cX9_property 51 = .ok (.new 32, 3) := by decide +kernel
theorem dX9_property_54 : decode cX9_property 54 = .ok (.dup, 1) := by decide +kernel
theorem dX9_property_55 : decode cX9_property 55 = .ok (.iload_n 1, 1) := by decide +kernel
theorem dX9_property_56 : decode cX9_property 56 = .ok (.iload_n 2, 1) := by decide +kernel
theorem dX9_property_57 : decode cX9_property 57 = .ok (.invokespecial 190, 3) := by decide +kernel
theorem dX9_property_60 : decode cX9_property 60 = .ok (.aastore, 1) := by decide +kernel
theorem dX9_property_61 : decode cX9_property 61 = .ok (.aload_n 0, 1) := by decide +kernel
theorem dX9_property_62 : decode cX9_property 62 = .ok (.dup, 1) := by decide +kernel
theorem dX9_property_63 : decode cX9_property 63 = .ok (.getfield 38, 3) := by decide +kernel
theorem dX9_property_66 : decode cX9_property 66 = .ok (.iconst 1, 1) := by decide +kernel
theorem dX9_property_67 : decode cX9_property 67 = .ok (.iadd, 1) := by decide +kernel
theorem dX9_property_68 : decode cX9_property 68 = .ok (.putfield 38, 3) := by decide +kernel
theorem dX9_property_71 : decode cX9_property 71 = .ok (.aload_n 0, 1) := by decide +kernel
theorem dX9_property_72 : decode cX9_property 72 = .ok (.getfield 38, 3) := by decide +kernel
theorem dX9_property_75 : decode cX9_property 75 = .ok (.iconst 1, 1) := by decide +kernel
theorem dX9_property_76 : decode cX9_property 76 = .ok (.isub, 1) := by decide +kernel
theorem dX9_property_77 : decode cX9_property 77 = .ok (.ireturn, 1) := by decide +kernel
theorem dX9_label_0 : decode cX9_label 0 = .ok (.aload_n 0, 1) := by decide +kernel
theorem dX9_label_1 : decode cX9_label 1 = .ok (.iload_n 1, 1) := by decide +kernel
theorem dX9_label_2 : decode cX9_label 2 = .ok (.invokevirtual 193, 3) := by decide +kernel
theorem dX9_label_5 : decode cX9_label 5 = .ok (.astore_n 3, 1) := by decide +kernel
theorem dX9_label_6 : decode cX9_label 6 = .ok (.aload_n 3, 1) := by decide +kernel
theorem dX9_label_7 : decode cX9_label 7 = .ok (.ifnull 14, 3) := by decide +kernel
theorem dX9_label_10 : decode cX9_label 10 = .ok (.aload_n 0, 1) := by decide +kernel
theorem dX9_label_11 : decode cX9_label 11 = .ok (.getfield 12, 3) := by decide +kernel
theorem dX9_label_14 : decode cX9_label 14 = .ok (.iload_n 2, 1) := by decide +kernel
theorem dX9_label_15 : decode cX9_label 15 = .ok (.invokevirtual 103, 3) := by decide +kernel
theorem dX9_label_18 : decode cX9_label 18 = .ok (.ifCond .ne 5, 3) := by decide +kernel
theorem dX9_label_21 : decode cX9_label 21 = .ok (.iconst (-1), 1) := by decide +kernel
theorem dX9_label_22 : decode cX9_label 22 = .ok (.ireturn, 1) := by decide +kernel
theorem dX9_label_23 : decode cX9_label 23 = .ok (.aload_n 3, 1) := by decide +kernel
theorem dX9_label_24 : decode cX9_label 24 = .ok (.iload_n 2, 1) := by decide +kernel
theorem dX9_label_25 : decode cX9_label 25 = .ok (.invokevirtual 197, 3) := by decide +kernel
theorem dX9_label_28 : decode cX9_label 28 = .ok (.ireturn, 1) := by decide +kernel
theorem dX9_run_0 : decode cX9_run 0 = .ok (.aload_n 0, 1) := by decide +kernel
theorem dX9_run_1 : decode cX9_run 1 = .ok (.iload_n 1, 1) := by decide +kernel
theorem dX9_run_2 : decode cX9_run 2 = .ok (.invokevirtual 193, 3) := by decide +kernel
theorem dX9_run_5 : decode cX9_run 5 = .ok (.astore 6, 2) := by decide +kernel
theorem dX9_run_7 : decode cX9_run 7 = .ok (.aload 6, 2) := by decide +kernel
theorem dX9_run_9 : decode cX9_run 9 = .ok (.ifnonnull 5, 3) := by decide +kernel
theorem dX9_run_12 : decode cX9_run 12 = .ok (.iconst (-1), 1) := by decide +kernel
theorem dX9_run_13 : decode cX9_run 13 = .ok (.ireturn, 1) := by decide +kernel
theorem dX9_run_14 : decode cX9_run 14 = .ok (.iload 4, 2) := by decide +kernel
theorem dX9_run_16 : decode cX9_run 16 = .ok (.iconst 1, 1) := by decide +kernel
theorem dX9_run_17 : decode cX9_run 17 = .ok (.if_icmp .lt 18, 3) := by decide +kernel
theorem dX9_run_20 : decode cX9_run 20 = .ok (.iload 4, 2) := by decide +kernel
theorem dX9_run_22 : decode cX9_run 22 = .ok (.bipush 50, 2) := by decide +kernel
theorem dX9_run_24 : decode cX9_run 24 = .ok (.if_icmp .gt 11, 3) := by decide +kernel
theorem dX9_run_27 : decode cX9_run 27 = .ok (.iload 5, 2) := by decide +kernel
theorem dX9_run_29 : decode cX9_run 29 = .ok (.invokestatic 129, 3) := by decide +kernel
theorem dX9_run_32 : decode cX9_run 32 = .ok (.ifCond .ne 6, 3) := by decide +kernel
theorem dX9_run_35 : decode cX9_run 35 = .ok (.bipush (-2), 2) := by decide +kernel
theorem dX9_run_37 : decode cX9_run 37 = .ok (.ireturn, 1) := by decide +kernel
theorem dX9_run_38 : decode cX9_run 38 = .ok (.aload_n 0, 1) := by decide +kernel
theorem dX9_run_39 : decode cX9_run 39 = .ok (.invokevirtual 200, 3) := by decide +kernel
theorem dX9_run_42 : decode cX9_run 42 = .ok (.iconst 0, 1) := by decide +kernel
theorem dX9_run_43 : decode cX9_run 43 = .ok (.istore 7, 2) := by decide +kernel
theorem dX9_run_45 : decode cX9_run 45 = .ok (.iconst 0, 1) := by decide +kernel
theorem dX9_run_46 : decode cX9_run 46 = .ok (.istore 8, 2) := by decide +kernel
theorem dX9_run_48 : decode cX9_run 48 = .ok (.iload 8, 2) := by decide +kernel
theorem dX9_run_50 : decode cX9_run 50 = .ok (.iload 4, 2) := by decide +kernel
theorem dX9_run_52 : decode cX9_run 52 = .ok (.if_icmp .ge 53, 3) := by decide +kernel
theorem dX9_run_55 : decode cX9_run 55 = .ok (.iload 7, 2) := by decide +kernel
theorem dX9_run_57 : decode cX9_run 57 = .ok (.ifCond .ne 48, 3) := by decide +kernel
theorem dX9_run_60 : decode cX9_run 60 = .ok (.aload_n 0, 1) := by decide +kernel
theorem dX9_run_61 : decode cX9_run 61 = .ok (.aload 6, 2) := by decide +kernel
theorem dX9_run_63 : decode cX9_run 63 = .ok (.lload_n 2, 1) := by decide +kernel
theorem dX9_run_64 : decode cX9_run 64 = .ok (.iload 8, 2) := by decide +kernel
theorem dX9_run_66 : decode cX9_run 66 = .ok (.i2l, 1) := by decide +kernel
theorem dX9_run_67 : decode cX9_run 67 = .ok (.ldc2_w 203, 3) := by decide +kernel
theorem dX9_run_70 : decode cX9_run 70 = .ok (.lmul, 1) := by decide +kernel
theorem dX9_run_71 : decode cX9_run 71 = .ok (.ladd, 1) := by decide +kernel
theorem dX9_run_72 : decode cX9_run 72 = .ok (.iload 5, 2) := by decide +kernel
theorem dX9_run_74 : decode cX9_run 74 = .ok (.invokevirtual 205, 3) := by decide +kernel
theorem dX9_run_77 : decode cX9_run 77 = .ok (.istore 7, 2) := by decide +kernel
theorem dX9_run_79 : decode cX9_run 79 = .ok (.iload 7, 2) := by decide +kernel
theorem dX9_run_81 : decode cX9_run 81 = .ok (.iconst 1, 1) := by decide +kernel
theorem dX9_run_82 : decode cX9_run 82 = .ok (.if_icmp .ne 17, 3) := by decide +kernel
theorem dX9_run_85 : decode cX9_run 85 = .ok (.aload_n 0, 1) := by decide +kernel
theorem dX9_run_86 : decode cX9_run 86 = .ok (.getfield 60, 3) := by decide +kernel
theorem dX9_run_89 : decode cX9_run 89 = .ok (.iconst 2, 1) := by decide +kernel
theorem dX9_run_90 : decode cX9_run 90 = .ok (.iload 8, 2) := by decide +kernel
theorem dX9_run_92 : decode cX9_run 92 = .ok (.iastore, 1) := by decide +kernel
theorem dX9_run_93 : decode cX9_run 93 = .ok (.aload_n 0, 1) := by decide +kernel
theorem dX9_run_94 : decode cX9_run 94 = .ok (.aload 6, 2) := by decide +kernel
theorem dX9_run_96 : decode cX9_run 96 = .ok (.invokevirtual 209, 3) := by decide +kernel
theorem dX9_run_99 : decode cX9_run 99 = .ok (.iinc 8 1, 3) := by decide +kernel
theorem dX9_run_102 : decode cX9_run 102 = .ok (.goto (-54), 3) := by decide +kernel
theorem dX9_run_105 : decode cX9_run 105 = .ok (.aload_n 0, 1) := by decide +kernel
theorem dX9_run_106 : decode cX9_run 106 = .ok (.getfield 60, 3) := by decide +kernel
theorem dX9_run_109 : decode cX9_run 109 = .ok (.iconst 0, 1) := by decide +kernel
theorem dX9_run_110 : decode cX9_run 110 = .ok (.iload 7, 2) := by decide +kernel
theorem dX9_run_112 : decode cX9_run 112 = .ok (.iastore, 1) := by decide +kernel
theorem dX9_run_113 : decode cX9_run 113 = .ok (.iload 7, 2) := by decide +kernel
theorem dX9_run_115 : decode cX9_run 115 = .ok (.ireturn, 1) := by decide +kernel
theorem dX9_ran_0 : decode cX9_ran 0 = .ok (.iload_n 1, 1) := by decide +kernel
theorem dX9_ran_1 : decode cX9_ran 1 = .ok (.ifCond .lt 9, 3) := by decide +kernel
theorem dX9_ran_4 : decode cX9_ran 4 = .ok (.iload_n 1, 1) := by decide +kernel
theorem dX9_ran_5 : decode cX9_ran 5 = .ok (.bipush 8, 2) := by decide +kernel
theorem dX9_ran_7 : decode cX9_ran 7 = .ok (.if_icmp .lt 6, 3) := by decide +kernel
theorem dX9_ran_10 : decode cX9_ran 10 = .ok (.bipush (-2), 2) := by decide +kernel
theorem dX9_ran_12 : decode cX9_ran 12 = .ok (.ireturn, 1) := by decide +kernel
theorem dX9_ran_13 : decode cX9_ran 13 = .ok (.aload_n 0, 1) := by decide +kernel
theorem dX9_ran_14 : decode cX9_ran 14 = .ok (.getfield 64, 3) := by decide +kernel
theorem dX9_ran_17 : decode cX9_ran 17 = .ok (.ifCond .eq 12, 3) := by decide +kernel
theorem dX9_ran_20 : decode cX9_ran 20 = .ok (.aload_n 0, 1) := by decide +kernel
theorem dX9_ran_21 : decode cX9_ran 21 = .ok (.getfield 60, 3) := by decide +kernel
theorem dX9_ran_24 : decode cX9_ran 24 = .ok (.iload_n 1, 1) := by decide +kernel
theorem dX9_ran_25 : decode cX9_ran 25 = .ok (.iaload, 1) := by decide +kernel
theorem dX9_ran_26 : decode cX9_ran 26 = .ok (.goto 5, 3) := by decide +kernel
theorem dX9_ran_29 : decode cX9_ran 29 = .ok (.bipush (-9), 2) := by decide +kernel
theorem dX9_ran_31 : decode cX9_ran 31 = .ok (.ireturn, 1) := by decide +kernel
theorem dX9_show_0 : decode cX9_show 0 = .ok (.aload_n 0, 1) := by decide +kernel
theorem dX9_show_1 : decode cX9_show 1 = .ok (.getfield 64, 3) := by decide +kernel
theorem dX9_show_4 : decode cX9_show 4 = .ok (.ifCond .eq 13, 3) := by decide +kernel
theorem dX9_show_7 : decode cX9_show 7 = .ok (.aload_n 0, 1) := by decide +kernel
theorem dX9_show_8 : decode cX9_show 8 = .ok (.getfield 60, 3) := by decide +kernel
theorem dX9_show_11 : decode cX9_show 11 = .ok (.iconst 0, 1) := by decide +kernel
theorem dX9_show_12 : decode cX9_show 12 = .ok (.iaload, 1) := by decide +kernel
theorem dX9_show_13 : decode cX9_show 13 = .ok (.iconst 1, 1) := by decide +kernel
theorem dX9_show_14 : decode cX9_show 14 = .ok (.if_icmp .eq 6, 3) := by decide +kernel
theorem dX9_show_17 : decode cX9_show 17 = .ok (.bipush (-3), 2) := by decide +kernel
theorem dX9_show_19 : decode cX9_show 19 = .ok (.ireturn, 1) := by decide +kernel
theorem dX9_show_20 : decode cX9_show 20 = .ok (.aload_n 0, 1) := by decide +kernel
theorem dX9_show_21 : decode cX9_show 21 = .ok (.iload_n 1, 1) := by decide +kernel
theorem dX9_show_22 : decode cX9_show 22 = .ok (.ifCond .eq 10, 3) := by decide +kernel
theorem dX9_show_25 : decode cX9_show 25 = .ok (.aload_n 0, 1) := by decide +kernel
theorem dX9_show_26 : decode cX9_show 26 = .ok (.getfield 67, 3) := by decide +kernel
theorem dX9_show_29 : decode cX9_show 29 = .ok (.goto 7, 3) := by decide +kernel
theorem dX9_show_32 : decode cX9_show 32 = .ok (.aload_n 0, 1) := by decide +kernel
theorem dX9_show_33 : decode cX9_show 33 = .ok (.getfield 70, 3) := by decide +kernel
theorem dX9_show_36 : decode cX9_show 36 = .ok (.invokevirtual 143, 3) := by decide +kernel
theorem dX9_show_39 : decode cX9_show 39 = .ok (.ireturn, 1) := by decide +kernel
theorem dX9_effort_0 : decode cX9_effort 0 = .ok (.aload_n 0, 1) := by decide +kernel
theorem dX9_effort_1 : decode cX9_effort 1 = .ok (.getfield 12, 3) := by decide +kernel
theorem dX9_effort_4 : decode cX9_effort 4 = .ok (.getfield 213, 3) := by decide +kernel
theorem dX9_effort_7 : decode cX9_effort 7 = .ok (.ireturn, 1) := by decide +kernel
theorem dX9_told_0 : decode cX9_told 0 = .ok (.iload_n 1, 1) := by decide +kernel
theorem dX9_told_1 : decode cX9_told 1 = .ok (.tableswitch 72 0 3 #[31, 39, 47, 52], 31) := by decide +kernel
theorem dX9_told_32 : decode cX9_told 32 = .ok (.aload_n 0, 1) := by decide +kernel
theorem dX9_told_33 : decode cX9_told 33 = .ok (.getfield 21, 3) := by decide +kernel
theorem dX9_told_36 : decode cX9_told 36 = .ok (.getfield 216, 3) := by decide +kernel
theorem dX9_told_39 : decode cX9_told 39 = .ok (.ireturn, 1) := by decide +kernel
theorem dX9_told_40 : decode cX9_told 40 = .ok (.aload_n 0, 1) := by decide +kernel
theorem dX9_told_41 : decode cX9_told 41 = .ok (.getfield 12, 3) := by decide +kernel
theorem dX9_told_44 : decode cX9_told 44 = .ok (.getfield 219, 3) := by decide +kernel
theorem dX9_told_47 : decode cX9_told 47 = .ok (.ireturn, 1) := by decide +kernel
theorem dX9_told_48 : decode cX9_told 48 = .ok (.aload_n 0, 1) := by decide +kernel
theorem dX9_told_49 : decode cX9_told 49 = .ok (.getfield 38, 3) := by decide +kernel
theorem dX9_told_52 : decode cX9_told 52 = .ok (.ireturn, 1) := by decide +kernel
theorem dX9_told_53 : decode cX9_told 53 = .ok (.aload_n 0, 1) := by decide +kernel
theorem dX9_told_54 : decode cX9_told 54 = .ok (.getfield 56, 3) := by decide +kernel
theorem dX9_told_57 : decode cX9_told 57 = .ok (.ifCond .eq 13, 3) := by decide +kernel
theorem dX9_told_60 : decode cX9_told 60 = .ok (.aload_n 0, 1) := by decide +kernel
theorem dX9_told_61 : decode cX9_told 61 = .ok (.getfield 52, 3) := by decide +kernel
theorem dX9_told_64 : decode cX9_told 64 = .ok (.getfield 220, 3) := by decide +kernel
theorem dX9_told_67 : decode cX9_told 67 = .ok (.goto 5, 3) := by decide +kernel
theorem dX9_told_70 : decode cX9_told 70 = .ok (.bipush (-9), 2) := by decide +kernel
theorem dX9_told_72 : decode cX9_told 72 = .ok (.ireturn, 1) := by decide +kernel
theorem dX9_told_73 : decode cX9_told 73 = .ok (.bipush (-2), 2) := by decide +kernel
theorem dX9_told_75 : decode cX9_told 75 = .ok (.ireturn, 1) := by decide +kernel
theorem dX9_isSize_0 : decode cX9_isSize 0 = .ok (.iload_n 0, 1) := by decide +kernel
theorem dX9_isSize_1 : decode cX9_isSize 1 = .ok (.ifCond .lt 13, 3) := by decide +kernel
theorem dX9_isSize_4 : decode cX9_isSize 4 = .ok (.iload_n 0, 1) := by decide +kernel
theorem dX9_isSize_5 : decode cX9_isSize 5 = .ok (.bipush 24, 2) := by decide +kernel
theorem dX9_isSize_7 : decode cX9_isSize 7 = .ok (.if_icmp .gt 7, 3) := by decide +kernel
theorem dX9_isSize_10 : decode cX9_isSize 10 = .ok (.iconst 1, 1) := by decide +kernel
theorem dX9_isSize_11 : decode cX9_isSize 11 = .ok (.goto 4, 3) := by decide +kernel
theorem dX9_isSize_14 : decode cX9_isSize 14 = .ok (.iconst 0, 1) := by decide +kernel
theorem dX9_isSize_15 : decode cX9_isSize 15 = .ok (.ireturn, 1) := by decide +kernel
theorem dX9_isMachine_0 : decode cX9_isMachine 0 = .ok (.iload_n 0, 1) := by decide +kernel
theorem dX9_isMachine_1 : decode cX9_isMachine 1 = .ok (.ifCond .lt 21, 3) := by decide +kernel
theorem dX9_isMachine_4 : decode cX9_isMachine 4 = .ok (.iload_n 0, 1) := by decide +kernel
theorem dX9_isMachine_5 : decode cX9_isMachine 5 = .ok (.iconst 3, 1) := by decide +kernel
theorem dX9_isMachine_6 : decode cX9_isMachine 6 = .ok (.if_icmp .ge 16, 3) := by decide +kernel
theorem dX9_isMachine_9 : decode cX9_isMachine 9 = .ok (.iload_n 1, 1) := by decide +kernel
theorem dX9_isMachine_10 : decode cX9_isMachine 10 = .ok (.ifCond .lt 12, 3) := by decide +kernel
theorem dX9_isMachine_13 : decode cX9_isMachine 13 = .ok (.iload_n 1, 1) := by decide +kernel
theorem dX9_isMachine_14 : decode cX9_isMachine 14 = .ok (.iconst 4, 1) := by decide +kernel
theorem dX9_isMachine_15 : decode cX9_isMachine 15 = .ok (.if_icmp .ge 7, 3) := by decide +kernel
theorem dX9_isMachine_18 : decode cX9_isMachine 18 = .ok (.iconst 1, 1) := by decide +kernel
theorem dX9_isMachine_19 : decode cX9_isMachine 19 = .ok (.goto 4, 3) := by decide +kernel
theorem dX9_isMachine_22 : decode cX9_isMachine 22 = .ok (.iconst 0, 1) := by decide +kernel
theorem dX9_isMachine_23 : decode cX9_isMachine 23 = .ok (.ireturn, 1) := by decide +kernel
theorem dX9_nextDraw_0 : decode cX9_nextDraw 0 = .ok (.lload_n 0, 1) := by decide +kernel
theorem dX9_nextDraw_1 : decode cX9_nextDraw 1 = .ok (.ldc2_w 221, 3) := by decide +kernel
theorem dX9_nextDraw_4 : decode cX9_nextDraw 4 = .ok (.lmul, 1) := by decide +kernel
theorem dX9_nextDraw_5 : decode cX9_nextDraw 5 = .ok (.ldc2_w 223, 3) := by decide +kernel
theorem dX9_nextDraw_8 : decode cX9_nextDraw 8 = .ok (.ladd, 1) := by decide +kernel
theorem dX9_nextDraw_9 : decode cX9_nextDraw 9 = .ok (.lreturn, 1) := by decide +kernel
theorem dX9_numberOf_0 : decode cX9_numberOf 0 = .ok (.lload_n 0, 1) := by decide +kernel
theorem dX9_numberOf_1 : decode cX9_numberOf 1 = .ok (.bipush 32, 2) := by decide +kernel
theorem dX9_numberOf_3 : decode cX9_numberOf 3 = .ok (.lushr, 1) := by decide +kernel
theorem dX9_numberOf_4 : decode cX9_numberOf 4 = .ok (.iload_n 2, 1) := by decide +kernel
theorem dX9_numberOf_5 : decode cX9_numberOf 5 = .ok (.i2l, 1) := by decide +kernel
theorem dX9_numberOf_6 : decode cX9_numberOf 6 = .ok (.lmul, 1) := by decide +kernel
theorem dX9_numberOf_7 : decode cX9_numberOf 7 = .ok (.bipush 32, 2) := by decide +kernel
theorem dX9_numberOf_9 : decode cX9_numberOf 9 = .ok (.lushr, 1) := by decide +kernel
theorem dX9_numberOf_10 : decode cX9_numberOf 10 = .ok (.l2i, 1) := by decide +kernel
theorem dX9_numberOf_11 : decode cX9_numberOf 11 = .ok (.ireturn, 1) := by decide +kernel
theorem dX9_propertyAt_0 : decode cX9_propertyAt 0 = .ok (.iload_n 1, 1) := by decide +kernel
theorem dX9_propertyAt_1 : decode cX9_propertyAt 1 = .ok (.ifCond .lt 26, 3) := by decide +kernel
theorem dX9_propertyAt_4 : decode cX9_propertyAt 4 = .ok (.iload_n 1, 1) := by decide +kernel
theorem dX9_propertyAt_5 : decode cX9_propertyAt 5 = .ok (.aload_n 0, 1) := by decide +kernel
theorem dX9_propertyAt_6 : decode cX9_propertyAt 6 = .ok (.getfield 38, 3) := by decide +kernel
theorem dX9_propertyAt_9 : decode cX9_propertyAt 9 = .ok (.if_icmp .ge 18, 3) := by decide +kernel
theorem dX9_propertyAt_12 : decode cX9_propertyAt 12 = .ok (.iload_n 1, 1) := by decide +kernel
theorem dX9_propertyAt_13 : decode cX9_propertyAt 13 = .ok (.bipush 20, 2) := by decide +kernel
theorem dX9_propertyAt_15 : decode cX9_propertyAt 15 = .ok (.if_icmp .ge 12, 3) := by decide +kernel
theorem dX9_propertyAt_18 : decode cX9_propertyAt 18 = .ok (.aload_n 0, 1) := by decide +kernel
theorem dX9_propertyAt_19 : decode cX9_propertyAt 19 = .ok (.getfield 34, 3) := by decide +kernel
theorem dX9_propertyAt_22 : decode cX9_propertyAt 22 = .ok (.iload_n 1, 1) := by decide +kernel
theorem dX9_propertyAt_23 : decode cX9_propertyAt 23 = .ok (.aaload, 1) := by decide +kernel
theorem dX9_propertyAt_24 : decode cX9_propertyAt 24 = .ok (.goto 4, 3) := by decide +kernel
theorem dX9_propertyAt_27 : decode cX9_propertyAt 27 = .ok (.aconst_null, 1) := by decide +kernel
theorem dX9_propertyAt_28 : decode cX9_propertyAt 28 = .ok (.areturn, 1) := by decide +kernel
theorem dX9_bringOut_0 : decode cX9_bringOut 0 = .ok (.aload_n 0, 1) := by decide +kernel
theorem dX9_bringOut_1 : decode cX9_bringOut 1 = .ok (.getfield 45, 3) := by decide +kernel
theorem dX9_bringOut_4 : decode cX9_bringOut 4 = .ok (.aload_n 1, 1) := by decide +kernel
theorem dX9_bringOut_5 : decode cX9_bringOut 5 = .ok (.invokevirtual 225, 3) := by decide +kernel
theorem dX9_bringOut_8 : decode cX9_bringOut 8 = .ok (.aload_n 0, 1) := by decide +kernel
theorem dX9_bringOut_9 : decode cX9_bringOut 9 = .ok (.getfield 45, 3) := by decide +kernel
theorem dX9_bringOut_12 : decode cX9_bringOut 12 = .ok (.iconst 0, 1) := by decide +kernel
theorem dX9_bringOut_13 : decode cX9_bringOut 13 = .ok (.aload_n 0, 1) := by decide +kernel
theorem dX9_bringOut_14 : decode cX9_bringOut 14 = .ok (.getfield 45, 3) := by decide +kernel
theorem dX9_bringOut_17 : decode cX9_bringOut 17 = .ok (.getfield 228, 3) := by decide +kernel
theorem dX9_bringOut_20 : decode cX9_bringOut 20 = .ok (.aload_n 0, 1) := by decide +kernel
theorem dX9_bringOut_21 : decode cX9_bringOut 21 = .ok (.getfield 52, 3) := by decide +kernel
theorem dX9_bringOut_24 : decode cX9_bringOut 24 = .ok (.invokevirtual 231, 3) := by decide +kernel
theorem dX9_bringOut_27 : decode cX9_bringOut 27 = .ok (.aload_n 0, 1) := by decide +kernel
theorem dX9_bringOut_28 : decode cX9_bringOut 28 = .ok (.iconst 1, 1) := by decide +kernel
theorem dX9_bringOut_29 : decode cX9_bringOut 29 = .ok (.putfield 56, 3) := by decide +kernel
theorem dX9_bringOut_32 : decode cX9_bringOut 32 = .ok (.aload_n 0, 1) := by decide +kernel
theorem dX9_bringOut_33 : decode cX9_bringOut 33 = .ok (.getfield 45, 3) := by decide +kernel
theorem dX9_bringOut_36 : decode cX9_bringOut 36 = .ok (.invokevirtual 235, 3) := by decide +kernel
theorem dX9_bringOut_39 : decode cX9_bringOut 39 = .ok (.ireturn, 1) := by decide +kernel
theorem dX9_startReport_0 : decode cX9_startReport 0 = .ok (.iconst 0, 1) := by decide +kernel
theorem dX9_startReport_1 : decode cX9_startReport 1 = .ok (.istore_n 1, 1) := by decide +kernel
theorem dX9_startReport_2 : decode cX9_startReport 2 = .ok (.iload_n 1, 1) := by decide +kernel
theorem dX9_startReport_3 : decode cX9_startReport 3 = .ok (.bipush 8, 2) := by decide +kernel
theorem dX9_startReport_5 : decode cX9_startReport 5 = .ok (.if_icmp .ge 16, 3) := by decide +kernel
theorem dX9_startReport_8 : decode cX9_startReport 8 = .ok (.aload_n 0, 1) := by decide +kernel
theorem dX9_startReport_9 : decode cX9_startReport 9 = .ok (.getfield 60, 3) := by decide +kernel
theorem dX9_startReport_12 : decode cX9_startReport 12 = .ok (.iload_n 1, 1) := by decide +kernel
theorem dX9_startReport_13 : decode cX9_startReport 13 = .ok (.iconst 0, 1) := by decide +kernel
theorem dX9_startReport_14 : decode cX9_startReport 14 = .ok (.iastore, 1) := by decide +kernel
theorem dX9_startReport_15 : decode cX9_startReport 15 = .ok (.iinc 1 1, 3) := by decide +kernel
theorem dX9_startReport_18 : decode cX9_startReport 18 = .ok (.goto (-16), 3) := by decide +kernel
theorem dX9_startReport_21 : decode cX9_startReport 21 = .ok (.aload_n 0, 1) := by decide +kernel
theorem dX9_startReport_22 : decode cX9_startReport 22 = .ok (.getfield 60, 3) := by decide +kernel
theorem dX9_startReport_25 : decode cX9_startReport 25 = .ok (.iconst 2, 1) := by decide +kernel
theorem dX9_startReport_26 : decode cX9_startReport 26 = .ok (.bipush (-9), 2) := by decide +kernel
theorem dX9_startReport_28 : decode cX9_startReport 28 = .ok (.iastore, 1) := by decide +kernel
theorem dX9_startReport_29 : decode cX9_startReport 29 = .ok (.aload_n 0, 1) := by decide +kernel
theorem dX9_startReport_30 : decode cX9_startReport 30 = .ok (.iconst 1, 1) := by decide +kernel
theorem dX9_startReport_31 : decode cX9_startReport 31 = .ok (.putfield 64, 3) := by decide +kernel
theorem dX9_startReport_34 : decode cX9_startReport 34 = .ok (.return_, 1) := by decide +kernel
theorem dX9_tryCase_0 : decode cX9_tryCase 0 = .ok (.aload_n 0, 1) := by decide +kernel
theorem dX9_tryCase_1 : decode cX9_tryCase 1 = .ok (.getfield 21, 3) := by decide +kernel
theorem dX9_tryCase_4 : decode cX9_tryCase 4 = .ok (.lload_n 2, 1) := by decide +kernel
theorem dX9_tryCase_5 : decode cX9_tryCase 5 = .ok (.iload 4, 2) := by decide +kernel
theorem dX9_tryCase_7 : decode cX9_tryCase 7 = .ok (.invokevirtual 132, 3) := by decide +kernel
theorem dX9_tryCase_10 : decode cX9_tryCase 10 = .ok (.aload_n 0, 1) := by decide +kernel
theorem dX9_tryCase_11 : decode cX9_tryCase 11 = .ok (.getfield 21, 3) := by decide +kernel
theorem dX9_tryCase_14 : decode cX9_tryCase 14 = .ok (.aload_n 1, 1) := by decide +kernel
theorem dX9_tryCase_15 : decode cX9_tryCase 15 = .ok (.getfield 238, 3) := by decide +kernel
theorem dX9_tryCase_18 : decode cX9_tryCase 18 = .ok (.iconst (-1), 1) := by decide +kernel
theorem dX9_tryCase_19 : decode cX9_tryCase 19 = .ok (.iconst 0, 1) := by decide +kernel
theorem dX9_tryCase_20 : decode cX9_tryCase 20 = .ok (.invokevirtual 136, 3) := by decide +kernel
theorem dX9_tryCase_23 : decode cX9_tryCase 23 = .ok (.istore 5, 2) := by decide +kernel
theorem dX9_tryCase_25 : decode cX9_tryCase 25 = .ok (.iload 5, 2) := by decide +kernel
theorem dX9_tryCase_27 : decode cX9_tryCase 27 = .ok (.iconst 1, 1) := by decide +kernel
theorem dX9_tryCase_28 : decode cX9_tryCase 28 = .ok (.if_icmp .eq 16, 3) := by decide +kernel
theorem dX9_tryCase_31 : decode cX9_tryCase 31 = .ok (.iload 5, 2) := by decide +kernel
theorem dX9_tryCase_33 : decode cX9_tryCase 33 = .ok (.bipush (-6), 2) := by decide +kernel
theorem dX9_tryCase_35 : decode cX9_tryCase 35 = .ok (.if_icmp .ne 7, 3) := by decide +kernel
theorem dX9_tryCase_38 : decode cX9_tryCase 38 = .ok (.iconst 3, 1) := by decide +kernel
theorem dX9_tryCase_39 : decode cX9_tryCase 39 = .ok (.goto 4, 3) := by decide +kernel
theorem dX9_tryCase_42 : decode cX9_tryCase 42 = .ok (.iconst 2, 1) := by decide +kernel
theorem dX9_tryCase_43 : decode cX9_tryCase 43 = .ok (.ireturn, 1) := by decide +kernel
theorem dX9_tryCase_44 : decode cX9_tryCase 44 = .ok (.aload_n 0, 1) := by decide +kernel
theorem dX9_tryCase_45 : decode cX9_tryCase 45 = .ok (.getfield 60, 3) := by decide +kernel
theorem dX9_tryCase_48 : decode cX9_tryCase 48 = .ok (.iconst 1, 1) := by decide +kernel
theorem dX9_tryCase_49 : decode cX9_tryCase 49 = .ok (.dup2, 1) := by decide +kernel
theorem dX9_tryCase_50 : decode cX9_tryCase 50 = .ok (.iaload, 1) := by decide +kernel
theorem dX9_tryCase_51 : decode cX9_tryCase 51 = .ok (.iconst 1, 1) := by decide +kernel
theorem dX9_tryCase_52 : decode cX9_tryCase 52 = .ok (.iadd, 1) := by decide +kernel
theorem dX9_tryCase_53 : decode cX9_tryCase 53 = .ok (.iastore, 1) := by decide +kernel
theorem dX9_tryCase_54 : decode cX9_tryCase 54 = .ok (.aload_n 0, 1) := by decide +kernel
theorem dX9_tryCase_55 : decode cX9_tryCase 55 = .ok (.getfield 21, 3) := by decide +kernel
theorem dX9_tryCase_58 : decode cX9_tryCase 58 = .ok (.getfield 140, 3) := by decide +kernel
theorem dX9_tryCase_61 : decode cX9_tryCase 61 = .ok (.iconst 0, 1) := by decide +kernel
theorem dX9_tryCase_62 : decode cX9_tryCase 62 = .ok (.aload_n 0, 1) := by decide +kernel
theorem dX9_tryCase_63 : decode cX9_tryCase 63 = .ok (.getfield 21, 3) := by decide +kernel
theorem dX9_tryCase_66 : decode cX9_tryCase 66 = .ok (.getfield 140, 3) := by decide +kernel
theorem dX9_tryCase_69 : decode cX9_tryCase 69 = .ok (.getfield 228, 3) := by decide +kernel
theorem dX9_tryCase_72 : decode cX9_tryCase 72 = .ok (.aload_n 0, 1) := by decide +kernel
theorem dX9_tryCase_73 : decode cX9_tryCase 73 = .ok (.getfield 73, 3) := by decide +kernel
theorem dX9_tryCase_76 : decode cX9_tryCase 76 = .ok (.invokevirtual 231, 3) := by decide +kernel
theorem dX9_tryCase_79 : decode cX9_tryCase 79 = .ok (.iconst 0, 1) := by decide +kernel
theorem dX9_tryCase_80 : decode cX9_tryCase 80 = .ok (.istore 6, 2) := by decide +kernel
theorem dX9_tryCase_82 : decode cX9_tryCase 82 = .ok (.iload 6, 2) := by decide +kernel
theorem dX9_tryCase_84 : decode cX9_tryCase 84 = .ok (.iconst 3, 1) := by decide +kernel
theorem dX9_tryCase_85 : decode cX9_tryCase 85 = .ok (.if_icmp .ge 53, 3) := by decide +kernel
theorem dX9_tryCase_88 : decode cX9_tryCase 88 = .ok (.iload 6, 2) := by decide +kernel
theorem dX9_tryCase_90 : decode cX9_tryCase 90 = .ok (.aload_n 1, 1) := by decide +kernel
theorem dX9_tryCase_91 : decode cX9_tryCase 91 = .ok (.getfield 241, 3) := by decide +kernel
theorem dX9_tryCase_94 : decode cX9_tryCase 94 = .ok (.if_icmp .ge 44, 3) := by decide +kernel
theorem dX9_tryCase_97 : decode cX9_tryCase 97 = .ok (.aload_n 0, 1) := by decide +kernel
theorem dX9_tryCase_98 : decode cX9_tryCase 98 = .ok (.getfield 12, 3) := by decide +kernel
theorem dX9_tryCase_101 : decode cX9_tryCase 101 = .ok (.aload_n 1, 1) := by decide +kernel
theorem dX9_tryCase_102 : decode cX9_tryCase 102 = .ok (.getfield 244, 3) := by decide +kernel
theorem dX9_tryCase_105 : decode cX9_tryCase 105 = .ok (.iload 6, 2) := by decide +kernel
theorem dX9_tryCase_107 : decode cX9_tryCase 107 = .ok (.iaload, 1) := by decide +kernel
theorem dX9_tryCase_108 : decode cX9_tryCase 108 = .ok (.aload_n 0, 1) := by decide +kernel
theorem dX9_tryCase_109 : decode cX9_tryCase 109 = .ok (.getfield 73, 3) := by decide +kernel
theorem dX9_tryCase_112 : decode cX9_tryCase 112 = .ok (.invokevirtual 164, 3) := by decide +kernel
theorem dX9_tryCase_115 : decode cX9_tryCase 115 = .ok (.iconst 1, 1) := by decide +kernel
theorem dX9_tryCase_116 : decode cX9_tryCase 116 = .ok (.if_icmp .ne 16, 3) := by decide +kernel
theorem dX9_tryCase_119 : decode cX9_tryCase 119 = .ok (.aload_n 0, 1) := by decide +kernel
theorem dX9_tryCase_120 : decode cX9_tryCase 120 = .ok (.getfield 60, 3) := by decide +kernel
theorem dX9_tryCase_123 : decode cX9_tryCase 123 = .ok (.iconst 5, 1) := by decide +kernel
theorem dX9_tryCase_124 : decode cX9_tryCase 124 = .ok (.iload 6, 2) := by decide +kernel
theorem dX9_tryCase_126 : decode cX9_tryCase 126 = .ok (.iadd, 1) := by decide +kernel
theorem dX9_tryCase_127 : decode cX9_tryCase 127 = .ok (.dup2, 1) := by decide +kernel
theorem dX9_tryCase_128 : decode cX9_tryCase 128 = .ok (.iaload, 1) := by decide +kernel
theorem dX9_tryCase_129 : decode cX9_tryCase 129 = .ok (.iconst 1, 1) := by decide +kernel
theorem dX9_tryCase_130 : decode cX9_tryCase 130 = .ok (.iadd, 1) := by decide +kernel
theorem dX9_tryCase_131 : decode cX9_tryCase 131 = .ok (.iastore, 1) := by decide +kernel
theorem dX9_tryCase_132 : decode cX9_tryCase 132 = .ok (.iinc 6 1, 3) := by decide +kernel
theorem dX9_tryCase_135 : decode cX9_tryCase 135 = .ok (.goto (-53), 3) := by decide +kernel
theorem dX9_tryCase_138 : decode cX9_tryCase 138 = .ok (.aload_n 0, 1) := by decide +kernel
theorem dX9_tryCase_139 : decode cX9_tryCase 139 = .ok (.getfield 12, 3) := by decide +kernel
theorem dX9_tryCase_142 : decode cX9_tryCase 142 = .ok (.invokevirtual 247, 3) := by decide +kernel
theorem dX9_tryCase_145 : decode cX9_tryCase 145 = .ok (.ifCond .ne 5, 3) := by decide +kernel
theorem dX9_tryCase_148 : decode cX9_tryCase 148 = .ok (.iconst 3, 1) := by decide +kernel
theorem dX9_tryCase_149 : decode cX9_tryCase 149 = .ok (.ireturn, 1) := by decide +kernel
theorem dX9_tryCase_150 : decode cX9_tryCase 150 = .ok (.aload_n 0, 1) := by decide +kernel
theorem dX9_tryCase_151 : decode cX9_tryCase 151 = .ok (.getfield 12, 3) := by decide +kernel
theorem dX9_tryCase_154 : decode cX9_tryCase 154 = .ok (.aload_n 1, 1) := by decide +kernel
theorem dX9_tryCase_155 : decode cX9_tryCase 155 = .ok (.getfield 250, 3) := by decide +kernel
theorem dX9_tryCase_158 : decode cX9_tryCase 158 = .ok (.aload_n 0, 1) := by decide +kernel
theorem dX9_tryCase_159 : decode cX9_tryCase 159 = .ok (.getfield 73, 3) := by decide +kernel
theorem dX9_tryCase_162 : decode cX9_tryCase 162 = .ok (.invokevirtual 164, 3) := by decide +kernel
theorem dX9_tryCase_165 : decode cX9_tryCase 165 = .ok (.istore 6, 2) := by decide +kernel
theorem dX9_tryCase_167 : decode cX9_tryCase 167 = .ok (.iload 6, 2) := by decide +kernel
theorem dX9_tryCase_169 : decode cX9_tryCase 169 = .ok (.iconst 1, 1) := by decide +kernel
theorem dX9_tryCase_170 : decode cX9_tryCase 170 = .ok (.if_icmp .ne 5, 3) := by decide +kernel
theorem dX9_tryCase_173 : decode cX9_tryCase 173 = .ok (.iconst 0, 1) := by decide +kernel
theorem dX9_tryCase_174 : decode cX9_tryCase 174 = .ok (.ireturn, 1) := by decide +kernel
theorem dX9_tryCase_175 : decode cX9_tryCase 175 = .ok (.aload_n 0, 1) := by decide +kernel
theorem dX9_tryCase_176 : decode cX9_tryCase 176 = .ok (.getfield 67, 3) := by decide +kernel
theorem dX9_tryCase_179 : decode cX9_tryCase 179 = .ok (.aload_n 0, 1) := by decide +kernel
theorem dX9_tryCase_180 : decode cX9_tryCase 180 = .ok (.getfield 21, 3) := by decide +kernel
theorem dX9_tryCase_183 : decode cX9_tryCase 183 = .ok (.getfield 140, 3) := by decide +kernel
theorem dX9_tryCase_186 : decode cX9_tryCase 186 = .ok (.invokevirtual 225, 3) := by decide +kernel
theorem dX9_tryCase_189 : decode cX9_tryCase 189 = .ok (.aload_n 0, 1) := by decide +kernel
theorem dX9_tryCase_190 : decode cX9_tryCase 190 = .ok (.getfield 70, 3) := by decide +kernel
theorem dX9_tryCase_193 : decode cX9_tryCase 193 = .ok (.aload_n 0, 1) := by decide +kernel
theorem dX9_tryCase_194 : decode cX9_tryCase 194 = .ok (.getfield 21, 3) := by decide +kernel
theorem dX9_tryCase_197 : decode cX9_tryCase 197 = .ok (.getfield 140, 3) := by decide +kernel
theorem dX9_tryCase_200 : decode cX9_tryCase 200 = .ok (.invokevirtual 225, 3) := by decide +kernel
theorem dX9_tryCase_203 : decode cX9_tryCase 203 = .ok (.aload_n 0, 1) := by decide +kernel
theorem dX9_tryCase_204 : decode cX9_tryCase 204 = .ok (.getfield 60, 3) := by decide +kernel
theorem dX9_tryCase_207 : decode cX9_tryCase 207 = .ok (.iconst 4, 1) := by decide +kernel
theorem dX9_tryCase_208 : decode cX9_tryCase 208 = .ok (.iload 6, 2) := by decide +kernel
theorem dX9_tryCase_210 : decode cX9_tryCase 210 = .ok (.ineg, 1) := by decide +kernel
theorem dX9_tryCase_211 : decode cX9_tryCase 211 = .ok (.iastore, 1) := by decide +kernel
theorem dX9_tryCase_212 : decode cX9_tryCase 212 = .ok (.iconst 1, 1) := by decide +kernel
theorem dX9_tryCase_213 : decode cX9_tryCase 213 = .ok (.ireturn, 1) := by decide +kernel
theorem dX9_shrink_0 : decode cX9_shrink 0 = .ok (.aload_n 0, 1) := by decide +kernel
theorem dX9_shrink_1 : decode cX9_shrink 1 = .ok (.getfield 28, 3) := by decide +kernel
theorem dX9_shrink_4 : decode cX9_shrink 4 = .ok (.aload_n 0, 1) := by decide +kernel
theorem dX9_shrink_5 : decode cX9_shrink 5 = .ok (.getfield 70, 3) := by decide +kernel
theorem dX9_shrink_8 : decode cX9_shrink 8 = .ok (.invokevirtual 147, 3) := by decide +kernel
theorem dX9_shrink_11 : decode cX9_shrink 11 = .ok (.iconst 0, 1) := by decide +kernel
theorem dX9_shrink_12 : decode cX9_shrink 12 = .ok (.istore_n 2, 1) := by decide +kernel
theorem dX9_shrink_13 : decode cX9_shrink 13 = .ok (.iload_n 2, 1) := by decide +kernel
theorem dX9_shrink_14 : decode cX9_shrink 14 = .ok (.sipush 1500, 3) := by decide +kernel
theorem dX9_shrink_17 : decode cX9_shrink 17 = .ok (.if_icmp .gt 120, 3) := by decide +kernel
theorem dX9_shrink_20 : decode cX9_shrink 20 = .ok (.aload_n 0, 1) := by decide +kernel
theorem dX9_shrink_21 : decode cX9_shrink 21 = .ok (.getfield 28, 3) := by decide +kernel
theorem dX9_shrink_24 : decode cX9_shrink 24 = .ok (.invokevirtual 151, 3) := by decide +kernel
theorem dX9_shrink_27 : decode cX9_shrink 27 = .ok (.iconst 1, 1) := by decide +kernel
theorem dX9_shrink_28 : decode cX9_shrink 28 = .ok (.if_icmp .ne 109, 3) := by decide +kernel
theorem dX9_shrink_31 : decode cX9_shrink 31 = .ok (.aload_n 0, 1) := by decide +kernel
theorem dX9_shrink_32 : decode cX9_shrink 32 = .ok (.getfield 12, 3) := by decide +kernel
theorem dX9_shrink_35 : decode cX9_shrink 35 = .ok (.invokevirtual 247, 3) := by decide +kernel
theorem dX9_shrink_38 : decode cX9_shrink 38 = .ok (.ifCond .ne 4, 3) := by decide +kernel
theorem dX9_shrink_41 : decode cX9_shrink 41 = .ok (.return_, 1) := by decide +kernel
theorem dX9_shrink_42 : decode cX9_shrink 42 = .ok (.aload_n 0, 1) := by decide +kernel
theorem dX9_shrink_43 : decode cX9_shrink 43 = .ok (.getfield 28, 3) := by decide +kernel
theorem dX9_shrink_46 : decode cX9_shrink 46 = .ok (.getfield 155, 3) := by decide +kernel
theorem dX9_shrink_49 : decode cX9_shrink 49 = .ok (.iconst 0, 1) := by decide +kernel
theorem dX9_shrink_50 : decode cX9_shrink 50 = .ok (.aload_n 0, 1) := by decide +kernel
theorem dX9_shrink_51 : decode cX9_shrink 51 = .ok (.getfield 28, 3) := by decide +kernel
theorem dX9_shrink_54 : decode cX9_shrink 54 = .ok (.getfield 155, 3) := by decide +kernel
theorem dX9_shrink_57 : decode cX9_shrink 57 = .ok (.getfield 228, 3) := by decide +kernel
theorem dX9_shrink_60 : decode cX9_shrink 60 = .ok (.aload_n 0, 1) := by decide +kernel
theorem dX9_shrink_61 : decode cX9_shrink 61 = .ok (.getfield 73, 3) := by decide +kernel
theorem dX9_shrink_64 : decode cX9_shrink 64 = .ok (.invokevirtual 231, 3) := by decide +kernel
theorem dX9_shrink_67 : decode cX9_shrink 67 = .ok (.aload_n 0, 1) := by decide +kernel
theorem dX9_shrink_68 : decode cX9_shrink 68 = .ok (.getfield 12, 3) := by decide +kernel
theorem dX9_shrink_71 : decode cX9_shrink 71 = .ok (.aload_n 1, 1) := by decide +kernel
theorem dX9_shrink_72 : decode cX9_shrink 72 = .ok (.getfield 250, 3) := by decide +kernel
theorem dX9_shrink_75 : decode cX9_shrink 75 = .ok (.aload_n 0, 1) := by decide +kernel
theorem dX9_shrink_76 : decode cX9_shrink 76 = .ok (.getfield 73, 3) := by decide +kernel
theorem dX9_shrink_79 : decode cX9_shrink 79 = .ok (.invokevirtual 164, 3) := by decide +kernel
theorem dX9_shrink_82 : decode cX9_shrink 82 = .ok (.istore_n 3, 1) := by decide +kernel
theorem dX9_shrink_83 : decode cX9_shrink 83 = .ok (.iload_n 3, 1) := by decide +kernel
theorem dX9_shrink_84 : decode cX9_shrink 84 = .ok (.iconst 1, 1) := by decide +kernel
theorem dX9_shrink_85 : decode cX9_shrink 85 = .ok (.if_icmp .eq 46, 3) := by decide +kernel
theorem dX9_shrink_88 : decode cX9_shrink 88 = .ok (.aload_n 0, 1) := by decide +kernel
theorem dX9_shrink_89 : decode cX9_shrink 89 = .ok (.getfield 70, 3) := by decide +kernel
theorem dX9_shrink_92 : decode cX9_shrink 92 = .ok (.aload_n 0, 1) := by decide +kernel
theorem dX9_shrink_93 : decode cX9_shrink 93 = .ok (.getfield 28, 3) := by decide +kernel
theorem dX9_shrink_96 : decode cX9_shrink 96 = .ok (.getfield 155, 3) := by decide +kernel
theorem dX9_shrink_99 : decode cX9_shrink 99 = .ok (.invokevirtual 225, 3) := by decide +kernel
theorem dX9_shrink_102 : decode cX9_shrink 102 = .ok (.aload_n 0, 1) := by decide +kernel
theorem dX9_shrink_103 : decode cX9_shrink 103 = .ok (.getfield 28, 3) := by decide +kernel
theorem dX9_shrink_106 : decode cX9_shrink 106 = .ok (.aload_n 0, 1) := by decide +kernel
theorem dX9_shrink_107 : decode cX9_shrink 107 = .ok (.getfield 70, 3) := by decide +kernel
theorem dX9_shrink_110 : decode cX9_shrink 110 = .ok (.invokevirtual 147, 3) := by decide +kernel
theorem dX9_shrink_113 : decode cX9_shrink 113 = .ok (.aload_n 0, 1) := by decide +kernel
theorem dX9_shrink_114 : decode cX9_shrink 114 = .ok (.getfield 60, 3) := by decide +kernel
theorem dX9_shrink_117 : decode cX9_shrink 117 = .ok (.iconst 3, 1) := by decide +kernel
theorem dX9_shrink_118 : decode cX9_shrink 118 = .ok (.dup2, 1) := by decide +kernel
theorem dX9_shrink_119 : decode cX9_shrink 119 = .ok (.iaload, 1) := by decide +kernel
theorem dX9_shrink_120 : decode cX9_shrink 120 = .ok (.iconst 1, 1) := by decide +kernel
theorem dX9_shrink_121 : decode cX9_shrink 121 = .ok (.iadd, 1) := by decide +kernel
theorem dX9_shrink_122 : decode cX9_shrink 122 = .ok (.iastore, 1) := by decide +kernel
theorem dX9_shrink_123 : decode cX9_shrink 123 = .ok (.aload_n 0, 1) := by decide +kernel
theorem dX9_shrink_124 : decode cX9_shrink 124 = .ok (.getfield 60, 3) := by decide +kernel
theorem dX9_shrink_127 : decode cX9_shrink 127 = .ok (.iconst 4, 1) := by decide +kernel
theorem dX9_shrink_128 : decode cX9_shrink 128 = .ok (.iload_n 3, 1) := by decide +kernel
theorem dX9_shrink_129 : decode cX9_shrink 129 = .ok (.ineg, 1) := by decide +kernel
theorem dX9_shrink_130 : decode cX9_shrink 130 = .ok (.iastore, 1) := by decide +kernel
theorem dX9_shrink_131 : decode cX9_shrink 131 = .ok (.iinc 2 1, 3) := by decide +kernel
theorem dX9_shrink_134 : decode cX9_shrink 134 = .ok (.goto (-121), 3) := by decide +kernel
theorem dX9_shrink_137 : decode cX9_shrink 137 = .ok (.return_, 1) := by decide +kernel
theorem dJ9_floorMod_7cf53_0 : decode cJ9_floorMod_7cf53 0 = .ok (.iload_n 0, 1) := by decide +kernel
theorem dJ9_floorMod_7cf53_1 : decode cJ9_floorMod_7cf53 1 = .ok (.iload_n 1, 1) := by decide +kernel
theorem dJ9_floorMod_7cf53_2 : decode cJ9_floorMod_7cf53 2 = .ok (.irem, 1) := by decide +kernel
theorem dJ9_floorMod_7cf53_3 : decode cJ9_floorMod_7cf53 3 = .ok (.istore_n 2, 1) := by decide +kernel
theorem dJ9_floorMod_7cf53_4 : decode cJ9_floorMod_7cf53 4 = .ok (.iload_n 0, 1) := by decide +kernel
theorem dJ9_floorMod_7cf53_5 : decode cJ9_floorMod_7cf53 5 = .ok (.iload_n 1, 1) := by decide +kernel
theorem dJ9_floorMod_7cf53_6 : decode cJ9_floorMod_7cf53 6 = .ok (.ixor, 1) := by decide +kernel
theorem dJ9_floorMod_7cf53_7 : decode cJ9_floorMod_7cf53 7 = .ok (.ifCond .ge 11, 3) := by decide +kernel
theorem dJ9_floorMod_7cf53_10 : decode cJ9_floorMod_7cf53 10 = .ok (.iload_n 2, 1) := by decide +kernel
theorem dJ9_floorMod_7cf53_11 : decode cJ9_floorMod_7cf53 11 = .ok (.ifCond .eq 7, 3) := by decide +kernel
theorem dJ9_floorMod_7cf53_14 : decode cJ9_floorMod_7cf53 14 = .ok (.iload_n 2, 1) := by decide +kernel
theorem dJ9_floorMod_7cf53_15 : decode cJ9_floorMod_7cf53 15 = .ok (.iload_n 1, 1) := by decide +kernel
theorem dJ9_floorMod_7cf53_16 : decode cJ9_floorMod_7cf53 16 = .ok (.iadd, 1) := by decide +kernel
theorem dJ9_floorMod_7cf53_17 : decode cJ9_floorMod_7cf53 17 = .ok (.ireturn, 1) := by decide +kernel
theorem dJ9_floorMod_7cf53_18 : decode cJ9_floorMod_7cf53 18 = .ok (.iload_n 2, 1) := by decide +kernel
theorem dJ9_floorMod_7cf53_19 : decode cJ9_floorMod_7cf53 19 = .ok (.ireturn, 1) := by decide +kernel
theorem dJ9_max_7cf53_0 : decode cJ9_max_7cf53 0 = .ok (.iload_n 0, 1) := by decide +kernel
theorem dJ9_max_7cf53_1 : decode cJ9_max_7cf53 1 = .ok (.iload_n 1, 1) := by decide +kernel
theorem dJ9_max_7cf53_2 : decode cJ9_max_7cf53 2 = .ok (.if_icmp .lt 7, 3) := by decide +kernel
theorem dJ9_max_7cf53_5 : decode cJ9_max_7cf53 5 = .ok (.iload_n 0, 1) := by decide +kernel
theorem dJ9_max_7cf53_6 : decode cJ9_max_7cf53 6 = .ok (.goto 4, 3) := by decide +kernel
theorem dJ9_max_7cf53_9 : decode cJ9_max_7cf53 9 = .ok (.iload_n 1, 1) := by decide +kernel
theorem dJ9_max_7cf53_10 : decode cJ9_max_7cf53 10 = .ok (.ireturn, 1) := by decide +kernel
theorem dJ9_min_7cf53_0 : decode cJ9_min_7cf53 0 = .ok (.iload_n 0, 1) := by decide +kernel
theorem dJ9_min_7cf53_1 : decode cJ9_min_7cf53 1 = .ok (.iload_n 1, 1) := by decide +kernel
theorem dJ9_min_7cf53_2 : decode cJ9_min_7cf53 2 = .ok (.if_icmp .gt 7, 3) := by decide +kernel
theorem dJ9_min_7cf53_5 : decode cJ9_min_7cf53 5 = .ok (.iload_n 0, 1) := by decide +kernel
theorem dJ9_min_7cf53_6 : decode cJ9_min_7cf53 6 = .ok (.goto 4, 3) := by decide +kernel
theorem dJ9_min_7cf53_9 : decode cJ9_min_7cf53 9 = .ok (.iload_n 1, 1) := by decide +kernel
theorem dJ9_min_7cf53_10 : decode cJ9_min_7cf53 10 = .ok (.ireturn, 1) := by decide +kernel
