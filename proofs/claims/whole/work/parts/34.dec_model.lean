/-! Instructions, by javap -/
theorem d_Mod_init_0 : decode b_Mod_init 0 = .ok (.aload_n 0, 1) := by decide +kernel
theorem d_Mod_init_1 : decode b_Mod_init 1 = .ok (.invokespecial 1, 3) := by decide +kernel
theorem d_Mod_init_4 : decode b_Mod_init 4 = .ok (.aload_n 0, 1) := by decide +kernel
theorem d_Mod_init_5 : decode b_Mod_init 5 = .ok (.iconst 4, 1) := by decide +kernel
theorem d_Mod_init_6 : decode b_Mod_init 6 = .ok (.newarray .int, 2) := by decide +kernel
theorem d_Mod_init_8 : decode b_Mod_init 8 = .ok (.putfield 7, 3) := by decide +kernel
theorem d_Mod_init_11 : decode b_Mod_init 11 = .ok (.aload_n 0, 1) := by decide +kernel
theorem d_Mod_init_12 : decode b_Mod_init 12 = .ok (.bipush 64, 2) := by decide +kernel
theorem d_Mod_init_14 : decode b_Mod_init 14 = .ok (.newarray .int, 2) := by decide +kernel
theorem d_Mod_init_16 : decode b_Mod_init 16 = .ok (.putfield 13, 3) := by decide +kernel
theorem d_Mod_init_19 : decode b_Mod_init 19 = .ok (.aload_n 0, 1) := by decide +kernel
theorem d_Mod_init_20 : decode b_Mod_init 20 = .ok (.bipush 64, 2) := by decide +kernel
theorem d_Mod_init_22 : decode b_Mod_init 22 = .ok (.newarray .int, 2) := by decide +kernel
theorem d_Mod_init_24 : decode b_Mod_init 24 = .ok (.putfield 16, 3) := by decide +kernel
theorem d_Mod_init_27 : decode b_Mod_init 27 = .ok (.aload_n 0, 1) := by decide +kernel
theorem d_Mod_init_28 : decode b_Mod_init 28 = .ok (.iconst 4, 1) := by decide +kernel
theorem d_Mod_init_29 : decode b_Mod_init 29 = .ok (.newarray .int, 2) := by decide +kernel
theorem d_Mod_init_31 : decode b_Mod_init 31 = .ok (.putfield 19, 3) := by decide +kernel
theorem d_Mod_init_34 : decode b_Mod_init 34 = .ok (.aload_n 0, 1) := by decide +kernel
theorem d_Mod_init_35 : decode b_Mod_init 35 = .ok (.iconst 4, 1) := by decide +kernel
theorem d_Mod_init_36 : decode b_Mod_init 36 = .ok (.newarray .int, 2) := by decide +kernel
theorem d_Mod_init_38 : decode b_Mod_init 38 = .ok (.putfield 22, 3) := by decide +kernel
theorem d_Mod_init_41 : decode b_Mod_init 41 = .ok (.aload_n 0, 1) := by decide +kernel
theorem d_Mod_init_42 : decode b_Mod_init 42 = .ok (.iconst 4, 1) := by decide +kernel
theorem d_Mod_init_43 : decode b_Mod_init 43 = .ok (.newarray .int, 2) := by decide +kernel
theorem d_Mod_init_45 : decode b_Mod_init 45 = .ok (.putfield 25, 3) := by decide +kernel
theorem d_Mod_init_48 : decode b_Mod_init 48 = .ok (.aload_n 0, 1) := by decide +kernel
theorem d_Mod_init_49 : decode b_Mod_init 49 = .ok (.bipush 16, 2) := by decide +kernel
theorem d_Mod_init_51 : decode b_Mod_init 51 = .ok (.newarray .int, 2) := by decide +kernel
theorem d_Mod_init_53 : decode b_Mod_init 53 = .ok (.putfield 28, 3) := by decide +kernel
theorem d_Mod_init_56 : decode b_Mod_init 56 = .ok (.aload_n 0, 1) := by decide +kernel
theorem d_Mod_init_57 : decode b_Mod_init 57 = .ok (.bipush 16, 2) := by decide +kernel
theorem d_Mod_init_59 : decode b_Mod_init 59 = .ok (.newarray .int, 2) := by decide +kernel
theorem d_Mod_init_61 : decode b_Mod_init 61 = .ok (.putfield 31, 3) := by decide +kernel
theorem d_Mod_init_64 : decode b_Mod_init 64 = .ok (.aload_n 0, 1) := by decide +kernel
theorem d_Mod_init_65 : decode b_Mod_init 65 = .ok (.bipush 16, 2) := by decide +kernel
theorem d_Mod_init_67 : decode b_Mod_init 67 = .ok (.newarray .int, 2) := by decide +kernel
theorem d_Mod_init_69 : decode b_Mod_init 69 = .ok (.putfield 34, 3) := by decide +kernel
theorem d_Mod_init_72 : decode b_Mod_init 72 = .ok (.aload_n 0, 1) := by decide +kernel
theorem d_Mod_init_73 : decode b_Mod_init 73 = .ok (.bipush 16, 2) := by decide +kernel
theorem d_Mod_init_75 : decode b_Mod_init 75 = .ok (.newarray .int, 2) := by decide +kernel
theorem d_Mod_init_77 : decode b_Mod_init 77 = .ok (.putfield 37, 3) := by decide +kernel
theorem d_Mod_init_80 : decode b_Mod_init 80 = .ok (.aload_n 0, 1) := by decide +kernel
theorem d_Mod_init_81 : decode b_Mod_init 81 = .ok (.iconst 4, 1) := by decide +kernel
theorem d_Mod_init_82 : decode b_Mod_init 82 = .ok (.newarray .int, 2) := by decide +kernel
theorem d_Mod_init_84 : decode b_Mod_init 84 = .ok (.putfield 40, 3) := by decide +kernel
theorem d_Mod_init_87 : decode b_Mod_init 87 = .ok (.aload_n 0, 1) := by decide +kernel
theorem d_Mod_init_88 : decode b_Mod_init 88 = .ok (.iconst 4, 1) := by decide +kernel
theorem d_Mod_init_89 : decode b_Mod_init 89 = .ok (.newarray .int, 2) := by decide +kernel
theorem d_Mod_init_91 : decode b_Mod_init 91 = .ok (.putfield 43, 3) := by decide +kernel
theorem d_Mod_init_94 : decode b_Mod_init 94 = .ok (.aload_n 0, 1) := by decide +kernel
theorem d_Mod_init_95 : decode b_Mod_init 95 = .ok (.iconst 4, 1) := by decide +kernel
theorem d_Mod_init_96 : decode b_Mod_init 96 = .ok (.newarray .int, 2) := by decide +kernel
theorem d_Mod_init_98 : decode b_Mod_init 98 = .ok (.putfield 46, 3) := by decide +kernel
theorem d_Mod_init_101 : decode b_Mod_init 101 = .ok (.aload_n 0, 1) := by decide +kernel
theorem d_Mod_init_102 : decode b_Mod_init 102 = .ok (.bipush 16, 2) := by decide +kernel
theorem d_Mod_init_104 : decode b_Mod_init 104 = .ok (.newarray .boolean, 2) := by decide +kernel
theorem d_Mod_init_106 : decode b_Mod_init 106 = .ok (.putfield 49, 3) := by decide +kernel
theorem d_Mod_init_109 : decode b_Mod_init 109 = .ok (.aload_n 0, 1) := by decide +kernel
theorem d_Mod_init_110 : decode b_Mod_init 110 = .ok (.bipush 64, 2) := by decide +kernel
theorem d_Mod_init_112 : decode b_Mod_init 112 = .ok (.newarray .int, 2) := by decide +kernel
theorem d_Mod_init_114 : decode b_Mod_init 114 = .ok (.putfield 53, 3) := by decide +kernel
theorem d_Mod_init_117 : decode b_Mod_init 117 = .ok (.aload_n 0, 1) := by decide +kernel
theorem d_Mod_init_118 : decode b_Mod_init 118 = .ok (.bipush 64, 2) := by decide +kernel
theorem d_Mod_init_120 : decode b_Mod_init 120 = .ok (.newarray .int, 2) := by decide +kernel
theorem d_Mod_init_122 : decode b_Mod_init 122 = .ok (.putfield 56, 3) := by decide +kernel
theorem d_Mod_init_125 : decode b_Mod_init 125 = .ok (.aload_n 0, 1) := by decide +kernel
theorem d_Mod_init_126 : decode b_Mod_init 126 = .ok (.bipush 64, 2) := by decide +kernel
theorem d_Mod_init_128 : decode b_Mod_init 128 = .ok (.newarray .int, 2) := by decide +kernel
theorem d_Mod_init_130 : decode b_Mod_init 130 = .ok (.putfield 59, 3) := by decide +kernel
theorem d_Mod_init_133 : decode b_Mod_init 133 = .ok (.aload_n 0, 1) := by decide +kernel
theorem d_Mod_init_134 : decode b_Mod_init 134 = .ok (.bipush 64, 2) := by decide +kernel
theorem d_Mod_init_136 : decode b_Mod_init 136 = .ok (.newarray .int, 2) := by decide +kernel
theorem d_Mod_init_138 : decode b_Mod_init 138 = .ok (.putfield 62, 3) := by decide +kernel
theorem d_Mod_init_141 : decode b_Mod_init 141 = .ok (.aload_n 0, 1) := by decide +kernel
theorem d_Mod_init_142 : decode b_Mod_init 142 = .ok (.bipush 64, 2) := by decide +kernel
theorem d_Mod_init_144 : decode b_Mod_init 144 = .ok (.newarray .int, 2) := by decide +kernel
theorem d_Mod_init_146 : decode b_Mod_init 146 = .ok (.putfield 65, 3) := by decide +kernel
theorem d_Mod_init_149 : decode b_Mod_init 149 = .ok (.aload_n 0, 1) := by decide +kernel
theorem d_Mod_init_150 : decode b_Mod_init 150 = .ok (.bipush 64, 2) := by decide +kernel
theorem d_Mod_init_152 : decode b_Mod_init 152 = .ok (.newarray .int, 2) := by decide +kernel
theorem d_Mod_init_154 : decode b_Mod_init 154 = .ok (.putfield 68, 3) := by decide +kernel
theorem d_Mod_init_157 : decode b_Mod_init 157 = .ok (.aload_n 0, 1) := by decide +kernel
theorem d_Mod_init_158 : decode b_Mod_init 158 = .ok (.bipush 64, 2) := by decide +kernel
theorem d_Mod_init_160 : decode b_Mod_init 160 = .ok (.newarray .int, 2) := by decide +kernel
theorem d_Mod_init_162 : decode b_Mod_init 162 = .ok (.putfield 71, 3) := by decide +kernel
theorem d_Mod_init_165 : decode b_Mod_init 165 = .ok (.aload_n 0, 1) := by decide +kernel
theorem d_Mod_init_166 : decode b_Mod_init 166 = .ok (.iload_n 1, 1) := by decide +kernel
theorem d_Mod_init_167 : decode b_Mod_init 167 = .ok (.iconst 2, 1) := by decide +kernel
theorem d_Mod_init_168 : decode b_Mod_init 168 = .ok (.if_icmp .ge 7, 3) := by decide +kernel
theorem d_Mod_init_171 : decode b_Mod_init 171 = .ok (.iconst 2, 1) := by decide +kernel
theorem d_Mod_init_172 : decode b_Mod_init 172 = .ok (.goto 13, 3) := by decide +kernel
theorem d_Mod_init_175 : decode b_Mod_init 175 = .ok (.iload_n 1, 1) := by decide +kernel
theorem d_Mod_init_176 : decode b_Mod_init 176 = .ok (.iconst 4, 1) := by decide +kernel
theorem d_Mod_init_177 : decode b_Mod_init 177 = .ok (.if_icmp .le 7, 3) := by decide +kernel
theorem d_Mod_init_180 : decode b_Mod_init 180 = .ok (.iconst 4, 1) := by decide +kernel
theorem d_Mod_init_181 : decode b_Mod_init 181 = .ok (.goto 4, 3) := by decide +kernel
theorem d_Mod_init_184 : decode b_Mod_init 184 = .ok (.iload_n 1, 1) := by decide +kernel
theorem d_Mod_init_185 : decode b_Mod_init 185 = .ok (.putfield 74, 3) := by decide +kernel
theorem d_Mod_init_188 : decode b_Mod_init 188 = .ok (.aload_n 0, 1) := by decide +kernel
theorem d_Mod_init_189 : decode b_Mod_init 189 = .ok (.iload_n 2, 1) := by decide +kernel
theorem d_Mod_init_190 : decode b_Mod_init 190 = .ok (.iconst 1, 1) := by decide +kernel
theorem d_Mod_init_191 : decode b_Mod_init 191 = .ok (.if_icmp .ge 7, 3) := by decide +kernel
theorem d_Mod_init_194 : decode b_Mod_init 194 = .ok (.iconst 1, 1) := by decide +kernel
theorem d_Mod_init_195 : decode b_Mod_init 195 = .ok (.goto 13, 3) := by decide +kernel
theorem d_Mod_init_198 : decode b_Mod_init 198 = .ok (.iload_n 2, 1) := by decide +kernel
theorem d_Mod_init_199 : decode b_Mod_init 199 = .ok (.iconst 3, 1) := by decide +kernel
theorem d_Mod_init_200 : decode b_Mod_init 200 = .ok (.if_icmp .le 7, 3) := by decide +kernel
theorem d_Mod_init_203 : decode b_Mod_init 203 = .ok (.iconst 3, 1) := by decide +kernel
theorem d_Mod_init_204 : decode b_Mod_init 204 = .ok (.goto 4, 3) := by decide +kernel
theorem d_Mod_init_207 : decode b_Mod_init 207 = .ok (.iload_n 2, 1) := by decide +kernel
theorem d_Mod_init_208 : decode b_Mod_init 208 = .ok (.putfield 78, 3) := by decide +kernel
theorem d_Mod_init_211 : decode b_Mod_init 211 = .ok (.iconst 0, 1) := by decide +kernel
theorem d_Mod_init_212 : decode b_Mod_init 212 = .ok (.istore_n 3, 1) := by decide +kernel
theorem d_Mod_init_213 : decode b_Mod_init 213 = .ok (.iload_n 3, 1) := by decide +kernel
theorem d_Mod_init_214 : decode b_Mod_init 214 = .ok (.iconst 4, 1) := by decide +kernel
theorem d_Mod_init_215 : decode b_Mod_init 215 = .ok (.if_icmp .ge 16, 3) := by decide +kernel
theorem d_Mod_init_218 : decode b_Mod_init 218 = .ok (.aload_n 0, 1) := by decide +kernel
theorem d_Mod_init_219 : decode b_Mod_init 219 = .ok (.getfield 46, 3) := by decide +kernel
theorem d_Mod_init_222 : decode b_Mod_init 222 = .ok (.iload_n 3, 1) := by decide +kernel
theorem d_Mod_init_223 : decode b_Mod_init 223 = .ok (.iconst (-1), 1) := by decide +kernel
theorem d_Mod_init_224 : decode b_Mod_init 224 = .ok (.iastore, 1) := by decide +kernel
theorem d_Mod_init_225 : decode b_Mod_init 225 = .ok (.iinc 3 1, 3) := by decide +kernel
theorem d_Mod_init_228 : decode b_Mod_init 228 = .ok (.goto (-15), 3) := by decide +kernel
theorem d_Mod_init_231 : decode b_Mod_init 231 = .ok (.return_, 1) := by decide +kernel
theorem d_Mod_isCore_0 : decode b_Mod_isCore 0 = .ok (.iload_n 1, 1) := by decide +kernel
theorem d_Mod_isCore_1 : decode b_Mod_isCore 1 = .ok (.ifCond .lt 15, 3) := by decide +kernel
theorem d_Mod_isCore_4 : decode b_Mod_isCore 4 = .ok (.iload_n 1, 1) := by decide +kernel
theorem d_Mod_isCore_5 : decode b_Mod_isCore 5 = .ok (.aload_n 0, 1) := by decide +kernel
theorem d_Mod_isCore_6 : decode b_Mod_isCore 6 = .ok (.getfield 74, 3) := by decide +kernel
theorem d_Mod_isCore_9 : decode b_Mod_isCore 9 = .ok (.if_icmp .ge 7, 3) := by decide +kernel
theorem d_Mod_isCore_12 : decode b_Mod_isCore 12 = .ok (.iconst 1, 1) := by decide +kernel
theorem d_Mod_isCore_13 : decode b_Mod_isCore 13 = .ok (.goto 4, 3) := by decide +kernel
theorem d_Mod_isCore_16 : decode b_Mod_isCore 16 = .ok (.iconst 0, 1) := by decide +kernel
theorem d_Mod_isCore_17 : decode b_Mod_isCore 17 = .ok (.ireturn, 1) := by decide +kernel
theorem d_Mod_isBlock_0 : decode b_Mod_isBlock 0 = .ok (.iload_n 0, 1) := by decide +kernel
theorem d_Mod_isBlock_1 : decode b_Mod_isBlock 1 = .ok (.ifCond .lt 12, 3) := by decide +kernel
theorem d_Mod_isBlock_4 : decode b_Mod_isBlock 4 = .ok (.iload_n 0, 1) := by decide +kernel
theorem d_Mod_isBlock_5 : decode b_Mod_isBlock 5 = .ok (.iconst 3, 1) := by decide +kernel
theorem d_Mod_isBlock_6 : decode b_Mod_isBlock 6 = .ok (.if_icmp .gt 7, 3) := by decide +kernel
theorem d_Mod_isBlock_9 : decode b_Mod_isBlock 9 = .ok (.iconst 1, 1) := by decide +kernel
theorem d_Mod_isBlock_10 : decode b_Mod_isBlock 10 = .ok (.goto 4, 3) := by decide +kernel
theorem d_Mod_isBlock_13 : decode b_Mod_isBlock 13 = .ok (.iconst 0, 1) := by decide +kernel
theorem d_Mod_isBlock_14 : decode b_Mod_isBlock 14 = .ok (.ireturn, 1) := by decide +kernel
theorem d_Mod_access_0 : decode b_Mod_access 0 = .ok (.iload_n 0, 1) := by decide +kernel
theorem d_Mod_access_1 : decode b_Mod_access 1 = .ok (.ifCond .eq 13, 3) := by decide +kernel
theorem d_Mod_access_4 : decode b_Mod_access 4 = .ok (.iload_n 0, 1) := by decide +kernel
theorem d_Mod_access_5 : decode b_Mod_access 5 = .ok (.iconst 1, 1) := by decide +kernel
theorem d_Mod_access_6 : decode b_Mod_access 6 = .ok (.if_icmp .eq 8, 3) := by decide +kernel
theorem d_Mod_access_9 : decode b_Mod_access 9 = .ok (.iload_n 0, 1) := by decide +kernel
theorem d_Mod_access_10 : decode b_Mod_access 10 = .ok (.iconst 5, 1) := by decide +kernel
theorem d_Mod_access_11 : decode b_Mod_access 11 = .ok (.if_icmp .ne 7, 3) := by decide +kernel
theorem d_Mod_access_14 : decode b_Mod_access 14 = .ok (.iconst 1, 1) := by decide +kernel
theorem d_Mod_access_15 : decode b_Mod_access 15 = .ok (.goto 4, 3) := by decide +kernel
theorem d_Mod_access_18 : decode b_Mod_access 18 = .ok (.iconst 0, 1) := by decide +kernel
theorem d_Mod_access_19 : decode b_Mod_access 19 = .ok (.ireturn, 1) := by decide +kernel
theorem d_Mod_code_0 : decode b_Mod_code 0 = .ok (.aload_n 0, 1) := by decide +kernel
theorem d_Mod_code_1 : decode b_Mod_code 1 = .ok (.iload_n 1, 1) := by decide +kernel
theorem d_Mod_code_2 : decode b_Mod_code 2 = .ok (.invokevirtual 81, 3) := by decide +kernel
theorem d_Mod_code_5 : decode b_Mod_code 5 = .ok (.ifCond .eq 52, 3) := by decide +kernel
theorem d_Mod_code_8 : decode b_Mod_code 8 = .ok (.iload_n 2, 1) := by decide +kernel
theorem d_Mod_code_9 : decode b_Mod_code 9 = .ok (.ifCond .lt 48, 3) := by decide +kernel
theorem d_Mod_code_12 : decode b_Mod_code 12 = .ok (.iload_n 2, 1) := by decide +kernel
theorem d_Mod_code_13 : decode b_Mod_code 13 = .ok (.iconst 5, 1) := by decide +kernel
theorem d_Mod_code_14 : decode b_Mod_code 14 = .ok (.if_icmp .gt 43, 3) := by decide +kernel
theorem d_Mod_code_17 : decode b_Mod_code 17 = .ok (.iload_n 2, 1) := by decide +kernel
theorem d_Mod_code_18 : decode b_Mod_code 18 = .ok (.invokestatic 85, 3) := by decide +kernel
theorem d_Mod_code_21 : decode b_Mod_code 21 = .ok (.ifCond .eq 10, 3) := by decide +kernel
theorem d_Mod_code_24 : decode b_Mod_code 24 = .ok (.iload_n 3, 1) := by decide +kernel
theorem d_Mod_code_25 : decode b_Mod_code 25 = .ok (.invokestatic 88, 3) := by decide +kernel
theorem d_Mod_code_28 : decode b_Mod_code 28 = .ok (.ifCond .eq 29, 3) := by decide +kernel
theorem d_Mod_code_31 : decode b_Mod_code 31 = .ok (.iload_n 2, 1) := by decide +kernel
theorem d_Mod_code_32 : decode b_Mod_code 32 = .ok (.iconst 3, 1) := by decide +kernel
theorem d_Mod_code_33 : decode b_Mod_code 33 = .ok (.if_icmp .ne 13, 3) := by decide +kernel
theorem d_Mod_code_36 : decode b_Mod_code 36 = .ok (.iload_n 3, 1) := by decide +kernel
theorem d_Mod_code_37 : decode b_Mod_code 37 = .ok (.ifCond .lt 20, 3) := by decide +kernel
theorem d_Mod_code_40 : decode b_Mod_code 40 = .ok (.iload_n 3, 1) := by decide +kernel
theorem d_Mod_code_41 : decode b_Mod_code 41 = .ok (.bipush 15, 2) := by decide +kernel
theorem d_Mod_code_43 : decode b_Mod_code 43 = .ok (.if_icmp .gt 14, 3) := by decide +kernel
theorem d_Mod_code_46 : decode b_Mod_code 46 = .ok (.aload_n 0, 1) := by decide +kernel
theorem d_Mod_code_47 : decode b_Mod_code 47 = .ok (.getfield 19, 3) := by decide +kernel
theorem d_Mod_code_50 : decode b_Mod_code 50 = .ok (.iload_n 1, 1) := by decide +kernel
theorem d_Mod_code_51 : decode b_Mod_code 51 = .ok (.iaload, 1) := by decide +kernel
theorem d_Mod_code_52 : decode b_Mod_code 52 = .ok (.bipush 16, 2) := by decide +kernel
theorem d_Mod_code_54 : decode b_Mod_code 54 = .ok (.if_icmp .ne 5, 3) := by decide +kernel
theorem d_Mod_code_57 : decode b_Mod_code 57 = .ok (.iconst 0, 1) := by decide +kernel
theorem d_Mod_code_58 : decode b_Mod_code 58 = .ok (.ireturn, 1) := by decide +kernel
theorem d_Mod_code_59 : decode b_Mod_code 59 = .ok (.aload_n 0, 1) := by decide +kernel
theorem d_Mod_code_60 : decode b_Mod_code 60 = .ok (.getfield 13, 3) := by decide +kernel
theorem d_Mod_code_63 : decode b_Mod_code 63 = .ok (.bipush 16, 2) := by decide +kernel
theorem d_Mod_code_65 : decode b_Mod_code 65 = .ok (.iload_n 1, 1) := by decide +kernel
theorem d_Mod_code_66 : decode b_Mod_code 66 = .ok (.imul, 1) := by decide +kernel
theorem d_Mod_code_67 : decode b_Mod_code 67 = .ok (.aload_n 0, 1) := by decide +kernel
theorem d_Mod_code_68 : decode b_Mod_code 68 = .ok (.getfield 19, 3) := by decide +kernel
theorem d_Mod_code_71 : decode b_Mod_code 71 = .ok (.iload_n 1, 1) := by decide +kernel
theorem d_Mod_code_72 : decode b_Mod_code 72 = .ok (.iaload, 1) := by decide +kernel
theorem d_Mod_code_73 : decode b_Mod_code 73 = .ok (.iadd, 1) := by decide +kernel
theorem d_Mod_code_74 : decode b_Mod_code 74 = .ok (.iload_n 2, 1) := by decide +kernel
theorem d_Mod_code_75 : decode b_Mod_code 75 = .ok (.iastore, 1) := by decide +kernel
theorem d_Mod_code_76 : decode b_Mod_code 76 = .ok (.aload_n 0, 1) := by decide +kernel
theorem d_Mod_code_77 : decode b_Mod_code 77 = .ok (.getfield 16, 3) := by decide +kernel
theorem d_Mod_code_80 : decode b_Mod_code 80 = .ok (.bipush 16, 2) := by decide +kernel
theorem d_Mod_code_82 : decode b_Mod_code 82 = .ok (.iload_n 1, 1) := by decide +kernel
theorem d_Mod_code_83 : decode b_Mod_code 83 = .ok (.imul, 1) := by decide +kernel
theorem d_Mod_code_84 : decode b_Mod_code 84 = .ok (.aload_n 0, 1) := by decide +kernel
theorem d_Mod_code_85 : decode b_Mod_code 85 = .ok (.getfield 19, 3) := by decide +kernel
theorem d_Mod_code_88 : decode b_Mod_code 88 = .ok (.iload_n 1, 1) := by decide +kernel
theorem d_Mod_code_89 : decode b_Mod_code 89 = .ok (.iaload, 1) := by decide +kernel
theorem d_Mod_code_90 : decode b_Mod_code 90 = .ok (.iadd, 1) := by decide +kernel
theorem d_Mod_code_91 : decode b_Mod_code 91 = .ok (.iload_n 3, 1) := by decide +kernel
theorem d_Mod_code_92 : decode b_Mod_code 92 = .ok (.iastore, 1) := by decide +kernel
theorem d_Mod_code_93 : decode b_Mod_code 93 = .ok (.aload_n 0, 1) := by decide +kernel
theorem d_Mod_code_94 : decode b_Mod_code 94 = .ok (.getfield 19, 3) := by decide +kernel
theorem d_Mod_code_97 : decode b_Mod_code 97 = .ok (.iload_n 1, 1) := by decide +kernel
theorem d_Mod_code_98 : decode b_Mod_code 98 = .ok (.dup2, 1) := by decide +kernel
theorem d_Mod_code_99 : decode b_Mod_code 99 = .ok (.iaload, 1) := by decide +kernel
theorem d_Mod_code_100 : decode b_Mod_code 100 = .ok (.iconst 1, 1) := by decide +kernel
theorem d_Mod_code_101 : decode b_Mod_code 101 = .ok (.iadd, 1) := by decide +kernel
theorem d_Mod_code_102 : decode b_Mod_code 102 = .ok (.iastore, 1) := by decide +kernel
theorem d_Mod_code_103 : decode b_Mod_code 103 = .ok (.iconst 1, 1) := by decide +kernel
theorem d_Mod_code_104 : decode b_Mod_code 104 = .ok (.ireturn, 1) := by decide +kernel
theorem d_Mod_go_0 : decode b_Mod_go 0 = .ok (.aload_n 0, 1) := by decide +kernel
theorem d_Mod_go_1 : decode b_Mod_go 1 = .ok (.iload_n 1, 1) := by decide +kernel
theorem d_Mod_go_2 : decode b_Mod_go 2 = .ok (.invokevirtual 81, 3) := by decide +kernel
theorem d_Mod_go_5 : decode b_Mod_go 5 = .ok (.ifCond .eq 22, 3) := by decide +kernel
theorem d_Mod_go_8 : decode b_Mod_go 8 = .ok (.aload_n 0, 1) := by decide +kernel
theorem d_Mod_go_9 : decode b_Mod_go 9 = .ok (.getfield 25, 3) := by decide +kernel
theorem d_Mod_go_12 : decode b_Mod_go 12 = .ok (.iload_n 1, 1) := by decide +kernel
theorem d_Mod_go_13 : decode b_Mod_go 13 = .ok (.iaload, 1) := by decide +kernel
theorem d_Mod_go_14 : decode b_Mod_go 14 = .ok (.ifCond .ne 13, 3) := by decide +kernel
theorem d_Mod_go_17 : decode b_Mod_go 17 = .ok (.iload_n 2, 1) := by decide +kernel
theorem d_Mod_go_18 : decode b_Mod_go 18 = .ok (.ifCond .lt 9, 3) := by decide +kernel
theorem d_Mod_go_21 : decode b_Mod_go 21 = .ok (.iload_n 2, 1) := by decide +kernel
theorem d_Mod_go_22 : decode b_Mod_go 22 = .ok (.bipush 16, 2) := by decide +kernel
theorem d_Mod_go_24 : decode b_Mod_go 24 = .ok (.if_icmp .le 5, 3) := by decide +kernel
theorem d_Mod_go_27 : decode b_Mod_go 27 = .ok (.iconst 0, 1) := by decide +kernel
theorem d_Mod_go_28 : decode b_Mod_go 28 = .ok (.ireturn, 1) := by decide +kernel
theorem d_Mod_go_29 : decode b_Mod_go 29 = .ok (.aload_n 0, 1) := by decide +kernel
theorem d_Mod_go_30 : decode b_Mod_go 30 = .ok (.getfield 22, 3) := by decide +kernel
theorem d_Mod_go_33 : decode b_Mod_go 33 = .ok (.iload_n 1, 1) := by decide +kernel
theorem d_Mod_go_34 : decode b_Mod_go 34 = .ok (.iload_n 2, 1) := by decide +kernel
theorem d_Mod_go_35 : decode b_Mod_go 35 = .ok (.iastore, 1) := by decide +kernel
theorem d_Mod_go_36 : decode b_Mod_go 36 = .ok (.iconst 1, 1) := by decide +kernel
theorem d_Mod_go_37 : decode b_Mod_go 37 = .ok (.ireturn, 1) := by decide +kernel
theorem d_Mod_send_0 : decode b_Mod_send 0 = .ok (.aload_n 0, 1) := by decide +kernel
theorem d_Mod_send_1 : decode b_Mod_send 1 = .ok (.getfield 53, 3) := by decide +kernel
theorem d_Mod_send_4 : decode b_Mod_send 4 = .ok (.aload_n 0, 1) := by decide +kernel
theorem d_Mod_send_5 : decode b_Mod_send 5 = .ok (.getfield 91, 3) := by decide +kernel
theorem d_Mod_send_8 : decode b_Mod_send 8 = .ok (.iload_n 1, 1) := by decide +kernel
theorem d_Mod_send_9 : decode b_Mod_send 9 = .ok (.iastore, 1) := by decide +kernel
theorem d_Mod_send_10 : decode b_Mod_send 10 = .ok (.aload_n 0, 1) := by decide +kernel
theorem d_Mod_send_11 : decode b_Mod_send 11 = .ok (.getfield 56, 3) := by decide +kernel
theorem d_Mod_send_14 : decode b_Mod_send 14 = .ok (.aload_n 0, 1) := by decide +kernel
theorem d_Mod_send_15 : decode b_Mod_send 15 = .ok (.getfield 91, 3) := by decide +kernel
theorem d_Mod_send_18 : decode b_Mod_send 18 = .ok (.iload_n 2, 1) := by decide +kernel
theorem d_Mod_send_19 : decode b_Mod_send 19 = .ok (.iastore, 1) := by decide +kernel
theorem d_Mod_send_20 : decode b_Mod_send 20 = .ok (.aload_n 0, 1) := by decide +kernel
theorem d_Mod_send_21 : decode b_Mod_send 21 = .ok (.getfield 59, 3) := by decide +kernel
theorem d_Mod_send_24 : decode b_Mod_send 24 = .ok (.aload_n 0, 1) := by decide +kernel
theorem d_Mod_send_25 : decode b_Mod_send 25 = .ok (.getfield 91, 3) := by decide +kernel
theorem d_Mod_send_28 : decode b_Mod_send 28 = .ok (.iload_n 3, 1) := by decide +kernel
theorem d_Mod_send_29 : decode b_Mod_send 29 = .ok (.iastore, 1) := by decide +kernel
theorem d_Mod_send_30 : decode b_Mod_send 30 = .ok (.aload_n 0, 1) := by decide +kernel
theorem d_Mod_send_31 : decode b_Mod_send 31 = .ok (.getfield 62, 3) := by decide +kernel
theorem d_Mod_send_34 : decode b_Mod_send 34 = .ok (.aload_n 0, 1) := by decide +kernel
theorem d_Mod_send_35 : decode b_Mod_send 35 = .ok (.getfield 91, 3) := by decide +kernel
theorem d_Mod_send_38 : decode b_Mod_send 38 = .ok (.iload 4, 2) := by decide +kernel
theorem d_Mod_send_40 : decode b_Mod_send 40 = .ok (.iastore, 1) := by decide +kernel
theorem d_Mod_send_41 : decode b_Mod_send 41 = .ok (.aload_n 0, 1) := by decide +kernel
theorem d_Mod_send_42 : decode b_Mod_send 42 = .ok (.getfield 65, 3) := by decide +kernel
theorem d_Mod_send_45 : decode b_Mod_send 45 = .ok (.aload_n 0, 1) := by decide +kernel
theorem d_Mod_send_46 : decode b_Mod_send 46 = .ok (.getfield 91, 3) := by decide +kernel
theorem d_Mod_send_49 : decode b_Mod_send 49 = .ok (.iload 5, 2) := by decide +kernel
theorem d_Mod_send_51 : decode b_Mod_send 51 = .ok (.iastore, 1) := by decide +kernel
theorem d_Mod_send_52 : decode b_Mod_send 52 = .ok (.aload_n 0, 1) := by decide +kernel
theorem d_Mod_send_53 : decode b_Mod_send 53 = .ok (.getfield 68, 3) := by decide +kernel
theorem d_Mod_send_56 : decode b_Mod_send 56 = .ok (.aload_n 0, 1) := by decide +kernel
theorem d_Mod_send_57 : decode b_Mod_send 57 = .ok (.getfield 91, 3) := by decide +kernel
theorem d_Mod_send_60 : decode b_Mod_send 60 = .ok (.iload 6, 2) := by decide +kernel
theorem d_Mod_send_62 : decode b_Mod_send 62 = .ok (.iastore, 1) := by decide +kernel
theorem d_Mod_send_63 : decode b_Mod_send 63 = .ok (.aload_n 0, 1) := by decide +kernel
theorem d_Mod_send_64 : decode b_Mod_send 64 = .ok (.getfield 71, 3) := by decide +kernel
theorem d_Mod_send_67 : decode b_Mod_send 67 = .ok (.aload_n 0, 1) := by decide +kernel
theorem d_Mod_send_68 : decode b_Mod_send 68 = .ok (.getfield 91, 3) := by decide +kernel
theorem d_Mod_send_71 : decode b_Mod_send 71 = .ok (.iload 7, 2) := by decide +kernel
theorem d_Mod_send_73 : decode b_Mod_send 73 = .ok (.iastore, 1) := by decide +kernel
theorem d_Mod_send_74 : decode b_Mod_send 74 = .ok (.aload_n 0, 1) := by decide +kernel
theorem d_Mod_send_75 : decode b_Mod_send 75 = .ok (.dup, 1) := by decide +kernel
theorem d_Mod_send_76 : decode b_Mod_send 76 = .ok (.getfield 91, 3) := by decide +kernel
theorem d_Mod_send_79 : decode b_Mod_send 79 = .ok (.iconst 1, 1) := by decide +kernel
theorem d_Mod_send_80 : decode b_Mod_send 80 = .ok (.iadd, 1) := by decide +kernel
theorem d_Mod_send_81 : decode b_Mod_send 81 = .ok (.putfield 91, 3) := by decide +kernel
theorem d_Mod_send_84 : decode b_Mod_send 84 = .ok (.aload_n 0, 1) := by decide +kernel
theorem d_Mod_send_85 : decode b_Mod_send 85 = .ok (.dup, 1) := by decide +kernel
theorem d_Mod_send_86 : decode b_Mod_send 86 = .ok (.getfield 94, 3) := by decide +kernel
theorem d_Mod_send_89 : decode b_Mod_send 89 = .ok (.iconst 1, 1) := by decide +kernel
theorem d_Mod_send_90 : decode b_Mod_send 90 = .ok (.iadd, 1) := by decide +kernel
theorem d_Mod_send_91 : decode b_Mod_send 91 = .ok (.putfield 94, 3) := by decide +kernel
theorem d_Mod_send_94 : decode b_Mod_send 94 = .ok (.return_, 1) := by decide +kernel
theorem d_Mod_data_0 : decode b_Mod_data 0 = .ok (.aload_n 0, 1) := by decide +kernel
theorem d_Mod_data_1 : decode b_Mod_data 1 = .ok (.bipush 8, 2) := by decide +kernel
theorem d_Mod_data_3 : decode b_Mod_data 3 = .ok (.iload_n 1, 1) := by decide +kernel
theorem d_Mod_data_4 : decode b_Mod_data 4 = .ok (.iload_n 2, 1) := by decide +kernel
theorem d_Mod_data_5 : decode b_Mod_data 5 = .ok (.iload_n 3, 1) := by decide +kernel
theorem d_Mod_data_6 : decode b_Mod_data 6 = .ok (.iload 4, 2) := by decide +kernel
theorem d_Mod_data_8 : decode b_Mod_data 8 = .ok (.iload 5, 2) := by decide +kernel
theorem d_Mod_data_10 : decode b_Mod_data 10 = .ok (.iconst (-1), 1) := by decide +kernel
theorem d_Mod_data_11 : decode b_Mod_data 11 = .ok (.invokevirtual 97, 3) := by decide +kernel
theorem d_Mod_data_14 : decode b_Mod_data 14 = .ok (.return_, 1) := by decide +kernel
theorem d_Mod_remove_0 : decode b_Mod_remove 0 = .ok (.aload_n 0, 1) := by decide +kernel
theorem d_Mod_remove_1 : decode b_Mod_remove 1 = .ok (.dup, 1) := by decide +kernel
theorem d_Mod_remove_2 : decode b_Mod_remove 2 = .ok (.getfield 91, 3) := by decide +kernel
theorem d_Mod_remove_5 : decode b_Mod_remove 5 = .ok (.iconst 1, 1) := by decide +kernel
theorem d_Mod_remove_6 : decode b_Mod_remove 6 = .ok (.isub, 1) := by decide +kernel
theorem d_Mod_remove_7 : decode b_Mod_remove 7 = .ok (.putfield 91, 3) := by decide +kernel
theorem d_Mod_remove_10 : decode b_Mod_remove 10 = .ok (.iload_n 1, 1) := by decide +kernel
theorem d_Mod_remove_11 : decode b_Mod_remove 11 = .ok (.istore_n 2, 1) := by decide +kernel
theorem d_Mod_remove_12 : decode b_Mod_remove 12 = .ok (.iload_n 2, 1) := by decide +kernel
theorem d_Mod_remove_13 : decode b_Mod_remove 13 = .ok (.aload_n 0, 1) := by decide +kernel
theorem d_Mod_remove_14 : decode b_Mod_remove 14 = .ok (.getfield 91, 3) := by decide +kernel
theorem d_Mod_remove_17 : decode b_Mod_remove 17 = .ok (.if_icmp .ge 107, 3) := by decide +kernel
theorem d_Mod_remove_20 : decode b_Mod_remove 20 = .ok (.aload_n 0, 1) := by decide +kernel
theorem d_Mod_remove_21 : decode b_Mod_remove 21 = .ok (.getfield 53, 3) := by decide +kernel
theorem d_Mod_remove_24 : decode b_Mod_remove 24 = .ok (.iload_n 2, 1) := by decide +kernel
theorem d_Mod_remove_25 : decode b_Mod_remove 25 = .ok (.aload_n 0, 1) := by decide +kernel
theorem d_Mod_remove_26 : decode b_Mod_remove 26 = .ok (.getfield 53, 3) := by decide +kernel
theorem d_Mod_remove_29 : decode b_Mod_remove 29 = .ok (.iload_n 2, 1) := by decide +kernel
theorem d_Mod_remove_30 : decode b_Mod_remove 30 = .ok (.iconst 1, 1) := by decide +kernel
theorem d_Mod_remove_31 : decode b_Mod_remove 31 = .ok (.iadd, 1) := by decide +kernel
theorem d_Mod_remove_32 : decode b_Mod_remove 32 = .ok (.iaload, 1) := by decide +kernel
theorem d_Mod_remove_33 : decode b_Mod_remove 33 = .ok (.iastore, 1) := by decide +kernel
theorem d_Mod_remove_34 : decode b_Mod_remove 34 = .ok (.aload_n 0, 1) := by decide +kernel
theorem d_Mod_remove_35 : decode b_Mod_remove 35 = .ok (.getfield 56, 3) := by decide +kernel
theorem d_Mod_remove_38 : decode b_Mod_remove 38 = .ok (.iload_n 2, 1) := by decide +kernel
theorem d_Mod_remove_39 : decode b_Mod_remove 39 = .ok (.aload_n 0, 1) := by decide +kernel
theorem d_Mod_remove_40 : decode b_Mod_remove 40 = .ok (.getfield 56, 3) := by decide +kernel
theorem d_Mod_remove_43 : decode b_Mod_remove 43 = .ok (.iload_n 2, 1) := by decide +kernel
theorem d_Mod_remove_44 : decode b_Mod_remove 44 = .ok (.iconst 1, 1) := by decide +kernel
theorem d_Mod_remove_45 : decode b_Mod_remove 45 = .ok (.iadd, 1) := by decide +kernel
theorem d_Mod_remove_46 : decode b_Mod_remove 46 = .ok (.iaload, 1) := by decide +kernel
theorem d_Mod_remove_47 : decode b_Mod_remove 47 = .ok (.iastore, 1) := by decide +kernel
theorem d_Mod_remove_48 : decode b_Mod_remove 48 = .ok (.aload_n 0, 1) := by decide +kernel
theorem d_Mod_remove_49 : decode b_Mod_remove 49 = .ok (.getfield 59, 3) := by decide +kernel
theorem d_Mod_remove_52 : decode b_Mod_remove 52 = .ok (.iload_n 2, 1) := by decide +kernel
theorem d_Mod_remove_53 : decode b_Mod_remove 53 = .ok (.aload_n 0, 1) := by decide +kernel
theorem d_Mod_remove_54 : decode b_Mod_remove 54 = .ok (.getfield 59, 3) := by decide +kernel
theorem d_Mod_remove_57 : decode b_Mod_remove 57 = .ok (.iload_n 2, 1) := by decide +kernel
theorem d_Mod_remove_58 : decode b_Mod_remove 58 = .ok (.iconst 1, 1) := by decide +kernel
theorem d_Mod_remove_59 : decode b_Mod_remove 59 = .ok (.iadd, 1) := by decide +kernel
theorem d_Mod_remove_60 : decode b_Mod_remove 60 = .ok (.iaload, 1) := by decide +kernel
theorem d_Mod_remove_61 : decode b_Mod_remove 61 = .ok (.iastore, 1) := by decide +kernel
theorem d_Mod_remove_62 : decode b_Mod_remove 62 = .ok (.aload_n 0, 1) := by decide +kernel
theorem d_Mod_remove_63 : decode b_Mod_remove 63 = .ok (.getfield 62, 3) := by decide +kernel
theorem d_Mod_remove_66 : decode b_Mod_remove 66 = .ok (.iload_n 2, 1) := by decide +kernel
theorem d_Mod_remove_67 : decode b_Mod_remove 67 = .ok (.aload_n 0, 1) := by decide +kernel
theorem d_Mod_remove_68 : decode b_Mod_remove 68 = .ok (.getfield 62, 3) := by decide +kernel
theorem d_Mod_remove_71 : decode b_Mod_remove 71 = .ok (.iload_n 2, 1) := by decide +kernel
theorem d_Mod_remove_72 : decode b_Mod_remove 72 = .ok (.iconst 1, 1) := by decide +kernel
theorem d_Mod_remove_73 : decode b_Mod_remove 73 = .ok (.iadd, 1) := by decide +kernel
theorem d_Mod_remove_74 : decode b_Mod_remove 74 = .ok (.iaload, 1) := by decide +kernel
theorem d_Mod_remove_75 : decode b_Mod_remove 75 = .ok (.iastore, 1) := by decide +kernel
theorem d_Mod_remove_76 : decode b_Mod_remove 76 = .ok (.aload_n 0, 1) := by decide +kernel
theorem d_Mod_remove_77 : decode b_Mod_remove 77 = .ok (.getfield 65, 3) := by decide +kernel
theorem d_Mod_remove_80 : decode b_Mod_remove 80 = .ok (.iload_n 2, 1) := by decide +kernel
theorem d_Mod_remove_81 : decode b_Mod_remove 81 = .ok (.aload_n 0, 1) := by decide +kernel
theorem d_Mod_remove_82 : decode b_Mod_remove 82 = .ok (.getfield 65, 3) := by decide +kernel
theorem d_Mod_remove_85 : decode b_Mod_remove 85 = .ok (.iload_n 2, 1) := by decide +kernel
theorem d_Mod_remove_86 : decode b_Mod_remove 86 = .ok (.iconst 1, 1) := by decide +kernel
theorem d_Mod_remove_87 : decode b_Mod_remove 87 = .ok (.iadd, 1) := by decide +kernel
theorem d_Mod_remove_88 : decode b_Mod_remove 88 = .ok (.iaload, 1) := by decide +kernel
theorem d_Mod_remove_89 : decode b_Mod_remove 89 = .ok (.iastore, 1) := by decide +kernel
theorem d_Mod_remove_90 : decode b_Mod_remove 90 = .ok (.aload_n 0, 1) := by decide +kernel
theorem d_Mod_remove_91 : decode b_Mod_remove 91 = .ok (.getfield 68, 3) := by decide +kernel
theorem d_Mod_remove_94 : decode b_Mod_remove 94 = .ok (.iload_n 2, 1) := by decide +kernel
theorem d_Mod_remove_95 : decode b_Mod_remove 95 = .ok (.aload_n 0, 1) := by decide +kernel
theorem d_Mod_remove_96 : decode b_Mod_remove 96 = .ok (.getfield 68, 3) := by decide +kernel
theorem d_Mod_remove_99 : decode b_Mod_remove 99 = .ok (.iload_n 2, 1) := by decide +kernel
theorem d_Mod_remove_100 : decode b_Mod_remove 100 = .ok (.iconst 1, 1) := by decide +kernel
theorem d_Mod_remove_101 : decode b_Mod_remove 101 = .ok (.iadd, 1) := by decide +kernel
theorem d_Mod_remove_102 : decode b_Mod_remove 102 = .ok (.iaload, 1) := by decide +kernel
theorem d_Mod_remove_103 : decode b_Mod_remove 103 = .ok (.iastore, 1) := by decide +kernel
theorem d_Mod_remove_104 : decode b_Mod_remove 104 = .ok (.aload_n 0, 1) := by decide +kernel
theorem d_Mod_remove_105 : decode b_Mod_remove 105 = .ok (.getfield 71, 3) := by decide +kernel
theorem d_Mod_remove_108 : decode b_Mod_remove 108 = .ok (.iload_n 2, 1) := by decide +kernel
theorem d_Mod_remove_109 : decode b_Mod_remove 109 = .ok (.aload_n 0, 1) := by decide +kernel
theorem d_Mod_remove_110 : decode b_Mod_remove 110 = .ok (.getfield 71, 3) := by decide +kernel
theorem d_Mod_remove_113 : decode b_Mod_remove 113 = .ok (.iload_n 2, 1) := by decide +kernel
theorem d_Mod_remove_114 : decode b_Mod_remove 114 = .ok (.iconst 1, 1) := by decide +kernel
theorem d_Mod_remove_115 : decode b_Mod_remove 115 = .ok (.iadd, 1) := by decide +kernel
theorem d_Mod_remove_116 : decode b_Mod_remove 116 = .ok (.iaload, 1) := by decide +kernel
theorem d_Mod_remove_117 : decode b_Mod_remove 117 = .ok (.iastore, 1) := by decide +kernel
theorem d_Mod_remove_118 : decode b_Mod_remove 118 = .ok (.iinc 2 1, 3) := by decide +kernel
theorem d_Mod_remove_121 : decode b_Mod_remove 121 = .ok (.goto (-109), 3) := by decide +kernel
theorem d_Mod_remove_124 : decode b_Mod_remove 124 = .ok (.return_, 1) := by decide +kernel
theorem d_Mod_perform_0 : decode b_Mod_perform 0 = .ok (.bipush 16, 2) := by decide +kernel
theorem d_Mod_perform_2 : decode b_Mod_perform 2 = .ok (.iload_n 1, 1) := by decide +kernel
theorem d_Mod_perform_3 : decode b_Mod_perform 3 = .ok (.imul, 1) := by decide +kernel
theorem d_Mod_perform_4 : decode b_Mod_perform 4 = .ok (.aload_n 0, 1) := by decide +kernel
theorem d_Mod_perform_5 : decode b_Mod_perform 5 = .ok (.getfield 22, 3) := by decide +kernel
theorem d_Mod_perform_8 : decode b_Mod_perform 8 = .ok (.iload_n 1, 1) := by decide +kernel
theorem d_Mod_perform_9 : decode b_Mod_perform 9 = .ok (.iaload, 1) := by decide +kernel
theorem d_Mod_perform_10 : decode b_Mod_perform 10 = .ok (.iadd, 1) := by decide +kernel
theorem d_Mod_perform_11 : decode b_Mod_perform 11 = .ok (.istore_n 2, 1) := by decide +kernel
theorem d_Mod_perform_12 : decode b_Mod_perform 12 = .ok (.iconst 4, 1) := by decide +kernel
theorem d_Mod_perform_13 : decode b_Mod_perform 13 = .ok (.iload_n 1, 1) := by decide +kernel
theorem d_Mod_perform_14 : decode b_Mod_perform 14 = .ok (.imul, 1) := by decide +kernel
theorem d_Mod_perform_15 : decode b_Mod_perform 15 = .ok (.aload_n 0, 1) := by decide +kernel
theorem d_Mod_perform_16 : decode b_Mod_perform 16 = .ok (.getfield 16, 3) := by decide +kernel
theorem d_Mod_perform_19 : decode b_Mod_perform 19 = .ok (.iload_n 2, 1) := by decide +kernel
theorem d_Mod_perform_20 : decode b_Mod_perform 20 = .ok (.iaload, 1) := by decide +kernel
theorem d_Mod_perform_21 : decode b_Mod_perform 21 = .ok (.iadd, 1) := by decide +kernel
theorem d_Mod_perform_22 : decode b_Mod_perform 22 = .ok (.istore_n 3, 1) := by decide +kernel
theorem d_Mod_perform_23 : decode b_Mod_perform 23 = .ok (.aload_n 0, 1) := by decide +kernel
theorem d_Mod_perform_24 : decode b_Mod_perform 24 = .ok (.getfield 31, 3) := by decide +kernel
theorem d_Mod_perform_27 : decode b_Mod_perform 27 = .ok (.iload_n 3, 1) := by decide +kernel
theorem d_Mod_perform_28 : decode b_Mod_perform 28 = .ok (.iaload, 1) := by decide +kernel
theorem d_Mod_perform_29 : decode b_Mod_perform 29 = .ok (.istore 4, 2) := by decide +kernel
theorem d_Mod_perform_31 : decode b_Mod_perform 31 = .ok (.aload_n 0, 1) := by decide +kernel
theorem d_Mod_perform_32 : decode b_Mod_perform 32 = .ok (.getfield 31, 3) := by decide +kernel
theorem d_Mod_perform_35 : decode b_Mod_perform 35 = .ok (.iload_n 3, 1) := by decide +kernel
theorem d_Mod_perform_36 : decode b_Mod_perform 36 = .ok (.aload_n 0, 1) := by decide +kernel
theorem d_Mod_perform_37 : decode b_Mod_perform 37 = .ok (.getfield 13, 3) := by decide +kernel
theorem d_Mod_perform_40 : decode b_Mod_perform 40 = .ok (.iload_n 2, 1) := by decide +kernel
theorem d_Mod_perform_41 : decode b_Mod_perform 41 = .ok (.iaload, 1) := by decide +kernel
theorem d_Mod_perform_42 : decode b_Mod_perform 42 = .ok (.ifCond .ne 8, 3) := by decide +kernel
theorem d_Mod_perform_45 : decode b_Mod_perform 45 = .ok (.iload 4, 2) := by decide +kernel
theorem d_Mod_perform_47 : decode b_Mod_perform 47 = .ok (.goto 9, 3) := by decide +kernel
theorem d_Mod_perform_50 : decode b_Mod_perform 50 = .ok (.aload_n 0, 1) := by decide +kernel
theorem d_Mod_perform_51 : decode b_Mod_perform 51 = .ok (.getfield 7, 3) := by decide +kernel
theorem d_Mod_perform_54 : decode b_Mod_perform 54 = .ok (.iload_n 1, 1) := by decide +kernel
theorem d_Mod_perform_55 : decode b_Mod_perform 55 = .ok (.iaload, 1) := by decide +kernel
theorem d_Mod_perform_56 : decode b_Mod_perform 56 = .ok (.iastore, 1) := by decide +kernel
theorem d_Mod_perform_57 : decode b_Mod_perform 57 = .ok (.aload_n 0, 1) := by decide +kernel
theorem d_Mod_perform_58 : decode b_Mod_perform 58 = .ok (.getfield 7, 3) := by decide +kernel
theorem d_Mod_perform_61 : decode b_Mod_perform 61 = .ok (.iload_n 1, 1) := by decide +kernel
theorem d_Mod_perform_62 : decode b_Mod_perform 62 = .ok (.aload_n 0, 1) := by decide +kernel
theorem d_Mod_perform_63 : decode b_Mod_perform 63 = .ok (.getfield 13, 3) := by decide +kernel
theorem d_Mod_perform_66 : decode b_Mod_perform 66 = .ok (.iload_n 2, 1) := by decide +kernel
theorem d_Mod_perform_67 : decode b_Mod_perform 67 = .ok (.iaload, 1) := by decide +kernel
theorem d_Mod_perform_68 : decode b_Mod_perform 68 = .ok (.iconst 1, 1) := by decide +kernel
theorem d_Mod_perform_69 : decode b_Mod_perform 69 = .ok (.if_icmp .ne 12, 3) := by decide +kernel
theorem d_Mod_perform_72 : decode b_Mod_perform 72 = .ok (.aload_n 0, 1) := by decide +kernel
theorem d_Mod_perform_73 : decode b_Mod_perform 73 = .ok (.getfield 7, 3) := by decide +kernel
theorem d_Mod_perform_76 : decode b_Mod_perform 76 = .ok (.iload_n 1, 1) := by decide +kernel
theorem d_Mod_perform_77 : decode b_Mod_perform 77 = .ok (.iaload, 1) := by decide +kernel
theorem d_Mod_perform_78 : decode b_Mod_perform 78 = .ok (.goto 5, 3) := by decide +kernel
theorem d_Mod_perform_81 : decode b_Mod_perform 81 = .ok (.iload 4, 2) := by decide +kernel
theorem d_Mod_perform_83 : decode b_Mod_perform 83 = .ok (.iastore, 1) := by decide +kernel
theorem d_Mod_perform_84 : decode b_Mod_perform 84 = .ok (.aload_n 0, 1) := by decide +kernel
theorem d_Mod_perform_85 : decode b_Mod_perform 85 = .ok (.dup, 1) := by decide +kernel
theorem d_Mod_perform_86 : decode b_Mod_perform 86 = .ok (.getfield 101, 3) := by decide +kernel
theorem d_Mod_perform_89 : decode b_Mod_perform 89 = .ok (.iconst 1, 1) := by decide +kernel
theorem d_Mod_perform_90 : decode b_Mod_perform 90 = .ok (.iadd, 1) := by decide +kernel
theorem d_Mod_perform_91 : decode b_Mod_perform 91 = .ok (.putfield 101, 3) := by decide +kernel
theorem d_Mod_perform_94 : decode b_Mod_perform 94 = .ok (.aload_n 0, 1) := by decide +kernel
theorem d_Mod_perform_95 : decode b_Mod_perform 95 = .ok (.getfield 37, 3) := by decide +kernel
theorem d_Mod_perform_98 : decode b_Mod_perform 98 = .ok (.iload_n 3, 1) := by decide +kernel
theorem d_Mod_perform_99 : decode b_Mod_perform 99 = .ok (.aload_n 0, 1) := by decide +kernel
theorem d_Mod_perform_100 : decode b_Mod_perform 100 = .ok (.getfield 101, 3) := by decide +kernel
theorem d_Mod_perform_103 : decode b_Mod_perform 103 = .ok (.iastore, 1) := by decide +kernel
theorem d_Mod_perform_104 : decode b_Mod_perform 104 = .ok (.aload_n 0, 1) := by decide +kernel
theorem d_Mod_perform_105 : decode b_Mod_perform 105 = .ok (.dup, 1) := by decide +kernel
theorem d_Mod_perform_106 : decode b_Mod_perform 106 = .ok (.getfield 104, 3) := by decide +kernel
theorem d_Mod_perform_109 : decode b_Mod_perform 109 = .ok (.iconst 1, 1) := by decide +kernel
theorem d_Mod_perform_110 : decode b_Mod_perform 110 = .ok (.iadd, 1) := by decide +kernel
theorem d_Mod_perform_111 : decode b_Mod_perform 111 = .ok (.putfield 104, 3) := by decide +kernel
theorem d_Mod_perform_114 : decode b_Mod_perform 114 = .ok (.aload_n 0, 1) := by decide +kernel
theorem d_Mod_perform_115 : decode b_Mod_perform 115 = .ok (.getfield 22, 3) := by decide +kernel
theorem d_Mod_perform_118 : decode b_Mod_perform 118 = .ok (.iload_n 1, 1) := by decide +kernel
theorem d_Mod_perform_119 : decode b_Mod_perform 119 = .ok (.dup2, 1) := by decide +kernel
theorem d_Mod_perform_120 : decode b_Mod_perform 120 = .ok (.iaload, 1) := by decide +kernel
theorem d_Mod_perform_121 : decode b_Mod_perform 121 = .ok (.iconst 1, 1) := by decide +kernel
theorem d_Mod_perform_122 : decode b_Mod_perform 122 = .ok (.iadd, 1) := by decide +kernel
theorem d_Mod_perform_123 : decode b_Mod_perform 123 = .ok (.iastore, 1) := by decide +kernel
theorem d_Mod_perform_124 : decode b_Mod_perform 124 = .ok (.return_, 1) := by decide +kernel
theorem d_Mod_plain_0 : decode b_Mod_plain 0 = .ok (.aload_n 0, 1) := by decide +kernel
theorem d_Mod_plain_1 : decode b_Mod_plain 1 = .ok (.getfield 7, 3) := by decide +kernel
theorem d_Mod_plain_4 : decode b_Mod_plain 4 = .ok (.iload_n 1, 1) := by decide +kernel
theorem d_Mod_plain_5 : decode b_Mod_plain 5 = .ok (.iaload, 1) := by decide +kernel
theorem d_Mod_plain_6 : decode b_Mod_plain 6 = .ok (.istore 4, 2) := by decide +kernel
theorem d_Mod_plain_8 : decode b_Mod_plain 8 = .ok (.aload_n 0, 1) := by decide +kernel
theorem d_Mod_plain_9 : decode b_Mod_plain 9 = .ok (.getfield 7, 3) := by decide +kernel
theorem d_Mod_plain_12 : decode b_Mod_plain 12 = .ok (.iload_n 1, 1) := by decide +kernel
theorem d_Mod_plain_13 : decode b_Mod_plain 13 = .ok (.iload_n 2, 1) := by decide +kernel
theorem d_Mod_plain_14 : decode b_Mod_plain 14 = .ok (.iconst 2, 1) := by decide +kernel
theorem d_Mod_plain_15 : decode b_Mod_plain 15 = .ok (.if_icmp .ne 10, 3) := by decide +kernel
theorem d_Mod_plain_18 : decode b_Mod_plain 18 = .ok (.iload 4, 2) := by decide +kernel
theorem d_Mod_plain_20 : decode b_Mod_plain 20 = .ok (.iload_n 3, 1) := by decide +kernel
theorem d_Mod_plain_21 : decode b_Mod_plain 21 = .ok (.iadd, 1) := by decide +kernel
theorem d_Mod_plain_22 : decode b_Mod_plain 22 = .ok (.goto 14, 3) := by decide +kernel
theorem d_Mod_plain_25 : decode b_Mod_plain 25 = .ok (.iload_n 2, 1) := by decide +kernel
theorem d_Mod_plain_26 : decode b_Mod_plain 26 = .ok (.iconst 4, 1) := by decide +kernel
theorem d_Mod_plain_27 : decode b_Mod_plain 27 = .ok (.if_icmp .ne 7, 3) := by decide +kernel
theorem d_Mod_plain_30 : decode b_Mod_plain 30 = .ok (.iload_n 3, 1) := by decide +kernel
theorem d_Mod_plain_31 : decode b_Mod_plain 31 = .ok (.goto 5, 3) := by decide +kernel
theorem d_Mod_plain_34 : decode b_Mod_plain 34 = .ok (.iload 4, 2) := by decide +kernel
theorem d_Mod_plain_36 : decode b_Mod_plain 36 = .ok (.iastore, 1) := by decide +kernel
theorem d_Mod_plain_37 : decode b_Mod_plain 37 = .ok (.aload_n 0, 1) := by decide +kernel
theorem d_Mod_plain_38 : decode b_Mod_plain 38 = .ok (.getfield 22, 3) := by decide +kernel
theorem d_Mod_plain_41 : decode b_Mod_plain 41 = .ok (.iload_n 1, 1) := by decide +kernel
theorem d_Mod_plain_42 : decode b_Mod_plain 42 = .ok (.iload_n 2, 1) := by decide +kernel
theorem d_Mod_plain_43 : decode b_Mod_plain 43 = .ok (.iconst 3, 1) := by decide +kernel
theorem d_Mod_plain_44 : decode b_Mod_plain 44 = .ok (.if_icmp .ne 12, 3) := by decide +kernel
theorem d_Mod_plain_47 : decode b_Mod_plain 47 = .ok (.iload 4, 2) := by decide +kernel
theorem d_Mod_plain_49 : decode b_Mod_plain 49 = .ok (.ifCond .eq 7, 3) := by decide +kernel
theorem d_Mod_plain_52 : decode b_Mod_plain 52 = .ok (.iload_n 3, 1) := by decide +kernel
theorem d_Mod_plain_53 : decode b_Mod_plain 53 = .ok (.goto 11, 3) := by decide +kernel
theorem d_Mod_plain_56 : decode b_Mod_plain 56 = .ok (.aload_n 0, 1) := by decide +kernel
theorem d_Mod_plain_57 : decode b_Mod_plain 57 = .ok (.getfield 22, 3) := by decide +kernel
theorem d_Mod_plain_60 : decode b_Mod_plain 60 = .ok (.iload_n 1, 1) := by decide +kernel
theorem d_Mod_plain_61 : decode b_Mod_plain 61 = .ok (.iaload, 1) := by decide +kernel
theorem d_Mod_plain_62 : decode b_Mod_plain 62 = .ok (.iconst 1, 1) := by decide +kernel
theorem d_Mod_plain_63 : decode b_Mod_plain 63 = .ok (.iadd, 1) := by decide +kernel
theorem d_Mod_plain_64 : decode b_Mod_plain 64 = .ok (.iastore, 1) := by decide +kernel
theorem d_Mod_plain_65 : decode b_Mod_plain 65 = .ok (.iconst 1, 1) := by decide +kernel
theorem d_Mod_plain_66 : decode b_Mod_plain 66 = .ok (.ireturn, 1) := by decide +kernel
theorem d_Mod_inUse_0 : decode b_Mod_inUse 0 = .ok (.iconst 0, 1) := by decide +kernel
theorem d_Mod_inUse_1 : decode b_Mod_inUse 1 = .ok (.istore_n 2, 1) := by decide +kernel
theorem d_Mod_inUse_2 : decode b_Mod_inUse 2 = .ok (.iconst 0, 1) := by decide +kernel
theorem d_Mod_inUse_3 : decode b_Mod_inUse 3 = .ok (.istore_n 3, 1) := by decide +kernel
theorem d_Mod_inUse_4 : decode b_Mod_inUse 4 = .ok (.iload_n 3, 1) := by decide +kernel
theorem d_Mod_inUse_5 : decode b_Mod_inUse 5 = .ok (.iconst 4, 1) := by decide +kernel
theorem d_Mod_inUse_6 : decode b_Mod_inUse 6 = .ok (.if_icmp .ge 30, 3) := by decide +kernel
theorem d_Mod_inUse_9 : decode b_Mod_inUse 9 = .ok (.aload_n 0, 1) := by decide +kernel
theorem d_Mod_inUse_10 : decode b_Mod_inUse 10 = .ok (.getfield 28, 3) := by decide +kernel
theorem d_Mod_inUse_13 : decode b_Mod_inUse 13 = .ok (.iconst 4, 1) := by decide +kernel
theorem d_Mod_inUse_14 : decode b_Mod_inUse 14 = .ok (.iload_n 1, 1) := by decide +kernel
theorem d_Mod_inUse_15 : decode b_Mod_inUse 15 = .ok (.imul, 1) := by decide +kernel
theorem d_Mod_inUse_16 : decode b_Mod_inUse 16 = .ok (.iload_n 3, 1) := by decide +kernel
theorem d_Mod_inUse_17 : decode b_Mod_inUse 17 = .ok (.iadd, 1) := by decide +kernel
theorem d_Mod_inUse_18 : decode b_Mod_inUse 18 = .ok (.iaload, 1) := by decide +kernel
theorem d_Mod_inUse_19 : decode b_Mod_inUse 19 = .ok (.ifCond .eq 9, 3) := by decide +kernel
theorem d_Mod_inUse_22 : decode b_Mod_inUse 22 = .ok (.iload_n 2, 1) := by decide +kernel
theorem d_Mod_inUse_23 : decode b_Mod_inUse 23 = .ok (.iconst 1, 1) := by decide +kernel
theorem d_Mod_inUse_24 : decode b_Mod_inUse 24 = .ok (.iadd, 1) := by decide +kernel
theorem d_Mod_inUse_25 : decode b_Mod_inUse 25 = .ok (.goto 4, 3) := by decide +kernel
theorem d_Mod_inUse_28 : decode b_Mod_inUse 28 = .ok (.iload_n 2, 1) := by decide +kernel
theorem d_Mod_inUse_29 : decode b_Mod_inUse 29 = .ok (.istore_n 2, 1) := by decide +kernel
theorem d_Mod_inUse_30 : decode b_Mod_inUse 30 = .ok (.iinc 3 1, 3) := by decide +kernel
theorem d_Mod_inUse_33 : decode b_Mod_inUse 33 = .ok (.goto (-29), 3) := by decide +kernel
theorem d_Mod_inUse_36 : decode b_Mod_inUse 36 = .ok (.iload_n 2, 1) := by decide +kernel
theorem d_Mod_inUse_37 : decode b_Mod_inUse 37 = .ok (.ireturn, 1) := by decide +kernel
theorem d_Mod_replace_0 : decode b_Mod_replace 0 = .ok (.iconst (-1), 1) := by decide +kernel
theorem d_Mod_replace_1 : decode b_Mod_replace 1 = .ok (.istore_n 2, 1) := by decide +kernel
theorem d_Mod_replace_2 : decode b_Mod_replace 2 = .ok (.iconst 0, 1) := by decide +kernel
theorem d_Mod_replace_3 : decode b_Mod_replace 3 = .ok (.istore_n 3, 1) := by decide +kernel
theorem d_Mod_replace_4 : decode b_Mod_replace 4 = .ok (.iload_n 3, 1) := by decide +kernel
theorem d_Mod_replace_5 : decode b_Mod_replace 5 = .ok (.iconst 4, 1) := by decide +kernel
theorem d_Mod_replace_6 : decode b_Mod_replace 6 = .ok (.if_icmp .ge 52, 3) := by decide +kernel
theorem d_Mod_replace_9 : decode b_Mod_replace 9 = .ok (.iconst 4, 1) := by decide +kernel
theorem d_Mod_replace_10 : decode b_Mod_replace 10 = .ok (.iload_n 1, 1) := by decide +kernel
theorem d_Mod_replace_11 : decode b_Mod_replace 11 = .ok (.imul, 1) := by decide +kernel
theorem d_Mod_replace_12 : decode b_Mod_replace 12 = .ok (.iload_n 3, 1) := by decide +kernel
theorem d_Mod_replace_13 : decode b_Mod_replace 13 = .ok (.iadd, 1) := by decide +kernel
theorem d_Mod_replace_14 : decode b_Mod_replace 14 = .ok (.istore 4, 2) := by decide +kernel
theorem d_Mod_replace_16 : decode b_Mod_replace 16 = .ok (.aload_n 0, 1) := by decide +kernel
theorem d_Mod_replace_17 : decode b_Mod_replace 17 = .ok (.getfield 28, 3) := by decide +kernel
theorem d_Mod_replace_20 : decode b_Mod_replace 20 = .ok (.iload 4, 2) := by decide +kernel
theorem d_Mod_replace_22 : decode b_Mod_replace 22 = .ok (.iaload, 1) := by decide +kernel
theorem d_Mod_replace_23 : decode b_Mod_replace 23 = .ok (.ifCond .eq 29, 3) := by decide +kernel
theorem d_Mod_replace_26 : decode b_Mod_replace 26 = .ok (.iload_n 2, 1) := by decide +kernel
theorem d_Mod_replace_27 : decode b_Mod_replace 27 = .ok (.ifCond .lt 23, 3) := by decide +kernel
theorem d_Mod_replace_30 : decode b_Mod_replace 30 = .ok (.aload_n 0, 1) := by decide +kernel
theorem d_Mod_replace_31 : decode b_Mod_replace 31 = .ok (.getfield 37, 3) := by decide +kernel
theorem d_Mod_replace_34 : decode b_Mod_replace 34 = .ok (.iload 4, 2) := by decide +kernel
theorem d_Mod_replace_36 : decode b_Mod_replace 36 = .ok (.iaload, 1) := by decide +kernel
theorem d_Mod_replace_37 : decode b_Mod_replace 37 = .ok (.aload_n 0, 1) := by decide +kernel
theorem d_Mod_replace_38 : decode b_Mod_replace 38 = .ok (.getfield 37, 3) := by decide +kernel
theorem d_Mod_replace_41 : decode b_Mod_replace 41 = .ok (.iconst 4, 1) := by decide +kernel
theorem d_Mod_replace_42 : decode b_Mod_replace 42 = .ok (.iload_n 1, 1) := by decide +kernel
theorem d_Mod_replace_43 : decode b_Mod_replace 43 = .ok (.imul, 1) := by decide +kernel
theorem d_Mod_replace_44 : decode b_Mod_replace 44 = .ok (.iload_n 2, 1) := by decide +kernel
theorem d_Mod_replace_45 : decode b_Mod_replace 45 = .ok (.iadd, 1) := by decide +kernel
theorem d_Mod_replace_46 : decode b_Mod_replace 46 = .ok (.iaload, 1) := by decide +kernel
theorem d_Mod_replace_47 : decode b_Mod_replace 47 = .ok (.if_icmp .ge 5, 3) := by decide +kernel
theorem d_Mod_replace_50 : decode b_Mod_replace 50 = .ok (.iload_n 3, 1) := by decide +kernel
theorem d_Mod_replace_51 : decode b_Mod_replace 51 = .ok (.istore_n 2, 1) := by decide +kernel
theorem d_Mod_replace_52 : decode b_Mod_replace 52 = .ok (.iinc 3 1, 3) := by decide +kernel
theorem d_Mod_replace_55 : decode b_Mod_replace 55 = .ok (.goto (-51), 3) := by decide +kernel
theorem d_Mod_replace_58 : decode b_Mod_replace 58 = .ok (.iconst 4, 1) := by decide +kernel
theorem d_Mod_replace_59 : decode b_Mod_replace 59 = .ok (.iload_n 1, 1) := by decide +kernel
theorem d_Mod_replace_60 : decode b_Mod_replace 60 = .ok (.imul, 1) := by decide +kernel
theorem d_Mod_replace_61 : decode b_Mod_replace 61 = .ok (.iload_n 2, 1) := by decide +kernel
theorem d_Mod_replace_62 : decode b_Mod_replace 62 = .ok (.iadd, 1) := by decide +kernel
theorem d_Mod_replace_63 : decode b_Mod_replace 63 = .ok (.istore_n 3, 1) := by decide +kernel
theorem d_Mod_replace_64 : decode b_Mod_replace 64 = .ok (.aload_n 0, 1) := by decide +kernel
theorem d_Mod_replace_65 : decode b_Mod_replace 65 = .ok (.getfield 28, 3) := by decide +kernel
theorem d_Mod_replace_68 : decode b_Mod_replace 68 = .ok (.iload_n 3, 1) := by decide +kernel
theorem d_Mod_replace_69 : decode b_Mod_replace 69 = .ok (.iaload, 1) := by decide +kernel
theorem d_Mod_replace_70 : decode b_Mod_replace 70 = .ok (.iconst 1, 1) := by decide +kernel
theorem d_Mod_replace_71 : decode b_Mod_replace 71 = .ok (.if_icmp .ne 7, 3) := by decide +kernel
theorem d_Mod_replace_74 : decode b_Mod_replace 74 = .ok (.iconst 1, 1) := by decide +kernel
theorem d_Mod_replace_75 : decode b_Mod_replace 75 = .ok (.goto 4, 3) := by decide +kernel
theorem d_Mod_replace_78 : decode b_Mod_replace 78 = .ok (.iconst 0, 1) := by decide +kernel
theorem d_Mod_replace_79 : decode b_Mod_replace 79 = .ok (.istore 4, 2) := by decide +kernel
theorem d_Mod_replace_81 : decode b_Mod_replace 81 = .ok (.aload_n 0, 1) := by decide +kernel
theorem d_Mod_replace_82 : decode b_Mod_replace 82 = .ok (.iload 4, 2) := by decide +kernel
theorem d_Mod_replace_84 : decode b_Mod_replace 84 = .ok (.ifCond .eq 7, 3) := by decide +kernel
theorem d_Mod_replace_87 : decode b_Mod_replace 87 = .ok (.iconst 2, 1) := by decide +kernel
theorem d_Mod_replace_88 : decode b_Mod_replace 88 = .ok (.goto 4, 3) := by decide +kernel
theorem d_Mod_replace_91 : decode b_Mod_replace 91 = .ok (.iconst 3, 1) := by decide +kernel
theorem d_Mod_replace_92 : decode b_Mod_replace 92 = .ok (.iload_n 1, 1) := by decide +kernel
theorem d_Mod_replace_93 : decode b_Mod_replace 93 = .ok (.iconst 4, 1) := by decide +kernel
theorem d_Mod_replace_94 : decode b_Mod_replace 94 = .ok (.iload_n 2, 1) := by decide +kernel
theorem d_Mod_replace_95 : decode b_Mod_replace 95 = .ok (.iload 4, 2) := by decide +kernel
theorem d_Mod_replace_97 : decode b_Mod_replace 97 = .ok (.ifCond .eq 7, 3) := by decide +kernel
theorem d_Mod_replace_100 : decode b_Mod_replace 100 = .ok (.iconst 0, 1) := by decide +kernel
theorem d_Mod_replace_101 : decode b_Mod_replace 101 = .ok (.goto 9, 3) := by decide +kernel
theorem d_Mod_replace_104 : decode b_Mod_replace 104 = .ok (.aload_n 0, 1) := by decide +kernel
theorem d_Mod_replace_105 : decode b_Mod_replace 105 = .ok (.getfield 31, 3) := by decide +kernel
theorem d_Mod_replace_108 : decode b_Mod_replace 108 = .ok (.iload_n 3, 1) := by decide +kernel
theorem d_Mod_replace_109 : decode b_Mod_replace 109 = .ok (.iaload, 1) := by decide +kernel
theorem d_Mod_replace_110 : decode b_Mod_replace 110 = .ok (.iconst 0, 1) := by decide +kernel
theorem d_Mod_replace_111 : decode b_Mod_replace 111 = .ok (.iconst (-1), 1) := by decide +kernel
theorem d_Mod_replace_112 : decode b_Mod_replace 112 = .ok (.invokevirtual 97, 3) := by decide +kernel
theorem d_Mod_replace_115 : decode b_Mod_replace 115 = .ok (.aload_n 0, 1) := by decide +kernel
theorem d_Mod_replace_116 : decode b_Mod_replace 116 = .ok (.getfield 28, 3) := by decide +kernel
theorem d_Mod_replace_119 : decode b_Mod_replace 119 = .ok (.iload_n 3, 1) := by decide +kernel
theorem d_Mod_replace_120 : decode b_Mod_replace 120 = .ok (.iload 4, 2) := by decide +kernel
theorem d_Mod_replace_122 : decode b_Mod_replace 122 = .ok (.ifCond .eq 8, 3) := by decide +kernel
theorem d_Mod_replace_125 : decode b_Mod_replace 125 = .ok (.bipush 9, 2) := by decide +kernel
theorem d_Mod_replace_127 : decode b_Mod_replace 127 = .ok (.goto 5, 3) := by decide +kernel
theorem d_Mod_replace_130 : decode b_Mod_replace 130 = .ok (.bipush 8, 2) := by decide +kernel
theorem d_Mod_replace_132 : decode b_Mod_replace 132 = .ok (.iastore, 1) := by decide +kernel
theorem d_Mod_replace_133 : decode b_Mod_replace 133 = .ok (.aload_n 0, 1) := by decide +kernel
theorem d_Mod_replace_134 : decode b_Mod_replace 134 = .ok (.getfield 25, 3) := by decide +kernel
theorem d_Mod_replace_137 : decode b_Mod_replace 137 = .ok (.iload_n 1, 1) := by decide +kernel
theorem d_Mod_replace_138 : decode b_Mod_replace 138 = .ok (.iconst 2, 1) := by decide +kernel
theorem d_Mod_replace_139 : decode b_Mod_replace 139 = .ok (.iastore, 1) := by decide +kernel
theorem d_Mod_replace_140 : decode b_Mod_replace 140 = .ok (.iconst 3, 1) := by decide +kernel
theorem d_Mod_replace_141 : decode b_Mod_replace 141 = .ok (.ireturn, 1) := by decide +kernel
theorem d_Mod_ask_0 : decode b_Mod_ask 0 = .ok (.aload_n 0, 1) := by decide +kernel
theorem d_Mod_ask_1 : decode b_Mod_ask 1 = .ok (.iload_n 3, 1) := by decide +kernel
theorem d_Mod_ask_2 : decode b_Mod_ask 2 = .ok (.iload_n 1, 1) := by decide +kernel
theorem d_Mod_ask_3 : decode b_Mod_ask 3 = .ok (.iconst 4, 1) := by decide +kernel
theorem d_Mod_ask_4 : decode b_Mod_ask 4 = .ok (.iload_n 2, 1) := by decide +kernel
theorem d_Mod_ask_5 : decode b_Mod_ask 5 = .ok (.iconst 0, 1) := by decide +kernel
theorem d_Mod_ask_6 : decode b_Mod_ask 6 = .ok (.iconst 0, 1) := by decide +kernel
theorem d_Mod_ask_7 : decode b_Mod_ask 7 = .ok (.iconst (-1), 1) := by decide +kernel
theorem d_Mod_ask_8 : decode b_Mod_ask 8 = .ok (.invokevirtual 97, 3) := by decide +kernel
theorem d_Mod_ask_11 : decode b_Mod_ask 11 = .ok (.aload_n 0, 1) := by decide +kernel
theorem d_Mod_ask_12 : decode b_Mod_ask 12 = .ok (.getfield 28, 3) := by decide +kernel
theorem d_Mod_ask_15 : decode b_Mod_ask 15 = .ok (.iconst 4, 1) := by decide +kernel
theorem d_Mod_ask_16 : decode b_Mod_ask 16 = .ok (.iload_n 1, 1) := by decide +kernel
theorem d_Mod_ask_17 : decode b_Mod_ask 17 = .ok (.imul, 1) := by decide +kernel
theorem d_Mod_ask_18 : decode b_Mod_ask 18 = .ok (.iload_n 2, 1) := by decide +kernel
theorem d_Mod_ask_19 : decode b_Mod_ask 19 = .ok (.iadd, 1) := by decide +kernel
theorem d_Mod_ask_20 : decode b_Mod_ask 20 = .ok (.iload 4, 2) := by decide +kernel
theorem d_Mod_ask_22 : decode b_Mod_ask 22 = .ok (.iastore, 1) := by decide +kernel
theorem d_Mod_ask_23 : decode b_Mod_ask 23 = .ok (.aload_n 0, 1) := by decide +kernel
theorem d_Mod_ask_24 : decode b_Mod_ask 24 = .ok (.getfield 34, 3) := by decide +kernel
theorem d_Mod_ask_27 : decode b_Mod_ask 27 = .ok (.iconst 4, 1) := by decide +kernel
theorem d_Mod_ask_28 : decode b_Mod_ask 28 = .ok (.iload_n 1, 1) := by decide +kernel
theorem d_Mod_ask_29 : decode b_Mod_ask 29 = .ok (.imul, 1) := by decide +kernel
theorem d_Mod_ask_30 : decode b_Mod_ask 30 = .ok (.iload_n 2, 1) := by decide +kernel
theorem d_Mod_ask_31 : decode b_Mod_ask 31 = .ok (.iadd, 1) := by decide +kernel
theorem d_Mod_ask_32 : decode b_Mod_ask 32 = .ok (.iconst 0, 1) := by decide +kernel
theorem d_Mod_ask_33 : decode b_Mod_ask 33 = .ok (.iastore, 1) := by decide +kernel
theorem d_Mod_ask_34 : decode b_Mod_ask 34 = .ok (.aload_n 0, 1) := by decide +kernel
theorem d_Mod_ask_35 : decode b_Mod_ask 35 = .ok (.getfield 25, 3) := by decide +kernel
theorem d_Mod_ask_38 : decode b_Mod_ask 38 = .ok (.iload_n 1, 1) := by decide +kernel
theorem d_Mod_ask_39 : decode b_Mod_ask 39 = .ok (.iconst 1, 1) := by decide +kernel
theorem d_Mod_ask_40 : decode b_Mod_ask 40 = .ok (.iastore, 1) := by decide +kernel
theorem d_Mod_ask_41 : decode b_Mod_ask 41 = .ok (.iconst 2, 1) := by decide +kernel
theorem d_Mod_ask_42 : decode b_Mod_ask 42 = .ok (.ireturn, 1) := by decide +kernel
theorem d_Mod_step_0 : decode b_Mod_step 0 = .ok (.aload_n 0, 1) := by decide +kernel
theorem d_Mod_step_1 : decode b_Mod_step 1 = .ok (.iload_n 1, 1) := by decide +kernel
theorem d_Mod_step_2 : decode b_Mod_step 2 = .ok (.invokevirtual 81, 3) := by decide +kernel
theorem d_Mod_step_5 : decode b_Mod_step 5 = .ok (.ifCond .ne 5, 3) := by decide +kernel
theorem d_Mod_step_8 : decode b_Mod_step 8 = .ok (.iconst (-1), 1) := by decide +kernel
theorem d_Mod_step_9 : decode b_Mod_step 9 = .ok (.ireturn, 1) := by decide +kernel
theorem d_Mod_step_10 : decode b_Mod_step 10 = .ok (.aload_n 0, 1) := by decide +kernel
theorem d_Mod_step_11 : decode b_Mod_step 11 = .ok (.getfield 25, 3) := by decide +kernel
theorem d_Mod_step_14 : decode b_Mod_step 14 = .ok (.iload_n 1, 1) := by decide +kernel
theorem d_Mod_step_15 : decode b_Mod_step 15 = .ok (.iaload, 1) := by decide +kernel
theorem d_Mod_step_16 : decode b_Mod_step 16 = .ok (.ifCond .eq 5, 3) := by decide +kernel
theorem d_Mod_step_19 : decode b_Mod_step 19 = .ok (.iconst 0, 1) := by decide +kernel
theorem d_Mod_step_20 : decode b_Mod_step 20 = .ok (.ireturn, 1) := by decide +kernel
theorem d_Mod_step_21 : decode b_Mod_step 21 = .ok (.aload_n 0, 1) := by decide +kernel
theorem d_Mod_step_22 : decode b_Mod_step 22 = .ok (.getfield 22, 3) := by decide +kernel
theorem d_Mod_step_25 : decode b_Mod_step 25 = .ok (.iload_n 1, 1) := by decide +kernel
theorem d_Mod_step_26 : decode b_Mod_step 26 = .ok (.iaload, 1) := by decide +kernel
theorem d_Mod_step_27 : decode b_Mod_step 27 = .ok (.aload_n 0, 1) := by decide +kernel
theorem d_Mod_step_28 : decode b_Mod_step 28 = .ok (.getfield 19, 3) := by decide +kernel
theorem d_Mod_step_31 : decode b_Mod_step 31 = .ok (.iload_n 1, 1) := by decide +kernel
theorem d_Mod_step_32 : decode b_Mod_step 32 = .ok (.iaload, 1) := by decide +kernel
theorem d_Mod_step_33 : decode b_Mod_step 33 = .ok (.if_icmp .lt 5, 3) := by decide +kernel
theorem d_Mod_step_36 : decode b_Mod_step 36 = .ok (.iconst 4, 1) := by decide +kernel
theorem d_Mod_step_37 : decode b_Mod_step 37 = .ok (.ireturn, 1) := by decide +kernel
theorem d_Mod_step_38 : decode b_Mod_step 38 = .ok (.aload_n 0, 1) := by decide +kernel
theorem d_Mod_step_39 : decode b_Mod_step 39 = .ok (.getfield 13, 3) := by decide +kernel
theorem d_Mod_step_42 : decode b_Mod_step 42 = .ok (.bipush 16, 2) := by decide +kernel
theorem d_Mod_step_44 : decode b_Mod_step 44 = .ok (.iload_n 1, 1) := by decide +kernel
theorem d_Mod_step_45 : decode b_Mod_step 45 = .ok (.imul, 1) := by decide +kernel
theorem d_Mod_step_46 : decode b_Mod_step 46 = .ok (.aload_n 0, 1) := by decide +kernel
theorem d_Mod_step_47 : decode b_Mod_step 47 = .ok (.getfield 22, 3) := by decide +kernel
theorem d_Mod_step_50 : decode b_Mod_step 50 = .ok (.iload_n 1, 1) := by decide +kernel
theorem d_Mod_step_51 : decode b_Mod_step 51 = .ok (.iaload, 1) := by decide +kernel
theorem d_Mod_step_52 : decode b_Mod_step 52 = .ok (.iadd, 1) := by decide +kernel
theorem d_Mod_step_53 : decode b_Mod_step 53 = .ok (.iaload, 1) := by decide +kernel
theorem d_Mod_step_54 : decode b_Mod_step 54 = .ok (.istore_n 2, 1) := by decide +kernel
theorem d_Mod_step_55 : decode b_Mod_step 55 = .ok (.aload_n 0, 1) := by decide +kernel
theorem d_Mod_step_56 : decode b_Mod_step 56 = .ok (.getfield 16, 3) := by decide +kernel
theorem d_Mod_step_59 : decode b_Mod_step 59 = .ok (.bipush 16, 2) := by decide +kernel
theorem d_Mod_step_61 : decode b_Mod_step 61 = .ok (.iload_n 1, 1) := by decide +kernel
theorem d_Mod_step_62 : decode b_Mod_step 62 = .ok (.imul, 1) := by decide +kernel
theorem d_Mod_step_63 : decode b_Mod_step 63 = .ok (.aload_n 0, 1) := by decide +kernel
theorem d_Mod_step_64 : decode b_Mod_step 64 = .ok (.getfield 22, 3) := by decide +kernel
theorem d_Mod_step_67 : decode b_Mod_step 67 = .ok (.iload_n 1, 1) := by decide +kernel
theorem d_Mod_step_68 : decode b_Mod_step 68 = .ok (.iaload, 1) := by decide +kernel
theorem d_Mod_step_69 : decode b_Mod_step 69 = .ok (.iadd, 1) := by decide +kernel
theorem d_Mod_step_70 : decode b_Mod_step 70 = .ok (.iaload, 1) := by decide +kernel
theorem d_Mod_step_71 : decode b_Mod_step 71 = .ok (.istore_n 3, 1) := by decide +kernel
theorem d_Mod_step_72 : decode b_Mod_step 72 = .ok (.iload_n 2, 1) := by decide +kernel
theorem d_Mod_step_73 : decode b_Mod_step 73 = .ok (.invokestatic 85, 3) := by decide +kernel
theorem d_Mod_step_76 : decode b_Mod_step 76 = .ok (.ifCond .ne 11, 3) := by decide +kernel
theorem d_Mod_step_79 : decode b_Mod_step 79 = .ok (.aload_n 0, 1) := by decide +kernel
theorem d_Mod_step_80 : decode b_Mod_step 80 = .ok (.iload_n 1, 1) := by decide +kernel
theorem d_Mod_step_81 : decode b_Mod_step 81 = .ok (.iload_n 2, 1) := by decide +kernel
theorem d_Mod_step_82 : decode b_Mod_step 82 = .ok (.iload_n 3, 1) := by decide +kernel
theorem d_Mod_step_83 : decode b_Mod_step 83 = .ok (.invokevirtual 107, 3) := by decide +kernel
theorem d_Mod_step_86 : decode b_Mod_step 86 = .ok (.ireturn, 1) := by decide +kernel
theorem d_Mod_step_87 : decode b_Mod_step 87 = .ok (.aload_n 0, 1) := by decide +kernel
theorem d_Mod_step_88 : decode b_Mod_step 88 = .ok (.getfield 28, 3) := by decide +kernel
theorem d_Mod_step_91 : decode b_Mod_step 91 = .ok (.iconst 4, 1) := by decide +kernel
theorem d_Mod_step_92 : decode b_Mod_step 92 = .ok (.iload_n 1, 1) := by decide +kernel
theorem d_Mod_step_93 : decode b_Mod_step 93 = .ok (.imul, 1) := by decide +kernel
theorem d_Mod_step_94 : decode b_Mod_step 94 = .ok (.iload_n 3, 1) := by decide +kernel
theorem d_Mod_step_95 : decode b_Mod_step 95 = .ok (.iadd, 1) := by decide +kernel
theorem d_Mod_step_96 : decode b_Mod_step 96 = .ok (.iaload, 1) := by decide +kernel
theorem d_Mod_step_97 : decode b_Mod_step 97 = .ok (.istore 4, 2) := by decide +kernel
theorem d_Mod_step_99 : decode b_Mod_step 99 = .ok (.iload 4, 2) := by decide +kernel
theorem d_Mod_step_101 : decode b_Mod_step 101 = .ok (.iconst 2, 1) := by decide +kernel
theorem d_Mod_step_102 : decode b_Mod_step 102 = .ok (.if_icmp .eq 13, 3) := by decide +kernel
theorem d_Mod_step_105 : decode b_Mod_step 105 = .ok (.iload 4, 2) := by decide +kernel
theorem d_Mod_step_107 : decode b_Mod_step 107 = .ok (.iconst 1, 1) := by decide +kernel
theorem d_Mod_step_108 : decode b_Mod_step 108 = .ok (.if_icmp .ne 14, 3) := by decide +kernel
theorem d_Mod_step_111 : decode b_Mod_step 111 = .ok (.iload_n 2, 1) := by decide +kernel
theorem d_Mod_step_112 : decode b_Mod_step 112 = .ok (.ifCond .ne 10, 3) := by decide +kernel
theorem d_Mod_step_115 : decode b_Mod_step 115 = .ok (.aload_n 0, 1) := by decide +kernel
theorem d_Mod_step_116 : decode b_Mod_step 116 = .ok (.iload_n 1, 1) := by decide +kernel
theorem d_Mod_step_117 : decode b_Mod_step 117 = .ok (.invokevirtual 111, 3) := by decide +kernel
theorem d_Mod_step_120 : decode b_Mod_step 120 = .ok (.iconst 1, 1) := by decide +kernel
theorem d_Mod_step_121 : decode b_Mod_step 121 = .ok (.ireturn, 1) := by decide +kernel
theorem d_Mod_step_122 : decode b_Mod_step 122 = .ok (.iload 4, 2) := by decide +kernel
theorem d_Mod_step_124 : decode b_Mod_step 124 = .ok (.iconst 1, 1) := by decide +kernel
theorem d_Mod_step_125 : decode b_Mod_step 125 = .ok (.if_icmp .ne 13, 3) := by decide +kernel
theorem d_Mod_step_128 : decode b_Mod_step 128 = .ok (.aload_n 0, 1) := by decide +kernel
theorem d_Mod_step_129 : decode b_Mod_step 129 = .ok (.iload_n 1, 1) := by decide +kernel
theorem d_Mod_step_130 : decode b_Mod_step 130 = .ok (.iload_n 3, 1) := by decide +kernel
theorem d_Mod_step_131 : decode b_Mod_step 131 = .ok (.iconst 1, 1) := by decide +kernel
theorem d_Mod_step_132 : decode b_Mod_step 132 = .ok (.bipush 6, 2) := by decide +kernel
theorem d_Mod_step_134 : decode b_Mod_step 134 = .ok (.invokevirtual 115, 3) := by decide +kernel
theorem d_Mod_step_137 : decode b_Mod_step 137 = .ok (.ireturn, 1) := by decide +kernel
theorem d_Mod_step_138 : decode b_Mod_step 138 = .ok (.aload_n 0, 1) := by decide +kernel
theorem d_Mod_step_139 : decode b_Mod_step 139 = .ok (.iload_n 1, 1) := by decide +kernel
theorem d_Mod_step_140 : decode b_Mod_step 140 = .ok (.invokevirtual 119, 3) := by decide +kernel
theorem d_Mod_step_143 : decode b_Mod_step 143 = .ok (.aload_n 0, 1) := by decide +kernel
theorem d_Mod_step_144 : decode b_Mod_step 144 = .ok (.getfield 78, 3) := by decide +kernel
theorem d_Mod_step_147 : decode b_Mod_step 147 = .ok (.if_icmp .lt 9, 3) := by decide +kernel
theorem d_Mod_step_150 : decode b_Mod_step 150 = .ok (.aload_n 0, 1) := by decide +kernel
theorem d_Mod_step_151 : decode b_Mod_step 151 = .ok (.iload_n 1, 1) := by decide +kernel
theorem d_Mod_step_152 : decode b_Mod_step 152 = .ok (.invokevirtual 123, 3) := by decide +kernel
theorem d_Mod_step_155 : decode b_Mod_step 155 = .ok (.ireturn, 1) := by decide +kernel
theorem d_Mod_step_156 : decode b_Mod_step 156 = .ok (.iload_n 2, 1) := by decide +kernel
theorem d_Mod_step_157 : decode b_Mod_step 157 = .ok (.ifCond .ne 14, 3) := by decide +kernel
theorem d_Mod_step_160 : decode b_Mod_step 160 = .ok (.aload_n 0, 1) := by decide +kernel
theorem d_Mod_step_161 : decode b_Mod_step 161 = .ok (.iload_n 1, 1) := by decide +kernel
theorem d_Mod_step_162 : decode b_Mod_step 162 = .ok (.iload_n 3, 1) := by decide +kernel
theorem d_Mod_step_163 : decode b_Mod_step 163 = .ok (.iconst 0, 1) := by decide +kernel
theorem d_Mod_step_164 : decode b_Mod_step 164 = .ok (.iconst 3, 1) := by decide +kernel
theorem d_Mod_step_165 : decode b_Mod_step 165 = .ok (.invokevirtual 115, 3) := by decide +kernel
theorem d_Mod_step_168 : decode b_Mod_step 168 = .ok (.goto 11, 3) := by decide +kernel
theorem d_Mod_step_171 : decode b_Mod_step 171 = .ok (.aload_n 0, 1) := by decide +kernel
theorem d_Mod_step_172 : decode b_Mod_step 172 = .ok (.iload_n 1, 1) := by decide +kernel
theorem d_Mod_step_173 : decode b_Mod_step 173 = .ok (.iload_n 3, 1) := by decide +kernel
theorem d_Mod_step_174 : decode b_Mod_step 174 = .ok (.iconst 1, 1) := by decide +kernel
theorem d_Mod_step_175 : decode b_Mod_step 175 = .ok (.iconst 4, 1) := by decide +kernel
theorem d_Mod_step_176 : decode b_Mod_step 176 = .ok (.invokevirtual 115, 3) := by decide +kernel
theorem d_Mod_step_179 : decode b_Mod_step 179 = .ok (.ireturn, 1) := by decide +kernel
theorem d_Mod_behind_0 : decode b_Mod_behind 0 = .ok (.iconst 0, 1) := by decide +kernel
theorem d_Mod_behind_1 : decode b_Mod_behind 1 = .ok (.istore_n 2, 1) := by decide +kernel
theorem d_Mod_behind_2 : decode b_Mod_behind 2 = .ok (.iload_n 2, 1) := by decide +kernel
theorem d_Mod_behind_3 : decode b_Mod_behind 3 = .ok (.iload_n 1, 1) := by decide +kernel
theorem d_Mod_behind_4 : decode b_Mod_behind 4 = .ok (.if_icmp .ge 87, 3) := by decide +kernel
theorem d_Mod_behind_7 : decode b_Mod_behind 7 = .ok (.aload_n 0, 1) := by decide +kernel
theorem d_Mod_behind_8 : decode b_Mod_behind 8 = .ok (.getfield 53, 3) := by decide +kernel
theorem d_Mod_behind_11 : decode b_Mod_behind 11 = .ok (.iload_n 2, 1) := by decide +kernel
theorem d_Mod_behind_12 : decode b_Mod_behind 12 = .ok (.iaload, 1) := by decide +kernel
theorem d_Mod_behind_13 : decode b_Mod_behind 13 = .ok (.iconst 4, 1) := by decide +kernel
theorem d_Mod_behind_14 : decode b_Mod_behind 14 = .ok (.if_icmp .lt 71, 3) := by decide +kernel
theorem d_Mod_behind_17 : decode b_Mod_behind 17 = .ok (.aload_n 0, 1) := by decide +kernel
theorem d_Mod_behind_18 : decode b_Mod_behind 18 = .ok (.getfield 53, 3) := by decide +kernel
theorem d_Mod_behind_21 : decode b_Mod_behind 21 = .ok (.iload_n 2, 1) := by decide +kernel
theorem d_Mod_behind_22 : decode b_Mod_behind 22 = .ok (.iaload, 1) := by decide +kernel
theorem d_Mod_behind_23 : decode b_Mod_behind 23 = .ok (.bipush 7, 2) := by decide +kernel
theorem d_Mod_behind_25 : decode b_Mod_behind 25 = .ok (.if_icmp .gt 60, 3) := by decide +kernel
theorem d_Mod_behind_28 : decode b_Mod_behind 28 = .ok (.aload_n 0, 1) := by decide +kernel
theorem d_Mod_behind_29 : decode b_Mod_behind 29 = .ok (.getfield 62, 3) := by decide +kernel
theorem d_Mod_behind_32 : decode b_Mod_behind 32 = .ok (.iload_n 2, 1) := by decide +kernel
theorem d_Mod_behind_33 : decode b_Mod_behind 33 = .ok (.iaload, 1) := by decide +kernel
theorem d_Mod_behind_34 : decode b_Mod_behind 34 = .ok (.aload_n 0, 1) := by decide +kernel
theorem d_Mod_behind_35 : decode b_Mod_behind 35 = .ok (.getfield 62, 3) := by decide +kernel
theorem d_Mod_behind_38 : decode b_Mod_behind 38 = .ok (.iload_n 1, 1) := by decide +kernel
theorem d_Mod_behind_39 : decode b_Mod_behind 39 = .ok (.iaload, 1) := by decide +kernel
theorem d_Mod_behind_40 : decode b_Mod_behind 40 = .ok (.if_icmp .ne 45, 3) := by decide +kernel
theorem d_Mod_behind_43 : decode b_Mod_behind 43 = .ok (.aload_n 0, 1) := by decide +kernel
theorem d_Mod_behind_44 : decode b_Mod_behind 44 = .ok (.getfield 59, 3) := by decide +kernel
theorem d_Mod_behind_47 : decode b_Mod_behind 47 = .ok (.iload_n 2, 1) := by decide +kernel
theorem d_Mod_behind_48 : decode b_Mod_behind 48 = .ok (.iaload, 1) := by decide +kernel
theorem d_Mod_behind_49 : decode b_Mod_behind 49 = .ok (.aload_n 0, 1) := by decide +kernel
theorem d_Mod_behind_50 : decode b_Mod_behind 50 = .ok (.getfield 59, 3) := by decide +kernel
theorem d_Mod_behind_53 : decode b_Mod_behind 53 = .ok (.iload_n 1, 1) := by decide +kernel
theorem d_Mod_behind_54 : decode b_Mod_behind 54 = .ok (.iaload, 1) := by decide +kernel
theorem d_Mod_behind_55 : decode b_Mod_behind 55 = .ok (.if_icmp .ne 30, 3) := by decide +kernel
theorem d_Mod_behind_58 : decode b_Mod_behind 58 = .ok (.aload_n 0, 1) := by decide +kernel
theorem d_Mod_behind_59 : decode b_Mod_behind 59 = .ok (.getfield 53, 3) := by decide +kernel
theorem d_Mod_behind_62 : decode b_Mod_behind 62 = .ok (.iload_n 1, 1) := by decide +kernel
theorem d_Mod_behind_63 : decode b_Mod_behind 63 = .ok (.iaload, 1) := by decide +kernel
theorem d_Mod_behind_64 : decode b_Mod_behind 64 = .ok (.iconst 4, 1) := by decide +kernel
theorem d_Mod_behind_65 : decode b_Mod_behind 65 = .ok (.if_icmp .lt 18, 3) := by decide +kernel
theorem d_Mod_behind_68 : decode b_Mod_behind 68 = .ok (.aload_n 0, 1) := by decide +kernel
theorem d_Mod_behind_69 : decode b_Mod_behind 69 = .ok (.getfield 53, 3) := by decide +kernel
theorem d_Mod_behind_72 : decode b_Mod_behind 72 = .ok (.iload_n 1, 1) := by decide +kernel
theorem d_Mod_behind_73 : decode b_Mod_behind 73 = .ok (.iaload, 1) := by decide +kernel
theorem d_Mod_behind_74 : decode b_Mod_behind 74 = .ok (.bipush 7, 2) := by decide +kernel
theorem d_Mod_behind_76 : decode b_Mod_behind 76 = .ok (.if_icmp .gt 7, 3) := by decide +kernel
theorem d_Mod_behind_79 : decode b_Mod_behind 79 = .ok (.iconst 1, 1) := by decide +kernel
theorem d_Mod_behind_80 : decode b_Mod_behind 80 = .ok (.goto 4, 3) := by decide +kernel
theorem d_Mod_behind_83 : decode b_Mod_behind 83 = .ok (.iconst 0, 1) := by decide +kernel
theorem d_Mod_behind_84 : decode b_Mod_behind 84 = .ok (.ireturn, 1) := by decide +kernel
theorem d_Mod_behind_85 : decode b_Mod_behind 85 = .ok (.iinc 2 1, 3) := by decide +kernel
theorem d_Mod_behind_88 : decode b_Mod_behind 88 = .ok (.goto (-86), 3) := by decide +kernel
theorem d_Mod_behind_91 : decode b_Mod_behind 91 = .ok (.iconst 0, 1) := by decide +kernel
theorem d_Mod_behind_92 : decode b_Mod_behind 92 = .ok (.ireturn, 1) := by decide +kernel
theorem d_Mod_stalls_0 : decode b_Mod_stalls 0 = .ok (.aload_n 0, 1) := by decide +kernel
theorem d_Mod_stalls_1 : decode b_Mod_stalls 1 = .ok (.getfield 59, 3) := by decide +kernel
theorem d_Mod_stalls_4 : decode b_Mod_stalls 4 = .ok (.iload_n 1, 1) := by decide +kernel
theorem d_Mod_stalls_5 : decode b_Mod_stalls 5 = .ok (.iaload, 1) := by decide +kernel
theorem d_Mod_stalls_6 : decode b_Mod_stalls 6 = .ok (.iconst 4, 1) := by decide +kernel
theorem d_Mod_stalls_7 : decode b_Mod_stalls 7 = .ok (.if_icmp .ne 34, 3) := by decide +kernel
theorem d_Mod_stalls_10 : decode b_Mod_stalls 10 = .ok (.aload_n 0, 1) := by decide +kernel
theorem d_Mod_stalls_11 : decode b_Mod_stalls 11 = .ok (.getfield 53, 3) := by decide +kernel
theorem d_Mod_stalls_14 : decode b_Mod_stalls 14 = .ok (.iload_n 1, 1) := by decide +kernel
theorem d_Mod_stalls_15 : decode b_Mod_stalls 15 = .ok (.iaload, 1) := by decide +kernel
theorem d_Mod_stalls_16 : decode b_Mod_stalls 16 = .ok (.iconst 1, 1) := by decide +kernel
theorem d_Mod_stalls_17 : decode b_Mod_stalls 17 = .ok (.if_icmp .gt 22, 3) := by decide +kernel
theorem d_Mod_stalls_20 : decode b_Mod_stalls 20 = .ok (.aload_n 0, 1) := by decide +kernel
theorem d_Mod_stalls_21 : decode b_Mod_stalls 21 = .ok (.getfield 43, 3) := by decide +kernel
theorem d_Mod_stalls_24 : decode b_Mod_stalls 24 = .ok (.aload_n 0, 1) := by decide +kernel
theorem d_Mod_stalls_25 : decode b_Mod_stalls 25 = .ok (.getfield 62, 3) := by decide +kernel
theorem d_Mod_stalls_28 : decode b_Mod_stalls 28 = .ok (.iload_n 1, 1) := by decide +kernel
theorem d_Mod_stalls_29 : decode b_Mod_stalls 29 = .ok (.iaload, 1) := by decide +kernel
theorem d_Mod_stalls_30 : decode b_Mod_stalls 30 = .ok (.iaload, 1) := by decide +kernel
theorem d_Mod_stalls_31 : decode b_Mod_stalls 31 = .ok (.iconst 3, 1) := by decide +kernel
theorem d_Mod_stalls_32 : decode b_Mod_stalls 32 = .ok (.if_icmp .ne 7, 3) := by decide +kernel
theorem d_Mod_stalls_35 : decode b_Mod_stalls 35 = .ok (.iconst 1, 1) := by decide +kernel
theorem d_Mod_stalls_36 : decode b_Mod_stalls 36 = .ok (.goto 4, 3) := by decide +kernel
theorem d_Mod_stalls_39 : decode b_Mod_stalls 39 = .ok (.iconst 0, 1) := by decide +kernel
theorem d_Mod_stalls_40 : decode b_Mod_stalls 40 = .ok (.ireturn, 1) := by decide +kernel
theorem d_Mod_stalls_41 : decode b_Mod_stalls 41 = .ok (.aload_n 0, 1) := by decide +kernel
theorem d_Mod_stalls_42 : decode b_Mod_stalls 42 = .ok (.getfield 28, 3) := by decide +kernel
theorem d_Mod_stalls_45 : decode b_Mod_stalls 45 = .ok (.iconst 4, 1) := by decide +kernel
theorem d_Mod_stalls_46 : decode b_Mod_stalls 46 = .ok (.aload_n 0, 1) := by decide +kernel
theorem d_Mod_stalls_47 : decode b_Mod_stalls 47 = .ok (.getfield 59, 3) := by decide +kernel
theorem d_Mod_stalls_50 : decode b_Mod_stalls 50 = .ok (.iload_n 1, 1) := by decide +kernel
theorem d_Mod_stalls_51 : decode b_Mod_stalls 51 = .ok (.iaload, 1) := by decide +kernel
theorem d_Mod_stalls_52 : decode b_Mod_stalls 52 = .ok (.imul, 1) := by decide +kernel
theorem d_Mod_stalls_53 : decode b_Mod_stalls 53 = .ok (.aload_n 0, 1) := by decide +kernel
theorem d_Mod_stalls_54 : decode b_Mod_stalls 54 = .ok (.getfield 62, 3) := by decide +kernel
theorem d_Mod_stalls_57 : decode b_Mod_stalls 57 = .ok (.iload_n 1, 1) := by decide +kernel
theorem d_Mod_stalls_58 : decode b_Mod_stalls 58 = .ok (.iaload, 1) := by decide +kernel
theorem d_Mod_stalls_59 : decode b_Mod_stalls 59 = .ok (.iadd, 1) := by decide +kernel
theorem d_Mod_stalls_60 : decode b_Mod_stalls 60 = .ok (.iaload, 1) := by decide +kernel
theorem d_Mod_stalls_61 : decode b_Mod_stalls 61 = .ok (.istore_n 2, 1) := by decide +kernel
theorem d_Mod_stalls_62 : decode b_Mod_stalls 62 = .ok (.aload_n 0, 1) := by decide +kernel
theorem d_Mod_stalls_63 : decode b_Mod_stalls 63 = .ok (.getfield 53, 3) := by decide +kernel
theorem d_Mod_stalls_66 : decode b_Mod_stalls 66 = .ok (.iload_n 1, 1) := by decide +kernel
theorem d_Mod_stalls_67 : decode b_Mod_stalls 67 = .ok (.iaload, 1) := by decide +kernel
theorem d_Mod_stalls_68 : decode b_Mod_stalls 68 = .ok (.bipush 6, 2) := by decide +kernel
theorem d_Mod_stalls_70 : decode b_Mod_stalls 70 = .ok (.if_icmp .ne 8, 3) := by decide +kernel
theorem d_Mod_stalls_73 : decode b_Mod_stalls 73 = .ok (.iload_n 2, 1) := by decide +kernel
theorem d_Mod_stalls_74 : decode b_Mod_stalls 74 = .ok (.iconst 3, 1) := by decide +kernel
theorem d_Mod_stalls_75 : decode b_Mod_stalls 75 = .ok (.if_icmp .eq 34, 3) := by decide +kernel
theorem d_Mod_stalls_78 : decode b_Mod_stalls 78 = .ok (.aload_n 0, 1) := by decide +kernel
theorem d_Mod_stalls_79 : decode b_Mod_stalls 79 = .ok (.getfield 53, 3) := by decide +kernel
theorem d_Mod_stalls_82 : decode b_Mod_stalls 82 = .ok (.iload_n 1, 1) := by decide +kernel
theorem d_Mod_stalls_83 : decode b_Mod_stalls 83 = .ok (.iaload, 1) := by decide +kernel
theorem d_Mod_stalls_84 : decode b_Mod_stalls 84 = .ok (.iconst 4, 1) := by decide +kernel
theorem d_Mod_stalls_85 : decode b_Mod_stalls 85 = .ok (.if_icmp .eq 13, 3) := by decide +kernel
theorem d_Mod_stalls_88 : decode b_Mod_stalls 88 = .ok (.aload_n 0, 1) := by decide +kernel
theorem d_Mod_stalls_89 : decode b_Mod_stalls 89 = .ok (.getfield 53, 3) := by decide +kernel
theorem d_Mod_stalls_92 : decode b_Mod_stalls 92 = .ok (.iload_n 1, 1) := by decide +kernel
theorem d_Mod_stalls_93 : decode b_Mod_stalls 93 = .ok (.iaload, 1) := by decide +kernel
theorem d_Mod_stalls_94 : decode b_Mod_stalls 94 = .ok (.iconst 5, 1) := by decide +kernel
theorem d_Mod_stalls_95 : decode b_Mod_stalls 95 = .ok (.if_icmp .ne 18, 3) := by decide +kernel
theorem d_Mod_stalls_98 : decode b_Mod_stalls 98 = .ok (.iload_n 2, 1) := by decide +kernel
theorem d_Mod_stalls_99 : decode b_Mod_stalls 99 = .ok (.iconst 4, 1) := by decide +kernel
theorem d_Mod_stalls_100 : decode b_Mod_stalls 100 = .ok (.if_icmp .lt 13, 3) := by decide +kernel
theorem d_Mod_stalls_103 : decode b_Mod_stalls 103 = .ok (.iload_n 2, 1) := by decide +kernel
theorem d_Mod_stalls_104 : decode b_Mod_stalls 104 = .ok (.bipush 7, 2) := by decide +kernel
theorem d_Mod_stalls_106 : decode b_Mod_stalls 106 = .ok (.if_icmp .gt 7, 3) := by decide +kernel
theorem d_Mod_stalls_109 : decode b_Mod_stalls 109 = .ok (.iconst 1, 1) := by decide +kernel
theorem d_Mod_stalls_110 : decode b_Mod_stalls 110 = .ok (.goto 4, 3) := by decide +kernel
theorem d_Mod_stalls_113 : decode b_Mod_stalls 113 = .ok (.iconst 0, 1) := by decide +kernel
theorem d_Mod_stalls_114 : decode b_Mod_stalls 114 = .ok (.ireturn, 1) := by decide +kernel
theorem d_Mod_deliver_0 : decode b_Mod_deliver 0 = .ok (.iload_n 1, 1) := by decide +kernel
theorem d_Mod_deliver_1 : decode b_Mod_deliver 1 = .ok (.ifCond .lt 11, 3) := by decide +kernel
theorem d_Mod_deliver_4 : decode b_Mod_deliver 4 = .ok (.iload_n 1, 1) := by decide +kernel
theorem d_Mod_deliver_5 : decode b_Mod_deliver 5 = .ok (.aload_n 0, 1) := by decide +kernel
theorem d_Mod_deliver_6 : decode b_Mod_deliver 6 = .ok (.getfield 91, 3) := by decide +kernel
theorem d_Mod_deliver_9 : decode b_Mod_deliver 9 = .ok (.if_icmp .lt 5, 3) := by decide +kernel
theorem d_Mod_deliver_12 : decode b_Mod_deliver 12 = .ok (.iconst (-1), 1) := by decide +kernel
theorem d_Mod_deliver_13 : decode b_Mod_deliver 13 = .ok (.ireturn, 1) := by decide +kernel
theorem d_Mod_deliver_14 : decode b_Mod_deliver 14 = .ok (.aload_n 0, 1) := by decide +kernel
theorem d_Mod_deliver_15 : decode b_Mod_deliver 15 = .ok (.iload_n 1, 1) := by decide +kernel
theorem d_Mod_deliver_16 : decode b_Mod_deliver 16 = .ok (.invokevirtual 126, 3) := by decide +kernel
theorem d_Mod_deliver_19 : decode b_Mod_deliver 19 = .ok (.ifCond .eq 6, 3) := by decide +kernel
theorem d_Mod_deliver_22 : decode b_Mod_deliver 22 = .ok (.bipush (-2), 2) := by decide +kernel
theorem d_Mod_deliver_24 : decode b_Mod_deliver 24 = .ok (.ireturn, 1) := by decide +kernel
theorem d_Mod_deliver_25 : decode b_Mod_deliver 25 = .ok (.aload_n 0, 1) := by decide +kernel
theorem d_Mod_deliver_26 : decode b_Mod_deliver 26 = .ok (.iload_n 1, 1) := by decide +kernel
theorem d_Mod_deliver_27 : decode b_Mod_deliver 27 = .ok (.invokevirtual 129, 3) := by decide +kernel
theorem d_Mod_deliver_30 : decode b_Mod_deliver 30 = .ok (.ifCond .eq 6, 3) := by decide +kernel
theorem d_Mod_deliver_33 : decode b_Mod_deliver 33 = .ok (.bipush (-3), 2) := by decide +kernel
theorem d_Mod_deliver_35 : decode b_Mod_deliver 35 = .ok (.ireturn, 1) := by decide +kernel
theorem d_Mod_deliver_36 : decode b_Mod_deliver 36 = .ok (.aload_n 0, 1) := by decide +kernel
theorem d_Mod_deliver_37 : decode b_Mod_deliver 37 = .ok (.getfield 53, 3) := by decide +kernel
theorem d_Mod_deliver_40 : decode b_Mod_deliver 40 = .ok (.iload_n 1, 1) := by decide +kernel
theorem d_Mod_deliver_41 : decode b_Mod_deliver 41 = .ok (.iaload, 1) := by decide +kernel
theorem d_Mod_deliver_42 : decode b_Mod_deliver 42 = .ok (.istore_n 2, 1) := by decide +kernel
theorem d_Mod_deliver_43 : decode b_Mod_deliver 43 = .ok (.aload_n 0, 1) := by decide +kernel
theorem d_Mod_deliver_44 : decode b_Mod_deliver 44 = .ok (.getfield 56, 3) := by decide +kernel
theorem d_Mod_deliver_47 : decode b_Mod_deliver 47 = .ok (.iload_n 1, 1) := by decide +kernel
theorem d_Mod_deliver_48 : decode b_Mod_deliver 48 = .ok (.iaload, 1) := by decide +kernel
theorem d_Mod_deliver_49 : decode b_Mod_deliver 49 = .ok (.istore_n 3, 1) := by decide +kernel
theorem d_Mod_deliver_50 : decode b_Mod_deliver 50 = .ok (.aload_n 0, 1) := by decide +kernel
theorem d_Mod_deliver_51 : decode b_Mod_deliver 51 = .ok (.getfield 59, 3) := by decide +kernel
theorem d_Mod_deliver_54 : decode b_Mod_deliver 54 = .ok (.iload_n 1, 1) := by decide +kernel
theorem d_Mod_deliver_55 : decode b_Mod_deliver 55 = .ok (.iaload, 1) := by decide +kernel
theorem d_Mod_deliver_56 : decode b_Mod_deliver 56 = .ok (.istore 4, 2) := by decide +kernel
theorem d_Mod_deliver_58 : decode b_Mod_deliver 58 = .ok (.aload_n 0, 1) := by decide +kernel
theorem d_Mod_deliver_59 : decode b_Mod_deliver 59 = .ok (.getfield 62, 3) := by decide +kernel
theorem d_Mod_deliver_62 : decode b_Mod_deliver 62 = .ok (.iload_n 1, 1) := by decide +kernel
theorem d_Mod_deliver_63 : decode b_Mod_deliver 63 = .ok (.iaload, 1) := by decide +kernel
theorem d_Mod_deliver_64 : decode b_Mod_deliver 64 = .ok (.istore 5, 2) := by decide +kernel
theorem d_Mod_deliver_66 : decode b_Mod_deliver 66 = .ok (.aload_n 0, 1) := by decide +kernel
theorem d_Mod_deliver_67 : decode b_Mod_deliver 67 = .ok (.getfield 65, 3) := by decide +kernel
theorem d_Mod_deliver_70 : decode b_Mod_deliver 70 = .ok (.iload_n 1, 1) := by decide +kernel
theorem d_Mod_deliver_71 : decode b_Mod_deliver 71 = .ok (.iaload, 1) := by decide +kernel
theorem d_Mod_deliver_72 : decode b_Mod_deliver 72 = .ok (.istore 6, 2) := by decide +kernel
theorem d_Mod_deliver_74 : decode b_Mod_deliver 74 = .ok (.aload_n 0, 1) := by decide +kernel
theorem d_Mod_deliver_75 : decode b_Mod_deliver 75 = .ok (.getfield 68, 3) := by decide +kernel
theorem d_Mod_deliver_78 : decode b_Mod_deliver 78 = .ok (.iload_n 1, 1) := by decide +kernel
theorem d_Mod_deliver_79 : decode b_Mod_deliver 79 = .ok (.iaload, 1) := by decide +kernel
theorem d_Mod_deliver_80 : decode b_Mod_deliver 80 = .ok (.istore 7, 2) := by decide +kernel
theorem d_Mod_deliver_82 : decode b_Mod_deliver 82 = .ok (.aload_n 0, 1) := by decide +kernel
theorem d_Mod_deliver_83 : decode b_Mod_deliver 83 = .ok (.getfield 71, 3) := by decide +kernel
theorem d_Mod_deliver_86 : decode b_Mod_deliver 86 = .ok (.iload_n 1, 1) := by decide +kernel
theorem d_Mod_deliver_87 : decode b_Mod_deliver 87 = .ok (.iaload, 1) := by decide +kernel
theorem d_Mod_deliver_88 : decode b_Mod_deliver 88 = .ok (.istore 8, 2) := by decide +kernel
theorem d_Mod_deliver_90 : decode b_Mod_deliver 90 = .ok (.aload_n 0, 1) := by decide +kernel
theorem d_Mod_deliver_91 : decode b_Mod_deliver 91 = .ok (.iload_n 1, 1) := by decide +kernel
theorem d_Mod_deliver_92 : decode b_Mod_deliver 92 = .ok (.invokevirtual 132, 3) := by decide +kernel
theorem d_Mod_deliver_95 : decode b_Mod_deliver 95 = .ok (.iload 4, 2) := by decide +kernel
theorem d_Mod_deliver_97 : decode b_Mod_deliver 97 = .ok (.iconst 4, 1) := by decide +kernel
theorem d_Mod_deliver_98 : decode b_Mod_deliver 98 = .ok (.if_icmp .ne 16, 3) := by decide +kernel
theorem d_Mod_deliver_101 : decode b_Mod_deliver 101 = .ok (.aload_n 0, 1) := by decide +kernel
theorem d_Mod_deliver_102 : decode b_Mod_deliver 102 = .ok (.iload_n 2, 1) := by decide +kernel
theorem d_Mod_deliver_103 : decode b_Mod_deliver 103 = .ok (.iload_n 3, 1) := by decide +kernel
theorem d_Mod_deliver_104 : decode b_Mod_deliver 104 = .ok (.iload 5, 2) := by decide +kernel
theorem d_Mod_deliver_106 : decode b_Mod_deliver 106 = .ok (.iload 6, 2) := by decide +kernel
theorem d_Mod_deliver_108 : decode b_Mod_deliver 108 = .ok (.invokevirtual 135, 3) := by decide +kernel
theorem d_Mod_deliver_111 : decode b_Mod_deliver 111 = .ok (.goto 26, 3) := by decide +kernel
theorem d_Mod_deliver_114 : decode b_Mod_deliver 114 = .ok (.aload_n 0, 1) := by decide +kernel
theorem d_Mod_deliver_115 : decode b_Mod_deliver 115 = .ok (.iload_n 2, 1) := by decide +kernel
theorem d_Mod_deliver_116 : decode b_Mod_deliver 116 = .ok (.iload 4, 2) := by decide +kernel
theorem d_Mod_deliver_118 : decode b_Mod_deliver 118 = .ok (.iload 5, 2) := by decide +kernel
theorem d_Mod_deliver_120 : decode b_Mod_deliver 120 = .ok (.iload 6, 2) := by decide +kernel
theorem d_Mod_deliver_122 : decode b_Mod_deliver 122 = .ok (.iload 7, 2) := by decide +kernel
theorem d_Mod_deliver_124 : decode b_Mod_deliver 124 = .ok (.iload 8, 2) := by decide +kernel
theorem d_Mod_deliver_126 : decode b_Mod_deliver 126 = .ok (.invokevirtual 139, 3) := by decide +kernel
theorem d_Mod_deliver_129 : decode b_Mod_deliver 129 = .ok (.aload_n 0, 1) := by decide +kernel
theorem d_Mod_deliver_130 : decode b_Mod_deliver 130 = .ok (.iload 4, 2) := by decide +kernel
theorem d_Mod_deliver_132 : decode b_Mod_deliver 132 = .ok (.iload 5, 2) := by decide +kernel
theorem d_Mod_deliver_134 : decode b_Mod_deliver 134 = .ok (.invokevirtual 143, 3) := by decide +kernel
theorem d_Mod_deliver_137 : decode b_Mod_deliver 137 = .ok (.aload_n 0, 1) := by decide +kernel
theorem d_Mod_deliver_138 : decode b_Mod_deliver 138 = .ok (.getfield 91, 3) := by decide +kernel
theorem d_Mod_deliver_141 : decode b_Mod_deliver 141 = .ok (.ireturn, 1) := by decide +kernel
theorem d_Mod_atCore_0 : decode b_Mod_atCore 0 = .ok (.iconst 4, 1) := by decide +kernel
theorem d_Mod_atCore_1 : decode b_Mod_atCore 1 = .ok (.iload_n 2, 1) := by decide +kernel
theorem d_Mod_atCore_2 : decode b_Mod_atCore 2 = .ok (.imul, 1) := by decide +kernel
theorem d_Mod_atCore_3 : decode b_Mod_atCore 3 = .ok (.iload_n 3, 1) := by decide +kernel
theorem d_Mod_atCore_4 : decode b_Mod_atCore 4 = .ok (.iadd, 1) := by decide +kernel
theorem d_Mod_atCore_5 : decode b_Mod_atCore 5 = .ok (.istore 7, 2) := by decide +kernel
theorem d_Mod_atCore_7 : decode b_Mod_atCore 7 = .ok (.aload_n 0, 1) := by decide +kernel
theorem d_Mod_atCore_8 : decode b_Mod_atCore 8 = .ok (.getfield 28, 3) := by decide +kernel
theorem d_Mod_atCore_11 : decode b_Mod_atCore 11 = .ok (.iload 7, 2) := by decide +kernel
theorem d_Mod_atCore_13 : decode b_Mod_atCore 13 = .ok (.iaload, 1) := by decide +kernel
theorem d_Mod_atCore_14 : decode b_Mod_atCore 14 = .ok (.istore 8, 2) := by decide +kernel
theorem d_Mod_atCore_16 : decode b_Mod_atCore 16 = .ok (.iload_n 1, 1) := by decide +kernel
theorem d_Mod_atCore_17 : decode b_Mod_atCore 17 = .ok (.bipush 8, 2) := by decide +kernel
theorem d_Mod_atCore_19 : decode b_Mod_atCore 19 = .ok (.if_icmp .ne 80, 3) := by decide +kernel
theorem d_Mod_atCore_22 : decode b_Mod_atCore 22 = .ok (.aload_n 0, 1) := by decide +kernel
theorem d_Mod_atCore_23 : decode b_Mod_atCore 23 = .ok (.getfield 31, 3) := by decide +kernel
theorem d_Mod_atCore_26 : decode b_Mod_atCore 26 = .ok (.iload 7, 2) := by decide +kernel
theorem d_Mod_atCore_28 : decode b_Mod_atCore 28 = .ok (.iload 4, 2) := by decide +kernel
theorem d_Mod_atCore_30 : decode b_Mod_atCore 30 = .ok (.iastore, 1) := by decide +kernel
theorem d_Mod_atCore_31 : decode b_Mod_atCore 31 = .ok (.aload_n 0, 1) := by decide +kernel
theorem d_Mod_atCore_32 : decode b_Mod_atCore 32 = .ok (.getfield 34, 3) := by decide +kernel
theorem d_Mod_atCore_35 : decode b_Mod_atCore 35 = .ok (.iload 7, 2) := by decide +kernel
theorem d_Mod_atCore_37 : decode b_Mod_atCore 37 = .ok (.aload_n 0, 1) := by decide +kernel
theorem d_Mod_atCore_38 : decode b_Mod_atCore 38 = .ok (.getfield 34, 3) := by decide +kernel
theorem d_Mod_atCore_41 : decode b_Mod_atCore 41 = .ok (.iload 7, 2) := by decide +kernel
theorem d_Mod_atCore_43 : decode b_Mod_atCore 43 = .ok (.iaload, 1) := by decide +kernel
theorem d_Mod_atCore_44 : decode b_Mod_atCore 44 = .ok (.iload 5, 2) := by decide +kernel
theorem d_Mod_atCore_46 : decode b_Mod_atCore 46 = .ok (.iadd, 1) := by decide +kernel
theorem d_Mod_atCore_47 : decode b_Mod_atCore 47 = .ok (.iastore, 1) := by decide +kernel
theorem d_Mod_atCore_48 : decode b_Mod_atCore 48 = .ok (.iload 8, 2) := by decide +kernel
theorem d_Mod_atCore_50 : decode b_Mod_atCore 50 = .ok (.bipush 6, 2) := by decide +kernel
theorem d_Mod_atCore_52 : decode b_Mod_atCore 52 = .ok (.if_icmp .ne 8, 3) := by decide +kernel
theorem d_Mod_atCore_55 : decode b_Mod_atCore 55 = .ok (.bipush 7, 2) := by decide +kernel
theorem d_Mod_atCore_57 : decode b_Mod_atCore 57 = .ok (.goto 4, 3) := by decide +kernel
theorem d_Mod_atCore_60 : decode b_Mod_atCore 60 = .ok (.iconst 5, 1) := by decide +kernel
theorem d_Mod_atCore_61 : decode b_Mod_atCore 61 = .ok (.istore 9, 2) := by decide +kernel
theorem d_Mod_atCore_63 : decode b_Mod_atCore 63 = .ok (.aload_n 0, 1) := by decide +kernel
theorem d_Mod_atCore_64 : decode b_Mod_atCore 64 = .ok (.getfield 28, 3) := by decide +kernel
theorem d_Mod_atCore_67 : decode b_Mod_atCore 67 = .ok (.iload 7, 2) := by decide +kernel
theorem d_Mod_atCore_69 : decode b_Mod_atCore 69 = .ok (.iload 8, 2) := by decide +kernel
theorem d_Mod_atCore_71 : decode b_Mod_atCore 71 = .ok (.iconst 3, 1) := by decide +kernel
theorem d_Mod_atCore_72 : decode b_Mod_atCore 72 = .ok (.if_icmp .ne 7, 3) := by decide +kernel
theorem d_Mod_atCore_75 : decode b_Mod_atCore 75 = .ok (.iconst 1, 1) := by decide +kernel
theorem d_Mod_atCore_76 : decode b_Mod_atCore 76 = .ok (.goto 19, 3) := by decide +kernel
theorem d_Mod_atCore_79 : decode b_Mod_atCore 79 = .ok (.aload_n 0, 1) := by decide +kernel
theorem d_Mod_atCore_80 : decode b_Mod_atCore 80 = .ok (.getfield 34, 3) := by decide +kernel
theorem d_Mod_atCore_83 : decode b_Mod_atCore 83 = .ok (.iload 7, 2) := by decide +kernel
theorem d_Mod_atCore_85 : decode b_Mod_atCore 85 = .ok (.iaload, 1) := by decide +kernel
theorem d_Mod_atCore_86 : decode b_Mod_atCore 86 = .ok (.ifCond .ne 7, 3) := by decide +kernel
theorem d_Mod_atCore_89 : decode b_Mod_atCore 89 = .ok (.iconst 2, 1) := by decide +kernel
theorem d_Mod_atCore_90 : decode b_Mod_atCore 90 = .ok (.goto 5, 3) := by decide +kernel
theorem d_Mod_atCore_93 : decode b_Mod_atCore 93 = .ok (.iload 9, 2) := by decide +kernel
theorem d_Mod_atCore_95 : decode b_Mod_atCore 95 = .ok (.iastore, 1) := by decide +kernel
theorem d_Mod_atCore_96 : decode b_Mod_atCore 96 = .ok (.goto 227, 3) := by decide +kernel
theorem d_Mod_atCore_99 : decode b_Mod_atCore 99 = .ok (.iload_n 1, 1) := by decide +kernel
theorem d_Mod_atCore_100 : decode b_Mod_atCore 100 = .ok (.bipush 9, 2) := by decide +kernel
theorem d_Mod_atCore_102 : decode b_Mod_atCore 102 = .ok (.if_icmp .ne 53, 3) := by decide +kernel
theorem d_Mod_atCore_105 : decode b_Mod_atCore 105 = .ok (.aload_n 0, 1) := by decide +kernel
theorem d_Mod_atCore_106 : decode b_Mod_atCore 106 = .ok (.getfield 34, 3) := by decide +kernel
theorem d_Mod_atCore_109 : decode b_Mod_atCore 109 = .ok (.iload 7, 2) := by decide +kernel
theorem d_Mod_atCore_111 : decode b_Mod_atCore 111 = .ok (.dup2, 1) := by decide +kernel
theorem d_Mod_atCore_112 : decode b_Mod_atCore 112 = .ok (.iaload, 1) := by decide +kernel
theorem d_Mod_atCore_113 : decode b_Mod_atCore 113 = .ok (.iconst 1, 1) := by decide +kernel
theorem d_Mod_atCore_114 : decode b_Mod_atCore 114 = .ok (.isub, 1) := by decide +kernel
theorem d_Mod_atCore_115 : decode b_Mod_atCore 115 = .ok (.iastore, 1) := by decide +kernel
theorem d_Mod_atCore_116 : decode b_Mod_atCore 116 = .ok (.aload_n 0, 1) := by decide +kernel
theorem d_Mod_atCore_117 : decode b_Mod_atCore 117 = .ok (.getfield 28, 3) := by decide +kernel
theorem d_Mod_atCore_120 : decode b_Mod_atCore 120 = .ok (.iload 7, 2) := by decide +kernel
theorem d_Mod_atCore_122 : decode b_Mod_atCore 122 = .ok (.iload 8, 2) := by decide +kernel
theorem d_Mod_atCore_124 : decode b_Mod_atCore 124 = .ok (.iconst 5, 1) := by decide +kernel
theorem d_Mod_atCore_125 : decode b_Mod_atCore 125 = .ok (.if_icmp .eq 10, 3) := by decide +kernel
theorem d_Mod_atCore_128 : decode b_Mod_atCore 128 = .ok (.iload 8, 2) := by decide +kernel
theorem d_Mod_atCore_130 : decode b_Mod_atCore 130 = .ok (.bipush 7, 2) := by decide +kernel
theorem d_Mod_atCore_132 : decode b_Mod_atCore 132 = .ok (.if_icmp .ne 17, 3) := by decide +kernel
theorem d_Mod_atCore_135 : decode b_Mod_atCore 135 = .ok (.aload_n 0, 1) := by decide +kernel
theorem d_Mod_atCore_136 : decode b_Mod_atCore 136 = .ok (.getfield 34, 3) := by decide +kernel
theorem d_Mod_atCore_139 : decode b_Mod_atCore 139 = .ok (.iload 7, 2) := by decide +kernel
theorem d_Mod_atCore_141 : decode b_Mod_atCore 141 = .ok (.iaload, 1) := by decide +kernel
theorem d_Mod_atCore_142 : decode b_Mod_atCore 142 = .ok (.ifCond .ne 7, 3) := by decide +kernel
theorem d_Mod_atCore_145 : decode b_Mod_atCore 145 = .ok (.iconst 2, 1) := by decide +kernel
theorem d_Mod_atCore_146 : decode b_Mod_atCore 146 = .ok (.goto 5, 3) := by decide +kernel
theorem d_Mod_atCore_149 : decode b_Mod_atCore 149 = .ok (.iload 8, 2) := by decide +kernel
theorem d_Mod_atCore_151 : decode b_Mod_atCore 151 = .ok (.iastore, 1) := by decide +kernel
theorem d_Mod_atCore_152 : decode b_Mod_atCore 152 = .ok (.goto 171, 3) := by decide +kernel
theorem d_Mod_atCore_155 : decode b_Mod_atCore 155 = .ok (.iload_n 1, 1) := by decide +kernel
theorem d_Mod_atCore_156 : decode b_Mod_atCore 156 = .ok (.bipush 6, 2) := by decide +kernel
theorem d_Mod_atCore_158 : decode b_Mod_atCore 158 = .ok (.if_icmp .ne 49, 3) := by decide +kernel
theorem d_Mod_atCore_161 : decode b_Mod_atCore 161 = .ok (.aload_n 0, 1) := by decide +kernel
theorem d_Mod_atCore_162 : decode b_Mod_atCore 162 = .ok (.bipush 9, 2) := by decide +kernel
theorem d_Mod_atCore_164 : decode b_Mod_atCore 164 = .ok (.iload_n 2, 1) := by decide +kernel
theorem d_Mod_atCore_165 : decode b_Mod_atCore 165 = .ok (.iload 6, 2) := by decide +kernel
theorem d_Mod_atCore_167 : decode b_Mod_atCore 167 = .ok (.iload_n 3, 1) := by decide +kernel
theorem d_Mod_atCore_168 : decode b_Mod_atCore 168 = .ok (.iconst 0, 1) := by decide +kernel
theorem d_Mod_atCore_169 : decode b_Mod_atCore 169 = .ok (.iconst 0, 1) := by decide +kernel
theorem d_Mod_atCore_170 : decode b_Mod_atCore 170 = .ok (.iconst (-1), 1) := by decide +kernel
theorem d_Mod_atCore_171 : decode b_Mod_atCore 171 = .ok (.invokevirtual 97, 3) := by decide +kernel
theorem d_Mod_atCore_174 : decode b_Mod_atCore 174 = .ok (.aload_n 0, 1) := by decide +kernel
theorem d_Mod_atCore_175 : decode b_Mod_atCore 175 = .ok (.getfield 28, 3) := by decide +kernel
theorem d_Mod_atCore_178 : decode b_Mod_atCore 178 = .ok (.iload 7, 2) := by decide +kernel
theorem d_Mod_atCore_180 : decode b_Mod_atCore 180 = .ok (.iload 8, 2) := by decide +kernel
theorem d_Mod_atCore_182 : decode b_Mod_atCore 182 = .ok (.iconst 1, 1) := by decide +kernel
theorem d_Mod_atCore_183 : decode b_Mod_atCore 183 = .ok (.if_icmp .ne 7, 3) := by decide +kernel
theorem d_Mod_atCore_186 : decode b_Mod_atCore 186 = .ok (.iconst 0, 1) := by decide +kernel
theorem d_Mod_atCore_187 : decode b_Mod_atCore 187 = .ok (.goto 16, 3) := by decide +kernel
theorem d_Mod_atCore_190 : decode b_Mod_atCore 190 = .ok (.iload 8, 2) := by decide +kernel
theorem d_Mod_atCore_192 : decode b_Mod_atCore 192 = .ok (.bipush 6, 2) := by decide +kernel
theorem d_Mod_atCore_194 : decode b_Mod_atCore 194 = .ok (.if_icmp .ne 7, 3) := by decide +kernel
theorem d_Mod_atCore_197 : decode b_Mod_atCore 197 = .ok (.iconst 4, 1) := by decide +kernel
theorem d_Mod_atCore_198 : decode b_Mod_atCore 198 = .ok (.goto 5, 3) := by decide +kernel
theorem d_Mod_atCore_201 : decode b_Mod_atCore 201 = .ok (.bipush 10, 2) := by decide +kernel
theorem d_Mod_atCore_203 : decode b_Mod_atCore 203 = .ok (.iastore, 1) := by decide +kernel
theorem d_Mod_atCore_204 : decode b_Mod_atCore 204 = .ok (.goto 119, 3) := by decide +kernel
theorem d_Mod_atCore_207 : decode b_Mod_atCore 207 = .ok (.iload_n 1, 1) := by decide +kernel
theorem d_Mod_atCore_208 : decode b_Mod_atCore 208 = .ok (.iconst 4, 1) := by decide +kernel
theorem d_Mod_atCore_209 : decode b_Mod_atCore 209 = .ok (.if_icmp .ne 56, 3) := by decide +kernel
theorem d_Mod_atCore_212 : decode b_Mod_atCore 212 = .ok (.aload_n 0, 1) := by decide +kernel
theorem d_Mod_atCore_213 : decode b_Mod_atCore 213 = .ok (.iload_n 2, 1) := by decide +kernel
theorem d_Mod_atCore_214 : decode b_Mod_atCore 214 = .ok (.iload 6, 2) := by decide +kernel
theorem d_Mod_atCore_216 : decode b_Mod_atCore 216 = .ok (.iload_n 3, 1) := by decide +kernel
theorem d_Mod_atCore_217 : decode b_Mod_atCore 217 = .ok (.aload_n 0, 1) := by decide +kernel
theorem d_Mod_atCore_218 : decode b_Mod_atCore 218 = .ok (.getfield 31, 3) := by decide +kernel
theorem d_Mod_atCore_221 : decode b_Mod_atCore 221 = .ok (.iload 7, 2) := by decide +kernel
theorem d_Mod_atCore_223 : decode b_Mod_atCore 223 = .ok (.iaload, 1) := by decide +kernel
theorem d_Mod_atCore_224 : decode b_Mod_atCore 224 = .ok (.iconst 0, 1) := by decide +kernel
theorem d_Mod_atCore_225 : decode b_Mod_atCore 225 = .ok (.invokevirtual 147, 3) := by decide +kernel
theorem d_Mod_atCore_228 : decode b_Mod_atCore 228 = .ok (.aload_n 0, 1) := by decide +kernel
theorem d_Mod_atCore_229 : decode b_Mod_atCore 229 = .ok (.iload_n 2, 1) := by decide +kernel
theorem d_Mod_atCore_230 : decode b_Mod_atCore 230 = .ok (.iconst 4, 1) := by decide +kernel
theorem d_Mod_atCore_231 : decode b_Mod_atCore 231 = .ok (.iload_n 3, 1) := by decide +kernel
theorem d_Mod_atCore_232 : decode b_Mod_atCore 232 = .ok (.aload_n 0, 1) := by decide +kernel
theorem d_Mod_atCore_233 : decode b_Mod_atCore 233 = .ok (.getfield 31, 3) := by decide +kernel
theorem d_Mod_atCore_236 : decode b_Mod_atCore 236 = .ok (.iload 7, 2) := by decide +kernel
theorem d_Mod_atCore_238 : decode b_Mod_atCore 238 = .ok (.iaload, 1) := by decide +kernel
theorem d_Mod_atCore_239 : decode b_Mod_atCore 239 = .ok (.iconst 0, 1) := by decide +kernel
theorem d_Mod_atCore_240 : decode b_Mod_atCore 240 = .ok (.invokevirtual 147, 3) := by decide +kernel
theorem d_Mod_atCore_243 : decode b_Mod_atCore 243 = .ok (.aload_n 0, 1) := by decide +kernel
theorem d_Mod_atCore_244 : decode b_Mod_atCore 244 = .ok (.getfield 28, 3) := by decide +kernel
theorem d_Mod_atCore_247 : decode b_Mod_atCore 247 = .ok (.iload 7, 2) := by decide +kernel
theorem d_Mod_atCore_249 : decode b_Mod_atCore 249 = .ok (.iload 8, 2) := by decide +kernel
theorem d_Mod_atCore_251 : decode b_Mod_atCore 251 = .ok (.iconst 2, 1) := by decide +kernel
theorem d_Mod_atCore_252 : decode b_Mod_atCore 252 = .ok (.if_icmp .ne 7, 3) := by decide +kernel
theorem d_Mod_atCore_255 : decode b_Mod_atCore 255 = .ok (.iconst 1, 1) := by decide +kernel
theorem d_Mod_atCore_256 : decode b_Mod_atCore 256 = .ok (.goto 5, 3) := by decide +kernel
theorem d_Mod_atCore_259 : decode b_Mod_atCore 259 = .ok (.bipush 9, 2) := by decide +kernel
theorem d_Mod_atCore_261 : decode b_Mod_atCore 261 = .ok (.iastore, 1) := by decide +kernel
theorem d_Mod_atCore_262 : decode b_Mod_atCore 262 = .ok (.goto 61, 3) := by decide +kernel
theorem d_Mod_atCore_265 : decode b_Mod_atCore 265 = .ok (.iload_n 1, 1) := by decide +kernel
theorem d_Mod_atCore_266 : decode b_Mod_atCore 266 = .ok (.iconst 5, 1) := by decide +kernel
theorem d_Mod_atCore_267 : decode b_Mod_atCore 267 = .ok (.if_icmp .ne 41, 3) := by decide +kernel
theorem d_Mod_atCore_270 : decode b_Mod_atCore 270 = .ok (.aload_n 0, 1) := by decide +kernel
theorem d_Mod_atCore_271 : decode b_Mod_atCore 271 = .ok (.iload_n 2, 1) := by decide +kernel
theorem d_Mod_atCore_272 : decode b_Mod_atCore 272 = .ok (.iload 6, 2) := by decide +kernel
theorem d_Mod_atCore_274 : decode b_Mod_atCore 274 = .ok (.iload_n 3, 1) := by decide +kernel
theorem d_Mod_atCore_275 : decode b_Mod_atCore 275 = .ok (.aload_n 0, 1) := by decide +kernel
theorem d_Mod_atCore_276 : decode b_Mod_atCore 276 = .ok (.getfield 31, 3) := by decide +kernel
theorem d_Mod_atCore_279 : decode b_Mod_atCore 279 = .ok (.iload 7, 2) := by decide +kernel
theorem d_Mod_atCore_281 : decode b_Mod_atCore 281 = .ok (.iaload, 1) := by decide +kernel
theorem d_Mod_atCore_282 : decode b_Mod_atCore 282 = .ok (.iconst 0, 1) := by decide +kernel
theorem d_Mod_atCore_283 : decode b_Mod_atCore 283 = .ok (.invokevirtual 147, 3) := by decide +kernel
theorem d_Mod_atCore_286 : decode b_Mod_atCore 286 = .ok (.aload_n 0, 1) := by decide +kernel
theorem d_Mod_atCore_287 : decode b_Mod_atCore 287 = .ok (.getfield 28, 3) := by decide +kernel
theorem d_Mod_atCore_290 : decode b_Mod_atCore 290 = .ok (.iload 7, 2) := by decide +kernel
theorem d_Mod_atCore_292 : decode b_Mod_atCore 292 = .ok (.iload 8, 2) := by decide +kernel
theorem d_Mod_atCore_294 : decode b_Mod_atCore 294 = .ok (.iconst 2, 1) := by decide +kernel
theorem d_Mod_atCore_295 : decode b_Mod_atCore 295 = .ok (.if_icmp .ne 7, 3) := by decide +kernel
theorem d_Mod_atCore_298 : decode b_Mod_atCore 298 = .ok (.iconst 0, 1) := by decide +kernel
theorem d_Mod_atCore_299 : decode b_Mod_atCore 299 = .ok (.goto 5, 3) := by decide +kernel
theorem d_Mod_atCore_302 : decode b_Mod_atCore 302 = .ok (.bipush 10, 2) := by decide +kernel
theorem d_Mod_atCore_304 : decode b_Mod_atCore 304 = .ok (.iastore, 1) := by decide +kernel
theorem d_Mod_atCore_305 : decode b_Mod_atCore 305 = .ok (.goto 18, 3) := by decide +kernel
theorem d_Mod_atCore_308 : decode b_Mod_atCore 308 = .ok (.aload_n 0, 1) := by decide +kernel
theorem d_Mod_atCore_309 : decode b_Mod_atCore 309 = .ok (.getfield 28, 3) := by decide +kernel
theorem d_Mod_atCore_312 : decode b_Mod_atCore 312 = .ok (.iload 7, 2) := by decide +kernel
theorem d_Mod_atCore_314 : decode b_Mod_atCore 314 = .ok (.iconst 0, 1) := by decide +kernel
theorem d_Mod_atCore_315 : decode b_Mod_atCore 315 = .ok (.iastore, 1) := by decide +kernel
theorem d_Mod_atCore_316 : decode b_Mod_atCore 316 = .ok (.aload_n 0, 1) := by decide +kernel
theorem d_Mod_atCore_317 : decode b_Mod_atCore 317 = .ok (.getfield 25, 3) := by decide +kernel
theorem d_Mod_atCore_320 : decode b_Mod_atCore 320 = .ok (.iload_n 2, 1) := by decide +kernel
theorem d_Mod_atCore_321 : decode b_Mod_atCore 321 = .ok (.iconst 0, 1) := by decide +kernel
theorem d_Mod_atCore_322 : decode b_Mod_atCore 322 = .ok (.iastore, 1) := by decide +kernel
theorem d_Mod_atCore_323 : decode b_Mod_atCore 323 = .ok (.return_, 1) := by decide +kernel
theorem d_Mod_finish_0 : decode b_Mod_finish 0 = .ok (.aload_n 0, 1) := by decide +kernel
theorem d_Mod_finish_1 : decode b_Mod_finish 1 = .ok (.getfield 25, 3) := by decide +kernel
theorem d_Mod_finish_4 : decode b_Mod_finish 4 = .ok (.iload_n 1, 1) := by decide +kernel
theorem d_Mod_finish_5 : decode b_Mod_finish 5 = .ok (.iaload, 1) := by decide +kernel
theorem d_Mod_finish_6 : decode b_Mod_finish 6 = .ok (.iconst 1, 1) := by decide +kernel
theorem d_Mod_finish_7 : decode b_Mod_finish 7 = .ok (.if_icmp .eq 4, 3) := by decide +kernel
theorem d_Mod_finish_10 : decode b_Mod_finish 10 = .ok (.return_, 1) := by decide +kernel
theorem d_Mod_finish_11 : decode b_Mod_finish 11 = .ok (.bipush 16, 2) := by decide +kernel
theorem d_Mod_finish_13 : decode b_Mod_finish 13 = .ok (.iload_n 1, 1) := by decide +kernel
theorem d_Mod_finish_14 : decode b_Mod_finish 14 = .ok (.imul, 1) := by decide +kernel
theorem d_Mod_finish_15 : decode b_Mod_finish 15 = .ok (.aload_n 0, 1) := by decide +kernel
theorem d_Mod_finish_16 : decode b_Mod_finish 16 = .ok (.getfield 22, 3) := by decide +kernel
theorem d_Mod_finish_19 : decode b_Mod_finish 19 = .ok (.iload_n 1, 1) := by decide +kernel
theorem d_Mod_finish_20 : decode b_Mod_finish 20 = .ok (.iaload, 1) := by decide +kernel
theorem d_Mod_finish_21 : decode b_Mod_finish 21 = .ok (.iadd, 1) := by decide +kernel
theorem d_Mod_finish_22 : decode b_Mod_finish 22 = .ok (.istore_n 3, 1) := by decide +kernel
theorem d_Mod_finish_23 : decode b_Mod_finish 23 = .ok (.aload_n 0, 1) := by decide +kernel
theorem d_Mod_finish_24 : decode b_Mod_finish 24 = .ok (.getfield 28, 3) := by decide +kernel
theorem d_Mod_finish_27 : decode b_Mod_finish 27 = .ok (.iconst 4, 1) := by decide +kernel
theorem d_Mod_finish_28 : decode b_Mod_finish 28 = .ok (.iload_n 1, 1) := by decide +kernel
theorem d_Mod_finish_29 : decode b_Mod_finish 29 = .ok (.imul, 1) := by decide +kernel
theorem d_Mod_finish_30 : decode b_Mod_finish 30 = .ok (.iload_n 2, 1) := by decide +kernel
theorem d_Mod_finish_31 : decode b_Mod_finish 31 = .ok (.iadd, 1) := by decide +kernel
theorem d_Mod_finish_32 : decode b_Mod_finish 32 = .ok (.iaload, 1) := by decide +kernel
theorem d_Mod_finish_33 : decode b_Mod_finish 33 = .ok (.istore 4, 2) := by decide +kernel
theorem d_Mod_finish_35 : decode b_Mod_finish 35 = .ok (.aload_n 0, 1) := by decide +kernel
theorem d_Mod_finish_36 : decode b_Mod_finish 36 = .ok (.getfield 16, 3) := by decide +kernel
theorem d_Mod_finish_39 : decode b_Mod_finish 39 = .ok (.iload_n 3, 1) := by decide +kernel
theorem d_Mod_finish_40 : decode b_Mod_finish 40 = .ok (.iaload, 1) := by decide +kernel
theorem d_Mod_finish_41 : decode b_Mod_finish 41 = .ok (.iload_n 2, 1) := by decide +kernel
theorem d_Mod_finish_42 : decode b_Mod_finish 42 = .ok (.if_icmp .ne 36, 3) := by decide +kernel
theorem d_Mod_finish_45 : decode b_Mod_finish 45 = .ok (.iload 4, 2) := by decide +kernel
theorem d_Mod_finish_47 : decode b_Mod_finish 47 = .ok (.iconst 2, 1) := by decide +kernel
theorem d_Mod_finish_48 : decode b_Mod_finish 48 = .ok (.if_icmp .eq 18, 3) := by decide +kernel
theorem d_Mod_finish_51 : decode b_Mod_finish 51 = .ok (.iload 4, 2) := by decide +kernel
theorem d_Mod_finish_53 : decode b_Mod_finish 53 = .ok (.iconst 1, 1) := by decide +kernel
theorem d_Mod_finish_54 : decode b_Mod_finish 54 = .ok (.if_icmp .ne 24, 3) := by decide +kernel
theorem d_Mod_finish_57 : decode b_Mod_finish 57 = .ok (.aload_n 0, 1) := by decide +kernel
theorem d_Mod_finish_58 : decode b_Mod_finish 58 = .ok (.getfield 13, 3) := by decide +kernel
theorem d_Mod_finish_61 : decode b_Mod_finish 61 = .ok (.iload_n 3, 1) := by decide +kernel
theorem d_Mod_finish_62 : decode b_Mod_finish 62 = .ok (.iaload, 1) := by decide +kernel
theorem d_Mod_finish_63 : decode b_Mod_finish 63 = .ok (.ifCond .ne 15, 3) := by decide +kernel
theorem d_Mod_finish_66 : decode b_Mod_finish 66 = .ok (.aload_n 0, 1) := by decide +kernel
theorem d_Mod_finish_67 : decode b_Mod_finish 67 = .ok (.getfield 25, 3) := by decide +kernel
theorem d_Mod_finish_70 : decode b_Mod_finish 70 = .ok (.iload_n 1, 1) := by decide +kernel
theorem d_Mod_finish_71 : decode b_Mod_finish 71 = .ok (.iconst 0, 1) := by decide +kernel
theorem d_Mod_finish_72 : decode b_Mod_finish 72 = .ok (.iastore, 1) := by decide +kernel
theorem d_Mod_finish_73 : decode b_Mod_finish 73 = .ok (.aload_n 0, 1) := by decide +kernel
theorem d_Mod_finish_74 : decode b_Mod_finish 74 = .ok (.iload_n 1, 1) := by decide +kernel
theorem d_Mod_finish_75 : decode b_Mod_finish 75 = .ok (.invokevirtual 111, 3) := by decide +kernel
theorem d_Mod_finish_78 : decode b_Mod_finish 78 = .ok (.return_, 1) := by decide +kernel
theorem d_Mod_sharers_0 : decode b_Mod_sharers 0 = .ok (.iconst 0, 1) := by decide +kernel
theorem d_Mod_sharers_1 : decode b_Mod_sharers 1 = .ok (.istore_n 3, 1) := by decide +kernel
theorem d_Mod_sharers_2 : decode b_Mod_sharers 2 = .ok (.iconst 0, 1) := by decide +kernel
theorem d_Mod_sharers_3 : decode b_Mod_sharers 3 = .ok (.istore 4, 2) := by decide +kernel
theorem d_Mod_sharers_5 : decode b_Mod_sharers 5 = .ok (.iload 4, 2) := by decide +kernel
theorem d_Mod_sharers_7 : decode b_Mod_sharers 7 = .ok (.iconst 4, 1) := by decide +kernel
theorem d_Mod_sharers_8 : decode b_Mod_sharers 8 = .ok (.if_icmp .ge 37, 3) := by decide +kernel
theorem d_Mod_sharers_11 : decode b_Mod_sharers 11 = .ok (.aload_n 0, 1) := by decide +kernel
theorem d_Mod_sharers_12 : decode b_Mod_sharers 12 = .ok (.getfield 49, 3) := by decide +kernel
theorem d_Mod_sharers_15 : decode b_Mod_sharers 15 = .ok (.iconst 4, 1) := by decide +kernel
theorem d_Mod_sharers_16 : decode b_Mod_sharers 16 = .ok (.iload_n 1, 1) := by decide +kernel
theorem d_Mod_sharers_17 : decode b_Mod_sharers 17 = .ok (.imul, 1) := by decide +kernel
theorem d_Mod_sharers_18 : decode b_Mod_sharers 18 = .ok (.iload 4, 2) := by decide +kernel
theorem d_Mod_sharers_20 : decode b_Mod_sharers 20 = .ok (.iadd, 1) := by decide +kernel
theorem d_Mod_sharers_21 : decode b_Mod_sharers 21 = .ok (.baload, 1) := by decide +kernel
theorem d_Mod_sharers_22 : decode b_Mod_sharers 22 = .ok (.ifCond .eq 15, 3) := by decide +kernel
theorem d_Mod_sharers_25 : decode b_Mod_sharers 25 = .ok (.iload 4, 2) := by decide +kernel
theorem d_Mod_sharers_27 : decode b_Mod_sharers 27 = .ok (.iload_n 2, 1) := by decide +kernel
theorem d_Mod_sharers_28 : decode b_Mod_sharers 28 = .ok (.if_icmp .eq 9, 3) := by decide +kernel
theorem d_Mod_sharers_31 : decode b_Mod_sharers 31 = .ok (.iload_n 3, 1) := by decide +kernel
theorem d_Mod_sharers_32 : decode b_Mod_sharers 32 = .ok (.iconst 1, 1) := by decide +kernel
theorem d_Mod_sharers_33 : decode b_Mod_sharers 33 = .ok (.iadd, 1) := by decide +kernel
theorem d_Mod_sharers_34 : decode b_Mod_sharers 34 = .ok (.goto 4, 3) := by decide +kernel
theorem d_Mod_sharers_37 : decode b_Mod_sharers 37 = .ok (.iload_n 3, 1) := by decide +kernel
theorem d_Mod_sharers_38 : decode b_Mod_sharers 38 = .ok (.istore_n 3, 1) := by decide +kernel
theorem d_Mod_sharers_39 : decode b_Mod_sharers 39 = .ok (.iinc 4 1, 3) := by decide +kernel
theorem d_Mod_sharers_42 : decode b_Mod_sharers 42 = .ok (.goto (-37), 3) := by decide +kernel
theorem d_Mod_sharers_45 : decode b_Mod_sharers 45 = .ok (.iload_n 3, 1) := by decide +kernel
theorem d_Mod_sharers_46 : decode b_Mod_sharers 46 = .ok (.ireturn, 1) := by decide +kernel
theorem d_Mod_atHome_0 : decode b_Mod_atHome 0 = .ok (.iload_n 1, 1) := by decide +kernel
theorem d_Mod_atHome_1 : decode b_Mod_atHome 1 = .ok (.ifCond .ne 12, 3) := by decide +kernel
theorem d_Mod_atHome_4 : decode b_Mod_atHome 4 = .ok (.aload_n 0, 1) := by decide +kernel
theorem d_Mod_atHome_5 : decode b_Mod_atHome 5 = .ok (.iload_n 2, 1) := by decide +kernel
theorem d_Mod_atHome_6 : decode b_Mod_atHome 6 = .ok (.iload_n 3, 1) := by decide +kernel
theorem d_Mod_atHome_7 : decode b_Mod_atHome 7 = .ok (.invokevirtual 151, 3) := by decide +kernel
theorem d_Mod_atHome_10 : decode b_Mod_atHome 10 = .ok (.goto 174, 3) := by decide +kernel
theorem d_Mod_atHome_13 : decode b_Mod_atHome 13 = .ok (.iload_n 1, 1) := by decide +kernel
theorem d_Mod_atHome_14 : decode b_Mod_atHome 14 = .ok (.iconst 1, 1) := by decide +kernel
theorem d_Mod_atHome_15 : decode b_Mod_atHome 15 = .ok (.if_icmp .ne 12, 3) := by decide +kernel
theorem d_Mod_atHome_18 : decode b_Mod_atHome 18 = .ok (.aload_n 0, 1) := by decide +kernel
theorem d_Mod_atHome_19 : decode b_Mod_atHome 19 = .ok (.iload_n 2, 1) := by decide +kernel
theorem d_Mod_atHome_20 : decode b_Mod_atHome 20 = .ok (.iload_n 3, 1) := by decide +kernel
theorem d_Mod_atHome_21 : decode b_Mod_atHome 21 = .ok (.invokevirtual 154, 3) := by decide +kernel
theorem d_Mod_atHome_24 : decode b_Mod_atHome 24 = .ok (.goto 160, 3) := by decide +kernel
theorem d_Mod_atHome_27 : decode b_Mod_atHome 27 = .ok (.iload_n 1, 1) := by decide +kernel
theorem d_Mod_atHome_28 : decode b_Mod_atHome 28 = .ok (.bipush 8, 2) := by decide +kernel
theorem d_Mod_atHome_30 : decode b_Mod_atHome 30 = .ok (.if_icmp .ne 34, 3) := by decide +kernel
theorem d_Mod_atHome_33 : decode b_Mod_atHome 33 = .ok (.aload_n 0, 1) := by decide +kernel
theorem d_Mod_atHome_34 : decode b_Mod_atHome 34 = .ok (.getfield 40, 3) := by decide +kernel
theorem d_Mod_atHome_37 : decode b_Mod_atHome 37 = .ok (.iload_n 3, 1) := by decide +kernel
theorem d_Mod_atHome_38 : decode b_Mod_atHome 38 = .ok (.iload 4, 2) := by decide +kernel
theorem d_Mod_atHome_40 : decode b_Mod_atHome 40 = .ok (.iastore, 1) := by decide +kernel
theorem d_Mod_atHome_41 : decode b_Mod_atHome 41 = .ok (.aload_n 0, 1) := by decide +kernel
theorem d_Mod_atHome_42 : decode b_Mod_atHome 42 = .ok (.getfield 43, 3) := by decide +kernel
theorem d_Mod_atHome_45 : decode b_Mod_atHome 45 = .ok (.iload_n 3, 1) := by decide +kernel
theorem d_Mod_atHome_46 : decode b_Mod_atHome 46 = .ok (.aload_n 0, 1) := by decide +kernel
theorem d_Mod_atHome_47 : decode b_Mod_atHome 47 = .ok (.iload_n 3, 1) := by decide +kernel
theorem d_Mod_atHome_48 : decode b_Mod_atHome 48 = .ok (.iconst (-1), 1) := by decide +kernel
theorem d_Mod_atHome_49 : decode b_Mod_atHome 49 = .ok (.invokevirtual 157, 3) := by decide +kernel
theorem d_Mod_atHome_52 : decode b_Mod_atHome 52 = .ok (.ifCond .ne 7, 3) := by decide +kernel
theorem d_Mod_atHome_55 : decode b_Mod_atHome 55 = .ok (.iconst 0, 1) := by decide +kernel
theorem d_Mod_atHome_56 : decode b_Mod_atHome 56 = .ok (.goto 4, 3) := by decide +kernel
theorem d_Mod_atHome_59 : decode b_Mod_atHome 59 = .ok (.iconst 1, 1) := by decide +kernel
theorem d_Mod_atHome_60 : decode b_Mod_atHome 60 = .ok (.iastore, 1) := by decide +kernel
theorem d_Mod_atHome_61 : decode b_Mod_atHome 61 = .ok (.goto 123, 3) := by decide +kernel
theorem d_Mod_atHome_64 : decode b_Mod_atHome 64 = .ok (.iload_n 1, 1) := by decide +kernel
theorem d_Mod_atHome_65 : decode b_Mod_atHome 65 = .ok (.iconst 3, 1) := by decide +kernel
theorem d_Mod_atHome_66 : decode b_Mod_atHome 66 = .ok (.if_icmp .ne 27, 3) := by decide +kernel
theorem d_Mod_atHome_69 : decode b_Mod_atHome 69 = .ok (.aload_n 0, 1) := by decide +kernel
theorem d_Mod_atHome_70 : decode b_Mod_atHome 70 = .ok (.getfield 43, 3) := by decide +kernel
theorem d_Mod_atHome_73 : decode b_Mod_atHome 73 = .ok (.iload_n 3, 1) := by decide +kernel
theorem d_Mod_atHome_74 : decode b_Mod_atHome 74 = .ok (.iaload, 1) := by decide +kernel
theorem d_Mod_atHome_75 : decode b_Mod_atHome 75 = .ok (.iconst 2, 1) := by decide +kernel
theorem d_Mod_atHome_76 : decode b_Mod_atHome 76 = .ok (.if_icmp .ne 17, 3) := by decide +kernel
theorem d_Mod_atHome_79 : decode b_Mod_atHome 79 = .ok (.aload_n 0, 1) := by decide +kernel
theorem d_Mod_atHome_80 : decode b_Mod_atHome 80 = .ok (.getfield 46, 3) := by decide +kernel
theorem d_Mod_atHome_83 : decode b_Mod_atHome 83 = .ok (.iload_n 3, 1) := by decide +kernel
theorem d_Mod_atHome_84 : decode b_Mod_atHome 84 = .ok (.iaload, 1) := by decide +kernel
theorem d_Mod_atHome_85 : decode b_Mod_atHome 85 = .ok (.iload_n 2, 1) := by decide +kernel
theorem d_Mod_atHome_86 : decode b_Mod_atHome 86 = .ok (.if_icmp .ne 7, 3) := by decide +kernel
theorem d_Mod_atHome_89 : decode b_Mod_atHome 89 = .ok (.iconst 1, 1) := by decide +kernel
theorem d_Mod_atHome_90 : decode b_Mod_atHome 90 = .ok (.goto 4, 3) := by decide +kernel
theorem d_Mod_atHome_93 : decode b_Mod_atHome 93 = .ok (.iconst 0, 1) := by decide +kernel
theorem d_Mod_atHome_94 : decode b_Mod_atHome 94 = .ok (.istore 5, 2) := by decide +kernel
theorem d_Mod_atHome_96 : decode b_Mod_atHome 96 = .ok (.iload 5, 2) := by decide +kernel
theorem d_Mod_atHome_98 : decode b_Mod_atHome 98 = .ok (.ifCond .eq 28, 3) := by decide +kernel
theorem d_Mod_atHome_101 : decode b_Mod_atHome 101 = .ok (.aload_n 0, 1) := by decide +kernel
theorem d_Mod_atHome_102 : decode b_Mod_atHome 102 = .ok (.getfield 40, 3) := by decide +kernel
theorem d_Mod_atHome_105 : decode b_Mod_atHome 105 = .ok (.iload_n 3, 1) := by decide +kernel
theorem d_Mod_atHome_106 : decode b_Mod_atHome 106 = .ok (.iload 4, 2) := by decide +kernel
theorem d_Mod_atHome_108 : decode b_Mod_atHome 108 = .ok (.iastore, 1) := by decide +kernel
theorem d_Mod_atHome_109 : decode b_Mod_atHome 109 = .ok (.aload_n 0, 1) := by decide +kernel
theorem d_Mod_atHome_110 : decode b_Mod_atHome 110 = .ok (.getfield 46, 3) := by decide +kernel
theorem d_Mod_atHome_113 : decode b_Mod_atHome 113 = .ok (.iload_n 3, 1) := by decide +kernel
theorem d_Mod_atHome_114 : decode b_Mod_atHome 114 = .ok (.iconst (-1), 1) := by decide +kernel
theorem d_Mod_atHome_115 : decode b_Mod_atHome 115 = .ok (.iastore, 1) := by decide +kernel
theorem d_Mod_atHome_116 : decode b_Mod_atHome 116 = .ok (.aload_n 0, 1) := by decide +kernel
theorem d_Mod_atHome_117 : decode b_Mod_atHome 117 = .ok (.getfield 43, 3) := by decide +kernel
theorem d_Mod_atHome_120 : decode b_Mod_atHome 120 = .ok (.iload_n 3, 1) := by decide +kernel
theorem d_Mod_atHome_121 : decode b_Mod_atHome 121 = .ok (.iconst 0, 1) := by decide +kernel
theorem d_Mod_atHome_122 : decode b_Mod_atHome 122 = .ok (.iastore, 1) := by decide +kernel
theorem d_Mod_atHome_123 : decode b_Mod_atHome 123 = .ok (.goto 49, 3) := by decide +kernel
theorem d_Mod_atHome_126 : decode b_Mod_atHome 126 = .ok (.aload_n 0, 1) := by decide +kernel
theorem d_Mod_atHome_127 : decode b_Mod_atHome 127 = .ok (.getfield 49, 3) := by decide +kernel
theorem d_Mod_atHome_130 : decode b_Mod_atHome 130 = .ok (.iconst 4, 1) := by decide +kernel
theorem d_Mod_atHome_131 : decode b_Mod_atHome 131 = .ok (.iload_n 3, 1) := by decide +kernel
theorem d_Mod_atHome_132 : decode b_Mod_atHome 132 = .ok (.imul, 1) := by decide +kernel
theorem d_Mod_atHome_133 : decode b_Mod_atHome 133 = .ok (.iload_n 2, 1) := by decide +kernel
theorem d_Mod_atHome_134 : decode b_Mod_atHome 134 = .ok (.iadd, 1) := by decide +kernel
theorem d_Mod_atHome_135 : decode b_Mod_atHome 135 = .ok (.iconst 0, 1) := by decide +kernel
theorem d_Mod_atHome_136 : decode b_Mod_atHome 136 = .ok (.bastore, 1) := by decide +kernel
theorem d_Mod_atHome_137 : decode b_Mod_atHome 137 = .ok (.aload_n 0, 1) := by decide +kernel
theorem d_Mod_atHome_138 : decode b_Mod_atHome 138 = .ok (.getfield 43, 3) := by decide +kernel
theorem d_Mod_atHome_141 : decode b_Mod_atHome 141 = .ok (.iload_n 3, 1) := by decide +kernel
theorem d_Mod_atHome_142 : decode b_Mod_atHome 142 = .ok (.aload_n 0, 1) := by decide +kernel
theorem d_Mod_atHome_143 : decode b_Mod_atHome 143 = .ok (.getfield 43, 3) := by decide +kernel
theorem d_Mod_atHome_146 : decode b_Mod_atHome 146 = .ok (.iload_n 3, 1) := by decide +kernel
theorem d_Mod_atHome_147 : decode b_Mod_atHome 147 = .ok (.iaload, 1) := by decide +kernel
theorem d_Mod_atHome_148 : decode b_Mod_atHome 148 = .ok (.iconst 1, 1) := by decide +kernel
theorem d_Mod_atHome_149 : decode b_Mod_atHome 149 = .ok (.if_icmp .ne 16, 3) := by decide +kernel
theorem d_Mod_atHome_152 : decode b_Mod_atHome 152 = .ok (.aload_n 0, 1) := by decide +kernel
theorem d_Mod_atHome_153 : decode b_Mod_atHome 153 = .ok (.iload_n 3, 1) := by decide +kernel
theorem d_Mod_atHome_154 : decode b_Mod_atHome 154 = .ok (.iconst (-1), 1) := by decide +kernel
theorem d_Mod_atHome_155 : decode b_Mod_atHome 155 = .ok (.invokevirtual 157, 3) := by decide +kernel
theorem d_Mod_atHome_158 : decode b_Mod_atHome 158 = .ok (.ifCond .ne 7, 3) := by decide +kernel
theorem d_Mod_atHome_161 : decode b_Mod_atHome 161 = .ok (.iconst 0, 1) := by decide +kernel
theorem d_Mod_atHome_162 : decode b_Mod_atHome 162 = .ok (.goto 9, 3) := by decide +kernel
theorem d_Mod_atHome_165 : decode b_Mod_atHome 165 = .ok (.aload_n 0, 1) := by decide +kernel
theorem d_Mod_atHome_166 : decode b_Mod_atHome 166 = .ok (.getfield 43, 3) := by decide +kernel
theorem d_Mod_atHome_169 : decode b_Mod_atHome 169 = .ok (.iload_n 3, 1) := by decide +kernel
theorem d_Mod_atHome_170 : decode b_Mod_atHome 170 = .ok (.iaload, 1) := by decide +kernel
theorem d_Mod_atHome_171 : decode b_Mod_atHome 171 = .ok (.iastore, 1) := by decide +kernel
theorem d_Mod_atHome_172 : decode b_Mod_atHome 172 = .ok (.aload_n 0, 1) := by decide +kernel
theorem d_Mod_atHome_173 : decode b_Mod_atHome 173 = .ok (.bipush 7, 2) := by decide +kernel
theorem d_Mod_atHome_175 : decode b_Mod_atHome 175 = .ok (.iconst 4, 1) := by decide +kernel
theorem d_Mod_atHome_176 : decode b_Mod_atHome 176 = .ok (.iload_n 2, 1) := by decide +kernel
theorem d_Mod_atHome_177 : decode b_Mod_atHome 177 = .ok (.iload_n 3, 1) := by decide +kernel
theorem d_Mod_atHome_178 : decode b_Mod_atHome 178 = .ok (.iconst 0, 1) := by decide +kernel
theorem d_Mod_atHome_179 : decode b_Mod_atHome 179 = .ok (.iconst 0, 1) := by decide +kernel
theorem d_Mod_atHome_180 : decode b_Mod_atHome 180 = .ok (.iconst (-1), 1) := by decide +kernel
theorem d_Mod_atHome_181 : decode b_Mod_atHome 181 = .ok (.invokevirtual 97, 3) := by decide +kernel
theorem d_Mod_atHome_184 : decode b_Mod_atHome 184 = .ok (.return_, 1) := by decide +kernel
theorem d_Mod_gets_0 : decode b_Mod_gets 0 = .ok (.aload_n 0, 1) := by decide +kernel
theorem d_Mod_gets_1 : decode b_Mod_gets 1 = .ok (.getfield 43, 3) := by decide +kernel
theorem d_Mod_gets_4 : decode b_Mod_gets 4 = .ok (.iload_n 2, 1) := by decide +kernel
theorem d_Mod_gets_5 : decode b_Mod_gets 5 = .ok (.iaload, 1) := by decide +kernel
theorem d_Mod_gets_6 : decode b_Mod_gets 6 = .ok (.iconst 2, 1) := by decide +kernel
theorem d_Mod_gets_7 : decode b_Mod_gets 7 = .ok (.if_icmp .ne 52, 3) := by decide +kernel
theorem d_Mod_gets_10 : decode b_Mod_gets 10 = .ok (.aload_n 0, 1) := by decide +kernel
theorem d_Mod_gets_11 : decode b_Mod_gets 11 = .ok (.iconst 4, 1) := by decide +kernel
theorem d_Mod_gets_12 : decode b_Mod_gets 12 = .ok (.iconst 4, 1) := by decide +kernel
theorem d_Mod_gets_13 : decode b_Mod_gets 13 = .ok (.aload_n 0, 1) := by decide +kernel
theorem d_Mod_gets_14 : decode b_Mod_gets 14 = .ok (.getfield 46, 3) := by decide +kernel
theorem d_Mod_gets_17 : decode b_Mod_gets 17 = .ok (.iload_n 2, 1) := by decide +kernel
theorem d_Mod_gets_18 : decode b_Mod_gets 18 = .ok (.iaload, 1) := by decide +kernel
theorem d_Mod_gets_19 : decode b_Mod_gets 19 = .ok (.iload_n 2, 1) := by decide +kernel
theorem d_Mod_gets_20 : decode b_Mod_gets 20 = .ok (.iconst 0, 1) := by decide +kernel
theorem d_Mod_gets_21 : decode b_Mod_gets 21 = .ok (.iconst 0, 1) := by decide +kernel
theorem d_Mod_gets_22 : decode b_Mod_gets 22 = .ok (.iload_n 1, 1) := by decide +kernel
theorem d_Mod_gets_23 : decode b_Mod_gets 23 = .ok (.invokevirtual 97, 3) := by decide +kernel
theorem d_Mod_gets_26 : decode b_Mod_gets 26 = .ok (.aload_n 0, 1) := by decide +kernel
theorem d_Mod_gets_27 : decode b_Mod_gets 27 = .ok (.getfield 49, 3) := by decide +kernel
theorem d_Mod_gets_30 : decode b_Mod_gets 30 = .ok (.iconst 4, 1) := by decide +kernel
theorem d_Mod_gets_31 : decode b_Mod_gets 31 = .ok (.iload_n 2, 1) := by decide +kernel
theorem d_Mod_gets_32 : decode b_Mod_gets 32 = .ok (.imul, 1) := by decide +kernel
theorem d_Mod_gets_33 : decode b_Mod_gets 33 = .ok (.aload_n 0, 1) := by decide +kernel
theorem d_Mod_gets_34 : decode b_Mod_gets 34 = .ok (.getfield 46, 3) := by decide +kernel
theorem d_Mod_gets_37 : decode b_Mod_gets 37 = .ok (.iload_n 2, 1) := by decide +kernel
theorem d_Mod_gets_38 : decode b_Mod_gets 38 = .ok (.iaload, 1) := by decide +kernel
theorem d_Mod_gets_39 : decode b_Mod_gets 39 = .ok (.iadd, 1) := by decide +kernel
theorem d_Mod_gets_40 : decode b_Mod_gets 40 = .ok (.iconst 1, 1) := by decide +kernel
theorem d_Mod_gets_41 : decode b_Mod_gets 41 = .ok (.bastore, 1) := by decide +kernel
theorem d_Mod_gets_42 : decode b_Mod_gets 42 = .ok (.aload_n 0, 1) := by decide +kernel
theorem d_Mod_gets_43 : decode b_Mod_gets 43 = .ok (.getfield 46, 3) := by decide +kernel
theorem d_Mod_gets_46 : decode b_Mod_gets 46 = .ok (.iload_n 2, 1) := by decide +kernel
theorem d_Mod_gets_47 : decode b_Mod_gets 47 = .ok (.iconst (-1), 1) := by decide +kernel
theorem d_Mod_gets_48 : decode b_Mod_gets 48 = .ok (.iastore, 1) := by decide +kernel
theorem d_Mod_gets_49 : decode b_Mod_gets 49 = .ok (.aload_n 0, 1) := by decide +kernel
theorem d_Mod_gets_50 : decode b_Mod_gets 50 = .ok (.getfield 43, 3) := by decide +kernel
theorem d_Mod_gets_53 : decode b_Mod_gets 53 = .ok (.iload_n 2, 1) := by decide +kernel
theorem d_Mod_gets_54 : decode b_Mod_gets 54 = .ok (.iconst 3, 1) := by decide +kernel
theorem d_Mod_gets_55 : decode b_Mod_gets 55 = .ok (.iastore, 1) := by decide +kernel
theorem d_Mod_gets_56 : decode b_Mod_gets 56 = .ok (.goto 24, 3) := by decide +kernel
theorem d_Mod_gets_59 : decode b_Mod_gets 59 = .ok (.aload_n 0, 1) := by decide +kernel
theorem d_Mod_gets_60 : decode b_Mod_gets 60 = .ok (.iconst 4, 1) := by decide +kernel
theorem d_Mod_gets_61 : decode b_Mod_gets 61 = .ok (.iload_n 1, 1) := by decide +kernel
theorem d_Mod_gets_62 : decode b_Mod_gets 62 = .ok (.iload_n 2, 1) := by decide +kernel
theorem d_Mod_gets_63 : decode b_Mod_gets 63 = .ok (.aload_n 0, 1) := by decide +kernel
theorem d_Mod_gets_64 : decode b_Mod_gets 64 = .ok (.getfield 40, 3) := by decide +kernel
theorem d_Mod_gets_67 : decode b_Mod_gets 67 = .ok (.iload_n 2, 1) := by decide +kernel
theorem d_Mod_gets_68 : decode b_Mod_gets 68 = .ok (.iaload, 1) := by decide +kernel
theorem d_Mod_gets_69 : decode b_Mod_gets 69 = .ok (.iconst 0, 1) := by decide +kernel
theorem d_Mod_gets_70 : decode b_Mod_gets 70 = .ok (.invokevirtual 147, 3) := by decide +kernel
theorem d_Mod_gets_73 : decode b_Mod_gets 73 = .ok (.aload_n 0, 1) := by decide +kernel
theorem d_Mod_gets_74 : decode b_Mod_gets 74 = .ok (.getfield 43, 3) := by decide +kernel
theorem d_Mod_gets_77 : decode b_Mod_gets 77 = .ok (.iload_n 2, 1) := by decide +kernel
theorem d_Mod_gets_78 : decode b_Mod_gets 78 = .ok (.iconst 1, 1) := by decide +kernel
theorem d_Mod_gets_79 : decode b_Mod_gets 79 = .ok (.iastore, 1) := by decide +kernel
theorem d_Mod_gets_80 : decode b_Mod_gets 80 = .ok (.aload_n 0, 1) := by decide +kernel
theorem d_Mod_gets_81 : decode b_Mod_gets 81 = .ok (.getfield 49, 3) := by decide +kernel
theorem d_Mod_gets_84 : decode b_Mod_gets 84 = .ok (.iconst 4, 1) := by decide +kernel
theorem d_Mod_gets_85 : decode b_Mod_gets 85 = .ok (.iload_n 2, 1) := by decide +kernel
theorem d_Mod_gets_86 : decode b_Mod_gets 86 = .ok (.imul, 1) := by decide +kernel
theorem d_Mod_gets_87 : decode b_Mod_gets 87 = .ok (.iload_n 1, 1) := by decide +kernel
theorem d_Mod_gets_88 : decode b_Mod_gets 88 = .ok (.iadd, 1) := by decide +kernel
theorem d_Mod_gets_89 : decode b_Mod_gets 89 = .ok (.iconst 1, 1) := by decide +kernel
theorem d_Mod_gets_90 : decode b_Mod_gets 90 = .ok (.bastore, 1) := by decide +kernel
theorem d_Mod_gets_91 : decode b_Mod_gets 91 = .ok (.return_, 1) := by decide +kernel
theorem d_Mod_getm_0 : decode b_Mod_getm 0 = .ok (.aload_n 0, 1) := by decide +kernel
theorem d_Mod_getm_1 : decode b_Mod_getm 1 = .ok (.getfield 43, 3) := by decide +kernel
theorem d_Mod_getm_4 : decode b_Mod_getm 4 = .ok (.iload_n 2, 1) := by decide +kernel
theorem d_Mod_getm_5 : decode b_Mod_getm 5 = .ok (.iaload, 1) := by decide +kernel
theorem d_Mod_getm_6 : decode b_Mod_getm 6 = .ok (.iconst 2, 1) := by decide +kernel
theorem d_Mod_getm_7 : decode b_Mod_getm 7 = .ok (.if_icmp .ne 22, 3) := by decide +kernel
theorem d_Mod_getm_10 : decode b_Mod_getm 10 = .ok (.aload_n 0, 1) := by decide +kernel
theorem d_Mod_getm_11 : decode b_Mod_getm 11 = .ok (.iconst 5, 1) := by decide +kernel
theorem d_Mod_getm_12 : decode b_Mod_getm 12 = .ok (.iconst 4, 1) := by decide +kernel
theorem d_Mod_getm_13 : decode b_Mod_getm 13 = .ok (.aload_n 0, 1) := by decide +kernel
theorem d_Mod_getm_14 : decode b_Mod_getm 14 = .ok (.getfield 46, 3) := by decide +kernel
theorem d_Mod_getm_17 : decode b_Mod_getm 17 = .ok (.iload_n 2, 1) := by decide +kernel
theorem d_Mod_getm_18 : decode b_Mod_getm 18 = .ok (.iaload, 1) := by decide +kernel
theorem d_Mod_getm_19 : decode b_Mod_getm 19 = .ok (.iload_n 2, 1) := by decide +kernel
theorem d_Mod_getm_20 : decode b_Mod_getm 20 = .ok (.iconst 0, 1) := by decide +kernel
theorem d_Mod_getm_21 : decode b_Mod_getm 21 = .ok (.iconst 0, 1) := by decide +kernel
theorem d_Mod_getm_22 : decode b_Mod_getm 22 = .ok (.iload_n 1, 1) := by decide +kernel
theorem d_Mod_getm_23 : decode b_Mod_getm 23 = .ok (.invokevirtual 97, 3) := by decide +kernel
theorem d_Mod_getm_26 : decode b_Mod_getm 26 = .ok (.goto 76, 3) := by decide +kernel
theorem d_Mod_getm_29 : decode b_Mod_getm 29 = .ok (.aload_n 0, 1) := by decide +kernel
theorem d_Mod_getm_30 : decode b_Mod_getm 30 = .ok (.iconst 4, 1) := by decide +kernel
theorem d_Mod_getm_31 : decode b_Mod_getm 31 = .ok (.iload_n 1, 1) := by decide +kernel
theorem d_Mod_getm_32 : decode b_Mod_getm 32 = .ok (.iload_n 2, 1) := by decide +kernel
theorem d_Mod_getm_33 : decode b_Mod_getm 33 = .ok (.aload_n 0, 1) := by decide +kernel
theorem d_Mod_getm_34 : decode b_Mod_getm 34 = .ok (.getfield 40, 3) := by decide +kernel
theorem d_Mod_getm_37 : decode b_Mod_getm 37 = .ok (.iload_n 2, 1) := by decide +kernel
theorem d_Mod_getm_38 : decode b_Mod_getm 38 = .ok (.iaload, 1) := by decide +kernel
theorem d_Mod_getm_39 : decode b_Mod_getm 39 = .ok (.aload_n 0, 1) := by decide +kernel
theorem d_Mod_getm_40 : decode b_Mod_getm 40 = .ok (.iload_n 2, 1) := by decide +kernel
theorem d_Mod_getm_41 : decode b_Mod_getm 41 = .ok (.iload_n 1, 1) := by decide +kernel
theorem d_Mod_getm_42 : decode b_Mod_getm 42 = .ok (.invokevirtual 157, 3) := by decide +kernel
theorem d_Mod_getm_45 : decode b_Mod_getm 45 = .ok (.invokevirtual 147, 3) := by decide +kernel
theorem d_Mod_getm_48 : decode b_Mod_getm 48 = .ok (.iconst 0, 1) := by decide +kernel
theorem d_Mod_getm_49 : decode b_Mod_getm 49 = .ok (.istore_n 3, 1) := by decide +kernel
theorem d_Mod_getm_50 : decode b_Mod_getm 50 = .ok (.iload_n 3, 1) := by decide +kernel
theorem d_Mod_getm_51 : decode b_Mod_getm 51 = .ok (.iconst 4, 1) := by decide +kernel
theorem d_Mod_getm_52 : decode b_Mod_getm 52 = .ok (.if_icmp .ge 50, 3) := by decide +kernel
theorem d_Mod_getm_55 : decode b_Mod_getm 55 = .ok (.aload_n 0, 1) := by decide +kernel
theorem d_Mod_getm_56 : decode b_Mod_getm 56 = .ok (.getfield 49, 3) := by decide +kernel
theorem d_Mod_getm_59 : decode b_Mod_getm 59 = .ok (.iconst 4, 1) := by decide +kernel
theorem d_Mod_getm_60 : decode b_Mod_getm 60 = .ok (.iload_n 2, 1) := by decide +kernel
theorem d_Mod_getm_61 : decode b_Mod_getm 61 = .ok (.imul, 1) := by decide +kernel
theorem d_Mod_getm_62 : decode b_Mod_getm 62 = .ok (.iload_n 3, 1) := by decide +kernel
theorem d_Mod_getm_63 : decode b_Mod_getm 63 = .ok (.iadd, 1) := by decide +kernel
theorem d_Mod_getm_64 : decode b_Mod_getm 64 = .ok (.baload, 1) := by decide +kernel
theorem d_Mod_getm_65 : decode b_Mod_getm 65 = .ok (.ifCond .eq 20, 3) := by decide +kernel
theorem d_Mod_getm_68 : decode b_Mod_getm 68 = .ok (.iload_n 3, 1) := by decide +kernel
theorem d_Mod_getm_69 : decode b_Mod_getm 69 = .ok (.iload_n 1, 1) := by decide +kernel
theorem d_Mod_getm_70 : decode b_Mod_getm 70 = .ok (.if_icmp .eq 15, 3) := by decide +kernel
theorem d_Mod_getm_73 : decode b_Mod_getm 73 = .ok (.aload_n 0, 1) := by decide +kernel
theorem d_Mod_getm_74 : decode b_Mod_getm 74 = .ok (.bipush 6, 2) := by decide +kernel
theorem d_Mod_getm_76 : decode b_Mod_getm 76 = .ok (.iconst 4, 1) := by decide +kernel
theorem d_Mod_getm_77 : decode b_Mod_getm 77 = .ok (.iload_n 3, 1) := by decide +kernel
theorem d_Mod_getm_78 : decode b_Mod_getm 78 = .ok (.iload_n 2, 1) := by decide +kernel
theorem d_Mod_getm_79 : decode b_Mod_getm 79 = .ok (.iconst 0, 1) := by decide +kernel
theorem d_Mod_getm_80 : decode b_Mod_getm 80 = .ok (.iconst 0, 1) := by decide +kernel
theorem d_Mod_getm_81 : decode b_Mod_getm 81 = .ok (.iload_n 1, 1) := by decide +kernel
theorem d_Mod_getm_82 : decode b_Mod_getm 82 = .ok (.invokevirtual 97, 3) := by decide +kernel
theorem d_Mod_getm_85 : decode b_Mod_getm 85 = .ok (.aload_n 0, 1) := by decide +kernel
theorem d_Mod_getm_86 : decode b_Mod_getm 86 = .ok (.getfield 49, 3) := by decide +kernel
theorem d_Mod_getm_89 : decode b_Mod_getm 89 = .ok (.iconst 4, 1) := by decide +kernel
theorem d_Mod_getm_90 : decode b_Mod_getm 90 = .ok (.iload_n 2, 1) := by decide +kernel
theorem d_Mod_getm_91 : decode b_Mod_getm 91 = .ok (.imul, 1) := by decide +kernel
theorem d_Mod_getm_92 : decode b_Mod_getm 92 = .ok (.iload_n 3, 1) := by decide +kernel
theorem d_Mod_getm_93 : decode b_Mod_getm 93 = .ok (.iadd, 1) := by decide +kernel
theorem d_Mod_getm_94 : decode b_Mod_getm 94 = .ok (.iconst 0, 1) := by decide +kernel
theorem d_Mod_getm_95 : decode b_Mod_getm 95 = .ok (.bastore, 1) := by decide +kernel
theorem d_Mod_getm_96 : decode b_Mod_getm 96 = .ok (.iinc 3 1, 3) := by decide +kernel
theorem d_Mod_getm_99 : decode b_Mod_getm 99 = .ok (.goto (-49), 3) := by decide +kernel
theorem d_Mod_getm_102 : decode b_Mod_getm 102 = .ok (.aload_n 0, 1) := by decide +kernel
theorem d_Mod_getm_103 : decode b_Mod_getm 103 = .ok (.getfield 46, 3) := by decide +kernel
theorem d_Mod_getm_106 : decode b_Mod_getm 106 = .ok (.iload_n 2, 1) := by decide +kernel
theorem d_Mod_getm_107 : decode b_Mod_getm 107 = .ok (.iload_n 1, 1) := by decide +kernel
theorem d_Mod_getm_108 : decode b_Mod_getm 108 = .ok (.iastore, 1) := by decide +kernel
theorem d_Mod_getm_109 : decode b_Mod_getm 109 = .ok (.aload_n 0, 1) := by decide +kernel
theorem d_Mod_getm_110 : decode b_Mod_getm 110 = .ok (.getfield 43, 3) := by decide +kernel
theorem d_Mod_getm_113 : decode b_Mod_getm 113 = .ok (.iload_n 2, 1) := by decide +kernel
theorem d_Mod_getm_114 : decode b_Mod_getm 114 = .ok (.iconst 2, 1) := by decide +kernel
theorem d_Mod_getm_115 : decode b_Mod_getm 115 = .ok (.iastore, 1) := by decide +kernel
theorem d_Mod_getm_116 : decode b_Mod_getm 116 = .ok (.return_, 1) := by decide +kernel
theorem d_Mod_messages_0 : decode b_Mod_messages 0 = .ok (.aload_n 0, 1) := by decide +kernel
theorem d_Mod_messages_1 : decode b_Mod_messages 1 = .ok (.getfield 91, 3) := by decide +kernel
theorem d_Mod_messages_4 : decode b_Mod_messages 4 = .ok (.ireturn, 1) := by decide +kernel
theorem d_Mod_message_0 : decode b_Mod_message 0 = .ok (.iload_n 1, 1) := by decide +kernel
theorem d_Mod_message_1 : decode b_Mod_message 1 = .ok (.ifCond .lt 21, 3) := by decide +kernel
theorem d_Mod_message_4 : decode b_Mod_message 4 = .ok (.iload_n 1, 1) := by decide +kernel
theorem d_Mod_message_5 : decode b_Mod_message 5 = .ok (.aload_n 0, 1) := by decide +kernel
theorem d_Mod_message_6 : decode b_Mod_message 6 = .ok (.getfield 91, 3) := by decide +kernel
theorem d_Mod_message_9 : decode b_Mod_message 9 = .ok (.if_icmp .ge 13, 3) := by decide +kernel
theorem d_Mod_message_12 : decode b_Mod_message 12 = .ok (.iload_n 2, 1) := by decide +kernel
theorem d_Mod_message_13 : decode b_Mod_message 13 = .ok (.ifCond .lt 9, 3) := by decide +kernel
theorem d_Mod_message_16 : decode b_Mod_message 16 = .ok (.iload_n 2, 1) := by decide +kernel
theorem d_Mod_message_17 : decode b_Mod_message 17 = .ok (.bipush 6, 2) := by decide +kernel
theorem d_Mod_message_19 : decode b_Mod_message 19 = .ok (.if_icmp .le 5, 3) := by decide +kernel
theorem d_Mod_message_22 : decode b_Mod_message 22 = .ok (.iconst (-1), 1) := by decide +kernel
theorem d_Mod_message_23 : decode b_Mod_message 23 = .ok (.ireturn, 1) := by decide +kernel
theorem d_Mod_message_24 : decode b_Mod_message 24 = .ok (.iload_n 2, 1) := by decide +kernel
theorem d_Mod_message_25 : decode b_Mod_message 25 = .ok (.ifCond .ne 12, 3) := by decide +kernel
theorem d_Mod_message_28 : decode b_Mod_message 28 = .ok (.aload_n 0, 1) := by decide +kernel
theorem d_Mod_message_29 : decode b_Mod_message 29 = .ok (.getfield 53, 3) := by decide +kernel
theorem d_Mod_message_32 : decode b_Mod_message 32 = .ok (.iload_n 1, 1) := by decide +kernel
theorem d_Mod_message_33 : decode b_Mod_message 33 = .ok (.iaload, 1) := by decide +kernel
theorem d_Mod_message_34 : decode b_Mod_message 34 = .ok (.goto 37, 3) := by decide +kernel
theorem d_Mod_message_37 : decode b_Mod_message 37 = .ok (.iload_n 2, 1) := by decide +kernel
theorem d_Mod_message_38 : decode b_Mod_message 38 = .ok (.iconst 1, 1) := by decide +kernel
theorem d_Mod_message_39 : decode b_Mod_message 39 = .ok (.if_icmp .ne 12, 3) := by decide +kernel
theorem d_Mod_message_42 : decode b_Mod_message 42 = .ok (.aload_n 0, 1) := by decide +kernel
theorem d_Mod_message_43 : decode b_Mod_message 43 = .ok (.getfield 56, 3) := by decide +kernel
theorem d_Mod_message_46 : decode b_Mod_message 46 = .ok (.iload_n 1, 1) := by decide +kernel
theorem d_Mod_message_47 : decode b_Mod_message 47 = .ok (.iaload, 1) := by decide +kernel
theorem d_Mod_message_48 : decode b_Mod_message 48 = .ok (.goto 23, 3) := by decide +kernel
theorem d_Mod_message_51 : decode b_Mod_message 51 = .ok (.iload_n 2, 1) := by decide +kernel
theorem d_Mod_message_52 : decode b_Mod_message 52 = .ok (.iconst 2, 1) := by decide +kernel
theorem d_Mod_message_53 : decode b_Mod_message 53 = .ok (.if_icmp .ne 12, 3) := by decide +kernel
theorem d_Mod_message_56 : decode b_Mod_message 56 = .ok (.aload_n 0, 1) := by decide +kernel
theorem d_Mod_message_57 : decode b_Mod_message 57 = .ok (.getfield 59, 3) := by decide +kernel
theorem d_Mod_message_60 : decode b_Mod_message 60 = .ok (.iload_n 1, 1) := by decide +kernel
theorem d_Mod_message_61 : decode b_Mod_message 61 = .ok (.iaload, 1) := by decide +kernel
theorem d_Mod_message_62 : decode b_Mod_message 62 = .ok (.goto 9, 3) := by decide +kernel
theorem d_Mod_message_65 : decode b_Mod_message 65 = .ok (.aload_n 0, 1) := by decide +kernel
theorem d_Mod_message_66 : decode b_Mod_message 66 = .ok (.getfield 62, 3) := by decide +kernel
theorem d_Mod_message_69 : decode b_Mod_message 69 = .ok (.iload_n 1, 1) := by decide +kernel
theorem d_Mod_message_70 : decode b_Mod_message 70 = .ok (.iaload, 1) := by decide +kernel
theorem d_Mod_message_71 : decode b_Mod_message 71 = .ok (.istore_n 3, 1) := by decide +kernel
theorem d_Mod_message_72 : decode b_Mod_message 72 = .ok (.iload_n 2, 1) := by decide +kernel
theorem d_Mod_message_73 : decode b_Mod_message 73 = .ok (.iconst 4, 1) := by decide +kernel
theorem d_Mod_message_74 : decode b_Mod_message 74 = .ok (.if_icmp .ge 7, 3) := by decide +kernel
theorem d_Mod_message_77 : decode b_Mod_message 77 = .ok (.iload_n 3, 1) := by decide +kernel
theorem d_Mod_message_78 : decode b_Mod_message 78 = .ok (.goto 37, 3) := by decide +kernel
theorem d_Mod_message_81 : decode b_Mod_message 81 = .ok (.iload_n 2, 1) := by decide +kernel
theorem d_Mod_message_82 : decode b_Mod_message 82 = .ok (.iconst 4, 1) := by decide +kernel
theorem d_Mod_message_83 : decode b_Mod_message 83 = .ok (.if_icmp .ne 12, 3) := by decide +kernel
theorem d_Mod_message_86 : decode b_Mod_message 86 = .ok (.aload_n 0, 1) := by decide +kernel
theorem d_Mod_message_87 : decode b_Mod_message 87 = .ok (.getfield 65, 3) := by decide +kernel
theorem d_Mod_message_90 : decode b_Mod_message 90 = .ok (.iload_n 1, 1) := by decide +kernel
theorem d_Mod_message_91 : decode b_Mod_message 91 = .ok (.iaload, 1) := by decide +kernel
theorem d_Mod_message_92 : decode b_Mod_message 92 = .ok (.goto 23, 3) := by decide +kernel
theorem d_Mod_message_95 : decode b_Mod_message 95 = .ok (.iload_n 2, 1) := by decide +kernel
theorem d_Mod_message_96 : decode b_Mod_message 96 = .ok (.iconst 5, 1) := by decide +kernel
theorem d_Mod_message_97 : decode b_Mod_message 97 = .ok (.if_icmp .ne 12, 3) := by decide +kernel
theorem d_Mod_message_100 : decode b_Mod_message 100 = .ok (.aload_n 0, 1) := by decide +kernel
theorem d_Mod_message_101 : decode b_Mod_message 101 = .ok (.getfield 68, 3) := by decide +kernel
theorem d_Mod_message_104 : decode b_Mod_message 104 = .ok (.iload_n 1, 1) := by decide +kernel
theorem d_Mod_message_105 : decode b_Mod_message 105 = .ok (.iaload, 1) := by decide +kernel
theorem d_Mod_message_106 : decode b_Mod_message 106 = .ok (.goto 9, 3) := by decide +kernel
theorem d_Mod_message_109 : decode b_Mod_message 109 = .ok (.aload_n 0, 1) := by decide +kernel
theorem d_Mod_message_110 : decode b_Mod_message 110 = .ok (.getfield 71, 3) := by decide +kernel
theorem d_Mod_message_113 : decode b_Mod_message 113 = .ok (.iload_n 1, 1) := by decide +kernel
theorem d_Mod_message_114 : decode b_Mod_message 114 = .ok (.iaload, 1) := by decide +kernel
theorem d_Mod_message_115 : decode b_Mod_message 115 = .ok (.ireturn, 1) := by decide +kernel
theorem d_Mod_line_0 : decode b_Mod_line 0 = .ok (.aload_n 0, 1) := by decide +kernel
theorem d_Mod_line_1 : decode b_Mod_line 1 = .ok (.iload_n 1, 1) := by decide +kernel
theorem d_Mod_line_2 : decode b_Mod_line 2 = .ok (.invokevirtual 81, 3) := by decide +kernel
theorem d_Mod_line_5 : decode b_Mod_line 5 = .ok (.ifCond .eq 23, 3) := by decide +kernel
theorem d_Mod_line_8 : decode b_Mod_line 8 = .ok (.iload_n 2, 1) := by decide +kernel
theorem d_Mod_line_9 : decode b_Mod_line 9 = .ok (.invokestatic 88, 3) := by decide +kernel
theorem d_Mod_line_12 : decode b_Mod_line 12 = .ok (.ifCond .eq 16, 3) := by decide +kernel
theorem d_Mod_line_15 : decode b_Mod_line 15 = .ok (.aload_n 0, 1) := by decide +kernel
theorem d_Mod_line_16 : decode b_Mod_line 16 = .ok (.getfield 28, 3) := by decide +kernel
theorem d_Mod_line_19 : decode b_Mod_line 19 = .ok (.iconst 4, 1) := by decide +kernel
theorem d_Mod_line_20 : decode b_Mod_line 20 = .ok (.iload_n 1, 1) := by decide +kernel
theorem d_Mod_line_21 : decode b_Mod_line 21 = .ok (.imul, 1) := by decide +kernel
theorem d_Mod_line_22 : decode b_Mod_line 22 = .ok (.iload_n 2, 1) := by decide +kernel
theorem d_Mod_line_23 : decode b_Mod_line 23 = .ok (.iadd, 1) := by decide +kernel
theorem d_Mod_line_24 : decode b_Mod_line 24 = .ok (.iaload, 1) := by decide +kernel
theorem d_Mod_line_25 : decode b_Mod_line 25 = .ok (.goto 4, 3) := by decide +kernel
theorem d_Mod_line_28 : decode b_Mod_line 28 = .ok (.iconst (-1), 1) := by decide +kernel
theorem d_Mod_line_29 : decode b_Mod_line 29 = .ok (.ireturn, 1) := by decide +kernel
theorem d_Mod_word_0 : decode b_Mod_word 0 = .ok (.aload_n 0, 1) := by decide +kernel
theorem d_Mod_word_1 : decode b_Mod_word 1 = .ok (.iload_n 1, 1) := by decide +kernel
theorem d_Mod_word_2 : decode b_Mod_word 2 = .ok (.invokevirtual 81, 3) := by decide +kernel
theorem d_Mod_word_5 : decode b_Mod_word 5 = .ok (.ifCond .eq 10, 3) := by decide +kernel
theorem d_Mod_word_8 : decode b_Mod_word 8 = .ok (.iload_n 2, 1) := by decide +kernel
theorem d_Mod_word_9 : decode b_Mod_word 9 = .ok (.invokestatic 88, 3) := by decide +kernel
theorem d_Mod_word_12 : decode b_Mod_word 12 = .ok (.ifCond .ne 5, 3) := by decide +kernel
theorem d_Mod_word_15 : decode b_Mod_word 15 = .ok (.iconst 0, 1) := by decide +kernel
theorem d_Mod_word_16 : decode b_Mod_word 16 = .ok (.ireturn, 1) := by decide +kernel
theorem d_Mod_word_17 : decode b_Mod_word 17 = .ok (.aload_n 0, 1) := by decide +kernel
theorem d_Mod_word_18 : decode b_Mod_word 18 = .ok (.getfield 28, 3) := by decide +kernel
theorem d_Mod_word_21 : decode b_Mod_word 21 = .ok (.iconst 4, 1) := by decide +kernel
theorem d_Mod_word_22 : decode b_Mod_word 22 = .ok (.iload_n 1, 1) := by decide +kernel
theorem d_Mod_word_23 : decode b_Mod_word 23 = .ok (.imul, 1) := by decide +kernel
theorem d_Mod_word_24 : decode b_Mod_word 24 = .ok (.iload_n 2, 1) := by decide +kernel
theorem d_Mod_word_25 : decode b_Mod_word 25 = .ok (.iadd, 1) := by decide +kernel
theorem d_Mod_word_26 : decode b_Mod_word 26 = .ok (.iaload, 1) := by decide +kernel
theorem d_Mod_word_27 : decode b_Mod_word 27 = .ok (.istore_n 3, 1) := by decide +kernel
theorem d_Mod_word_28 : decode b_Mod_word 28 = .ok (.iload_n 3, 1) := by decide +kernel
theorem d_Mod_word_29 : decode b_Mod_word 29 = .ok (.iconst 1, 1) := by decide +kernel
theorem d_Mod_word_30 : decode b_Mod_word 30 = .ok (.if_icmp .eq 32, 3) := by decide +kernel
theorem d_Mod_word_33 : decode b_Mod_word 33 = .ok (.iload_n 3, 1) := by decide +kernel
theorem d_Mod_word_34 : decode b_Mod_word 34 = .ok (.iconst 2, 1) := by decide +kernel
theorem d_Mod_word_35 : decode b_Mod_word 35 = .ok (.if_icmp .eq 27, 3) := by decide +kernel
theorem d_Mod_word_38 : decode b_Mod_word 38 = .ok (.iload_n 3, 1) := by decide +kernel
theorem d_Mod_word_39 : decode b_Mod_word 39 = .ok (.bipush 6, 2) := by decide +kernel
theorem d_Mod_word_41 : decode b_Mod_word 41 = .ok (.if_icmp .eq 21, 3) := by decide +kernel
theorem d_Mod_word_44 : decode b_Mod_word 44 = .ok (.iload_n 3, 1) := by decide +kernel
theorem d_Mod_word_45 : decode b_Mod_word 45 = .ok (.bipush 7, 2) := by decide +kernel
theorem d_Mod_word_47 : decode b_Mod_word 47 = .ok (.if_icmp .eq 15, 3) := by decide +kernel
theorem d_Mod_word_50 : decode b_Mod_word 50 = .ok (.iload_n 3, 1) := by decide +kernel
theorem d_Mod_word_51 : decode b_Mod_word 51 = .ok (.bipush 8, 2) := by decide +kernel
theorem d_Mod_word_53 : decode b_Mod_word 53 = .ok (.if_icmp .eq 9, 3) := by decide +kernel
theorem d_Mod_word_56 : decode b_Mod_word 56 = .ok (.iload_n 3, 1) := by decide +kernel
theorem d_Mod_word_57 : decode b_Mod_word 57 = .ok (.bipush 9, 2) := by decide +kernel
theorem d_Mod_word_59 : decode b_Mod_word 59 = .ok (.if_icmp .ne 7, 3) := by decide +kernel
theorem d_Mod_word_62 : decode b_Mod_word 62 = .ok (.iconst 1, 1) := by decide +kernel
theorem d_Mod_word_63 : decode b_Mod_word 63 = .ok (.goto 4, 3) := by decide +kernel
theorem d_Mod_word_66 : decode b_Mod_word 66 = .ok (.iconst 0, 1) := by decide +kernel
theorem d_Mod_word_67 : decode b_Mod_word 67 = .ok (.istore 4, 2) := by decide +kernel
theorem d_Mod_word_69 : decode b_Mod_word 69 = .ok (.iload 4, 2) := by decide +kernel
theorem d_Mod_word_71 : decode b_Mod_word 71 = .ok (.ifCond .eq 16, 3) := by decide +kernel
theorem d_Mod_word_74 : decode b_Mod_word 74 = .ok (.aload_n 0, 1) := by decide +kernel
theorem d_Mod_word_75 : decode b_Mod_word 75 = .ok (.getfield 31, 3) := by decide +kernel
theorem d_Mod_word_78 : decode b_Mod_word 78 = .ok (.iconst 4, 1) := by decide +kernel
theorem d_Mod_word_79 : decode b_Mod_word 79 = .ok (.iload_n 1, 1) := by decide +kernel
theorem d_Mod_word_80 : decode b_Mod_word 80 = .ok (.imul, 1) := by decide +kernel
theorem d_Mod_word_81 : decode b_Mod_word 81 = .ok (.iload_n 2, 1) := by decide +kernel
theorem d_Mod_word_82 : decode b_Mod_word 82 = .ok (.iadd, 1) := by decide +kernel
theorem d_Mod_word_83 : decode b_Mod_word 83 = .ok (.iaload, 1) := by decide +kernel
theorem d_Mod_word_84 : decode b_Mod_word 84 = .ok (.goto 4, 3) := by decide +kernel
theorem d_Mod_word_87 : decode b_Mod_word 87 = .ok (.iconst 0, 1) := by decide +kernel
theorem d_Mod_word_88 : decode b_Mod_word 88 = .ok (.ireturn, 1) := by decide +kernel
theorem d_Mod_home_0 : decode b_Mod_home 0 = .ok (.iload_n 1, 1) := by decide +kernel
theorem d_Mod_home_1 : decode b_Mod_home 1 = .ok (.invokestatic 88, 3) := by decide +kernel
theorem d_Mod_home_4 : decode b_Mod_home 4 = .ok (.ifCond .ne 5, 3) := by decide +kernel
theorem d_Mod_home_7 : decode b_Mod_home 7 = .ok (.iconst (-1), 1) := by decide +kernel
theorem d_Mod_home_8 : decode b_Mod_home 8 = .ok (.ireturn, 1) := by decide +kernel
theorem d_Mod_home_9 : decode b_Mod_home 9 = .ok (.iconst 0, 1) := by decide +kernel
theorem d_Mod_home_10 : decode b_Mod_home 10 = .ok (.istore_n 2, 1) := by decide +kernel
theorem d_Mod_home_11 : decode b_Mod_home 11 = .ok (.iconst 0, 1) := by decide +kernel
theorem d_Mod_home_12 : decode b_Mod_home 12 = .ok (.istore_n 3, 1) := by decide +kernel
theorem d_Mod_home_13 : decode b_Mod_home 13 = .ok (.iload_n 3, 1) := by decide +kernel
theorem d_Mod_home_14 : decode b_Mod_home 14 = .ok (.iconst 4, 1) := by decide +kernel
theorem d_Mod_home_15 : decode b_Mod_home 15 = .ok (.if_icmp .ge 32, 3) := by decide +kernel
theorem d_Mod_home_18 : decode b_Mod_home 18 = .ok (.aload_n 0, 1) := by decide +kernel
theorem d_Mod_home_19 : decode b_Mod_home 19 = .ok (.getfield 49, 3) := by decide +kernel
theorem d_Mod_home_22 : decode b_Mod_home 22 = .ok (.iconst 4, 1) := by decide +kernel
theorem d_Mod_home_23 : decode b_Mod_home 23 = .ok (.iload_n 1, 1) := by decide +kernel
theorem d_Mod_home_24 : decode b_Mod_home 24 = .ok (.imul, 1) := by decide +kernel
theorem d_Mod_home_25 : decode b_Mod_home 25 = .ok (.iload_n 3, 1) := by decide +kernel
theorem d_Mod_home_26 : decode b_Mod_home 26 = .ok (.iadd, 1) := by decide +kernel
theorem d_Mod_home_27 : decode b_Mod_home 27 = .ok (.baload, 1) := by decide +kernel
theorem d_Mod_home_28 : decode b_Mod_home 28 = .ok (.ifCond .eq 11, 3) := by decide +kernel
theorem d_Mod_home_31 : decode b_Mod_home 31 = .ok (.iload_n 2, 1) := by decide +kernel
theorem d_Mod_home_32 : decode b_Mod_home 32 = .ok (.iconst 1, 1) := by decide +kernel
theorem d_Mod_home_33 : decode b_Mod_home 33 = .ok (.iload_n 3, 1) := by decide +kernel
theorem d_Mod_home_34 : decode b_Mod_home 34 = .ok (.ishl, 1) := by decide +kernel
theorem d_Mod_home_35 : decode b_Mod_home 35 = .ok (.iadd, 1) := by decide +kernel
theorem d_Mod_home_36 : decode b_Mod_home 36 = .ok (.goto 4, 3) := by decide +kernel
theorem d_Mod_home_39 : decode b_Mod_home 39 = .ok (.iload_n 2, 1) := by decide +kernel
theorem d_Mod_home_40 : decode b_Mod_home 40 = .ok (.istore_n 2, 1) := by decide +kernel
theorem d_Mod_home_41 : decode b_Mod_home 41 = .ok (.iinc 3 1, 3) := by decide +kernel
theorem d_Mod_home_44 : decode b_Mod_home 44 = .ok (.goto (-31), 3) := by decide +kernel
theorem d_Mod_home_47 : decode b_Mod_home 47 = .ok (.aload_n 0, 1) := by decide +kernel
theorem d_Mod_home_48 : decode b_Mod_home 48 = .ok (.getfield 43, 3) := by decide +kernel
theorem d_Mod_home_51 : decode b_Mod_home 51 = .ok (.iload_n 1, 1) := by decide +kernel
theorem d_Mod_home_52 : decode b_Mod_home 52 = .ok (.iaload, 1) := by decide +kernel
theorem d_Mod_home_53 : decode b_Mod_home 53 = .ok (.aload_n 0, 1) := by decide +kernel
theorem d_Mod_home_54 : decode b_Mod_home 54 = .ok (.getfield 43, 3) := by decide +kernel
theorem d_Mod_home_57 : decode b_Mod_home 57 = .ok (.iload_n 1, 1) := by decide +kernel
theorem d_Mod_home_58 : decode b_Mod_home 58 = .ok (.iaload, 1) := by decide +kernel
theorem d_Mod_home_59 : decode b_Mod_home 59 = .ok (.iconst 2, 1) := by decide +kernel
theorem d_Mod_home_60 : decode b_Mod_home 60 = .ok (.if_icmp .ne 16, 3) := by decide +kernel
theorem d_Mod_home_63 : decode b_Mod_home 63 = .ok (.iconst 4, 1) := by decide +kernel
theorem d_Mod_home_64 : decode b_Mod_home 64 = .ok (.aload_n 0, 1) := by decide +kernel
theorem d_Mod_home_65 : decode b_Mod_home 65 = .ok (.getfield 46, 3) := by decide +kernel
theorem d_Mod_home_68 : decode b_Mod_home 68 = .ok (.iload_n 1, 1) := by decide +kernel
theorem d_Mod_home_69 : decode b_Mod_home 69 = .ok (.iaload, 1) := by decide +kernel
theorem d_Mod_home_70 : decode b_Mod_home 70 = .ok (.iconst 1, 1) := by decide +kernel
theorem d_Mod_home_71 : decode b_Mod_home 71 = .ok (.iadd, 1) := by decide +kernel
theorem d_Mod_home_72 : decode b_Mod_home 72 = .ok (.imul, 1) := by decide +kernel
theorem d_Mod_home_73 : decode b_Mod_home 73 = .ok (.goto 4, 3) := by decide +kernel
theorem d_Mod_home_76 : decode b_Mod_home 76 = .ok (.iconst 0, 1) := by decide +kernel
theorem d_Mod_home_77 : decode b_Mod_home 77 = .ok (.iadd, 1) := by decide +kernel
theorem d_Mod_home_78 : decode b_Mod_home 78 = .ok (.bipush 32, 2) := by decide +kernel
theorem d_Mod_home_80 : decode b_Mod_home 80 = .ok (.iload_n 2, 1) := by decide +kernel
theorem d_Mod_home_81 : decode b_Mod_home 81 = .ok (.imul, 1) := by decide +kernel
theorem d_Mod_home_82 : decode b_Mod_home 82 = .ok (.iadd, 1) := by decide +kernel
theorem d_Mod_home_83 : decode b_Mod_home 83 = .ok (.ireturn, 1) := by decide +kernel
theorem d_Mod_memory_0 : decode b_Mod_memory 0 = .ok (.iload_n 1, 1) := by decide +kernel
theorem d_Mod_memory_1 : decode b_Mod_memory 1 = .ok (.invokestatic 88, 3) := by decide +kernel
theorem d_Mod_memory_4 : decode b_Mod_memory 4 = .ok (.ifCond .eq 12, 3) := by decide +kernel
theorem d_Mod_memory_7 : decode b_Mod_memory 7 = .ok (.aload_n 0, 1) := by decide +kernel
theorem d_Mod_memory_8 : decode b_Mod_memory 8 = .ok (.getfield 40, 3) := by decide +kernel
theorem d_Mod_memory_11 : decode b_Mod_memory 11 = .ok (.iload_n 1, 1) := by decide +kernel
theorem d_Mod_memory_12 : decode b_Mod_memory 12 = .ok (.iaload, 1) := by decide +kernel
theorem d_Mod_memory_13 : decode b_Mod_memory 13 = .ok (.goto 4, 3) := by decide +kernel
theorem d_Mod_memory_16 : decode b_Mod_memory 16 = .ok (.iconst 0, 1) := by decide +kernel
theorem d_Mod_memory_17 : decode b_Mod_memory 17 = .ok (.ireturn, 1) := by decide +kernel
theorem d_Mod_accumulator_0 : decode b_Mod_accumulator 0 = .ok (.aload_n 0, 1) := by decide +kernel
theorem d_Mod_accumulator_1 : decode b_Mod_accumulator 1 = .ok (.iload_n 1, 1) := by decide +kernel
theorem d_Mod_accumulator_2 : decode b_Mod_accumulator 2 = .ok (.invokevirtual 81, 3) := by decide +kernel
theorem d_Mod_accumulator_5 : decode b_Mod_accumulator 5 = .ok (.ifCond .eq 12, 3) := by decide +kernel
theorem d_Mod_accumulator_8 : decode b_Mod_accumulator 8 = .ok (.aload_n 0, 1) := by decide +kernel
theorem d_Mod_accumulator_9 : decode b_Mod_accumulator 9 = .ok (.getfield 7, 3) := by decide +kernel
theorem d_Mod_accumulator_12 : decode b_Mod_accumulator 12 = .ok (.iload_n 1, 1) := by decide +kernel
theorem d_Mod_accumulator_13 : decode b_Mod_accumulator 13 = .ok (.iaload, 1) := by decide +kernel
theorem d_Mod_accumulator_14 : decode b_Mod_accumulator 14 = .ok (.goto 4, 3) := by decide +kernel
theorem d_Mod_accumulator_17 : decode b_Mod_accumulator 17 = .ok (.iconst 0, 1) := by decide +kernel
theorem d_Mod_accumulator_18 : decode b_Mod_accumulator 18 = .ok (.ireturn, 1) := by decide +kernel
theorem d_Mod_place_0 : decode b_Mod_place 0 = .ok (.aload_n 0, 1) := by decide +kernel
theorem d_Mod_place_1 : decode b_Mod_place 1 = .ok (.iload_n 1, 1) := by decide +kernel
theorem d_Mod_place_2 : decode b_Mod_place 2 = .ok (.invokevirtual 81, 3) := by decide +kernel
theorem d_Mod_place_5 : decode b_Mod_place 5 = .ok (.ifCond .eq 22, 3) := by decide +kernel
theorem d_Mod_place_8 : decode b_Mod_place 8 = .ok (.aload_n 0, 1) := by decide +kernel
theorem d_Mod_place_9 : decode b_Mod_place 9 = .ok (.getfield 22, 3) := by decide +kernel
theorem d_Mod_place_12 : decode b_Mod_place 12 = .ok (.iload_n 1, 1) := by decide +kernel
theorem d_Mod_place_13 : decode b_Mod_place 13 = .ok (.iaload, 1) := by decide +kernel
theorem d_Mod_place_14 : decode b_Mod_place 14 = .ok (.bipush 32, 2) := by decide +kernel
theorem d_Mod_place_16 : decode b_Mod_place 16 = .ok (.aload_n 0, 1) := by decide +kernel
theorem d_Mod_place_17 : decode b_Mod_place 17 = .ok (.getfield 25, 3) := by decide +kernel
theorem d_Mod_place_20 : decode b_Mod_place 20 = .ok (.iload_n 1, 1) := by decide +kernel
theorem d_Mod_place_21 : decode b_Mod_place 21 = .ok (.iaload, 1) := by decide +kernel
theorem d_Mod_place_22 : decode b_Mod_place 22 = .ok (.imul, 1) := by decide +kernel
theorem d_Mod_place_23 : decode b_Mod_place 23 = .ok (.iadd, 1) := by decide +kernel
theorem d_Mod_place_24 : decode b_Mod_place 24 = .ok (.goto 4, 3) := by decide +kernel
theorem d_Mod_place_27 : decode b_Mod_place 27 = .ok (.iconst (-1), 1) := by decide +kernel
theorem d_Mod_place_28 : decode b_Mod_place 28 = .ok (.ireturn, 1) := by decide +kernel
theorem d_Mod_sent_0 : decode b_Mod_sent 0 = .ok (.aload_n 0, 1) := by decide +kernel
theorem d_Mod_sent_1 : decode b_Mod_sent 1 = .ok (.getfield 94, 3) := by decide +kernel
theorem d_Mod_sent_4 : decode b_Mod_sent 4 = .ok (.ireturn, 1) := by decide +kernel
theorem d_Mod_performed_0 : decode b_Mod_performed 0 = .ok (.aload_n 0, 1) := by decide +kernel
theorem d_Mod_performed_1 : decode b_Mod_performed 1 = .ok (.getfield 104, 3) := by decide +kernel
theorem d_Mod_performed_4 : decode b_Mod_performed 4 = .ok (.ireturn, 1) := by decide +kernel
theorem d_Law_cell_0 : decode b_Law_cell 0 = .ok (.iload_n 1, 1) := by decide +kernel
theorem d_Law_cell_1 : decode b_Law_cell 1 = .ok (.aload_n 0, 1) := by decide +kernel
theorem d_Law_cell_2 : decode b_Law_cell 2 = .ok (.arraylength, 1) := by decide +kernel
theorem d_Law_cell_3 : decode b_Law_cell 3 = .ok (.if_icmp .ge 9, 3) := by decide +kernel
theorem d_Law_cell_6 : decode b_Law_cell 6 = .ok (.aload_n 0, 1) := by decide +kernel
theorem d_Law_cell_7 : decode b_Law_cell 7 = .ok (.iload_n 1, 1) := by decide +kernel
theorem d_Law_cell_8 : decode b_Law_cell 8 = .ok (.iaload, 1) := by decide +kernel
theorem d_Law_cell_9 : decode b_Law_cell 9 = .ok (.goto 4, 3) := by decide +kernel
theorem d_Law_cell_12 : decode b_Law_cell 12 = .ok (.iconst 0, 1) := by decide +kernel
theorem d_Law_cell_13 : decode b_Law_cell 13 = .ok (.ireturn, 1) := by decide +kernel
