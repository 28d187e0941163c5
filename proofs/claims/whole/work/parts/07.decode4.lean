theorem d_M_execute_0 : decode b_M_execute 0 = .ok (.iconst 0, 1) := by decide +kernel
theorem d_M_execute_1 : decode b_M_execute 1 = .ok (.istore_n 2, 1) := by decide +kernel
theorem d_M_execute_2 : decode b_M_execute 2 = .ok (.iload_n 2, 1) := by decide +kernel
theorem d_M_execute_3 : decode b_M_execute 3 = .ok (.bipush 40, 2) := by decide +kernel
theorem d_M_execute_5 : decode b_M_execute 5 = .ok (.if_icmp .ge 33, 3) := by decide +kernel
theorem d_M_execute_8 : decode b_M_execute 8 = .ok (.aload_n 0, 1) := by decide +kernel
theorem d_M_execute_9 : decode b_M_execute 9 = .ok (.getfield 23, 3) := by decide +kernel
theorem d_M_execute_12 : decode b_M_execute 12 = .ok (.iload_n 2, 1) := by decide +kernel
theorem d_M_execute_13 : decode b_M_execute 13 = .ok (.aload_n 0, 1) := by decide +kernel
theorem d_M_execute_14 : decode b_M_execute 14 = .ok (.getfield 7, 3) := by decide +kernel
theorem d_M_execute_17 : decode b_M_execute 17 = .ok (.iload_n 2, 1) := by decide +kernel
theorem d_M_execute_18 : decode b_M_execute 18 = .ok (.baload, 1) := by decide +kernel
theorem d_M_execute_19 : decode b_M_execute 19 = .ok (.bastore, 1) := by decide +kernel
theorem d_M_execute_20 : decode b_M_execute 20 = .ok (.aload_n 0, 1) := by decide +kernel
theorem d_M_execute_21 : decode b_M_execute 21 = .ok (.getfield 26, 3) := by decide +kernel
theorem d_M_execute_24 : decode b_M_execute 24 = .ok (.iload_n 2, 1) := by decide +kernel
theorem d_M_execute_25 : decode b_M_execute 25 = .ok (.aload_n 0, 1) := by decide +kernel
theorem d_M_execute_26 : decode b_M_execute 26 = .ok (.getfield 13, 3) := by decide +kernel
theorem d_M_execute_29 : decode b_M_execute 29 = .ok (.iload_n 2, 1) := by decide +kernel
theorem d_M_execute_30 : decode b_M_execute 30 = .ok (.iaload, 1) := by decide +kernel
theorem d_M_execute_31 : decode b_M_execute 31 = .ok (.iastore, 1) := by decide +kernel
theorem d_M_execute_32 : decode b_M_execute 32 = .ok (.iinc 2 1, 3) := by decide +kernel
theorem d_M_execute_35 : decode b_M_execute 35 = .ok (.goto (-33), 3) := by decide +kernel
theorem d_M_execute_38 : decode b_M_execute 38 = .ok (.iconst 0, 1) := by decide +kernel
theorem d_M_execute_39 : decode b_M_execute 39 = .ok (.istore_n 2, 1) := by decide +kernel
theorem d_M_execute_40 : decode b_M_execute 40 = .ok (.iload_n 2, 1) := by decide +kernel
theorem d_M_execute_41 : decode b_M_execute 41 = .ok (.bipush 6, 2) := by decide +kernel
theorem d_M_execute_43 : decode b_M_execute 43 = .ok (.if_icmp .ge 34, 3) := by decide +kernel
theorem d_M_execute_46 : decode b_M_execute 46 = .ok (.aload_n 0, 1) := by decide +kernel
theorem d_M_execute_47 : decode b_M_execute 47 = .ok (.getfield 93, 3) := by decide +kernel
theorem d_M_execute_50 : decode b_M_execute 50 = .ok (.iload_n 2, 1) := by decide +kernel
theorem d_M_execute_51 : decode b_M_execute 51 = .ok (.iload_n 2, 1) := by decide +kernel
theorem d_M_execute_52 : decode b_M_execute 52 = .ok (.iconst 3, 1) := by decide +kernel
theorem d_M_execute_53 : decode b_M_execute 53 = .ok (.if_icmp .ge 16, 3) := by decide +kernel
theorem d_M_execute_56 : decode b_M_execute 56 = .ok (.aload_n 0, 1) := by decide +kernel
theorem d_M_execute_57 : decode b_M_execute 57 = .ok (.getfield 57, 3) := by decide +kernel
theorem d_M_execute_60 : decode b_M_execute 60 = .ok (.iconst 3, 1) := by decide +kernel
theorem d_M_execute_61 : decode b_M_execute 61 = .ok (.iload_n 1, 1) := by decide +kernel
theorem d_M_execute_62 : decode b_M_execute 62 = .ok (.imul, 1) := by decide +kernel
theorem d_M_execute_63 : decode b_M_execute 63 = .ok (.iload_n 2, 1) := by decide +kernel
theorem d_M_execute_64 : decode b_M_execute 64 = .ok (.iadd, 1) := by decide +kernel
theorem d_M_execute_65 : decode b_M_execute 65 = .ok (.iaload, 1) := by decide +kernel
theorem d_M_execute_66 : decode b_M_execute 66 = .ok (.goto 4, 3) := by decide +kernel
theorem d_M_execute_69 : decode b_M_execute 69 = .ok (.iconst 0, 1) := by decide +kernel
theorem d_M_execute_70 : decode b_M_execute 70 = .ok (.iastore, 1) := by decide +kernel
theorem d_M_execute_71 : decode b_M_execute 71 = .ok (.iinc 2 1, 3) := by decide +kernel
theorem d_M_execute_74 : decode b_M_execute 74 = .ok (.goto (-34), 3) := by decide +kernel
theorem d_M_execute_77 : decode b_M_execute 77 = .ok (.aload_n 0, 1) := by decide +kernel
theorem d_M_execute_78 : decode b_M_execute 78 = .ok (.getfield 69, 3) := by decide +kernel
theorem d_M_execute_81 : decode b_M_execute 81 = .ok (.iload_n 1, 1) := by decide +kernel
theorem d_M_execute_82 : decode b_M_execute 82 = .ok (.iconst 0, 1) := by decide +kernel
theorem d_M_execute_83 : decode b_M_execute 83 = .ok (.iastore, 1) := by decide +kernel
theorem d_M_execute_84 : decode b_M_execute 84 = .ok (.aload_n 0, 1) := by decide +kernel
theorem d_M_execute_85 : decode b_M_execute 85 = .ok (.getfield 66, 3) := by decide +kernel
theorem d_M_execute_88 : decode b_M_execute 88 = .ok (.iload_n 1, 1) := by decide +kernel
theorem d_M_execute_89 : decode b_M_execute 89 = .ok (.iconst (-1), 1) := by decide +kernel
theorem d_M_execute_90 : decode b_M_execute 90 = .ok (.iastore, 1) := by decide +kernel
theorem d_M_execute_91 : decode b_M_execute 91 = .ok (.aload_n 0, 1) := by decide +kernel
theorem d_M_execute_92 : decode b_M_execute 92 = .ok (.getfield 54, 3) := by decide +kernel
theorem d_M_execute_95 : decode b_M_execute 95 = .ok (.iload_n 1, 1) := by decide +kernel
theorem d_M_execute_96 : decode b_M_execute 96 = .ok (.iaload, 1) := by decide +kernel
theorem d_M_execute_97 : decode b_M_execute 97 = .ok (.istore_n 2, 1) := by decide +kernel
theorem d_M_execute_98 : decode b_M_execute 98 = .ok (.iconst 0, 1) := by decide +kernel
theorem d_M_execute_99 : decode b_M_execute 99 = .ok (.istore_n 3, 1) := by decide +kernel
theorem d_M_execute_100 : decode b_M_execute 100 = .ok (.iload_n 3, 1) := by decide +kernel
theorem d_M_execute_101 : decode b_M_execute 101 = .ok (.aload_n 0, 1) := by decide +kernel
theorem d_M_execute_102 : decode b_M_execute 102 = .ok (.getfield 35, 3) := by decide +kernel
theorem d_M_execute_105 : decode b_M_execute 105 = .ok (.iload_n 2, 1) := by decide +kernel
theorem d_M_execute_106 : decode b_M_execute 106 = .ok (.iaload, 1) := by decide +kernel
theorem d_M_execute_107 : decode b_M_execute 107 = .ok (.if_icmp .ge 83, 3) := by decide +kernel
theorem d_M_execute_110 : decode b_M_execute 110 = .ok (.aload_n 0, 1) := by decide +kernel
theorem d_M_execute_111 : decode b_M_execute 111 = .ok (.getfield 66, 3) := by decide +kernel
theorem d_M_execute_114 : decode b_M_execute 114 = .ok (.iload_n 1, 1) := by decide +kernel
theorem d_M_execute_115 : decode b_M_execute 115 = .ok (.iaload, 1) := by decide +kernel
theorem d_M_execute_116 : decode b_M_execute 116 = .ok (.ifCond .ge 74, 3) := by decide +kernel
theorem d_M_execute_119 : decode b_M_execute 119 = .ok (.bipush 8, 2) := by decide +kernel
theorem d_M_execute_121 : decode b_M_execute 121 = .ok (.iload_n 2, 1) := by decide +kernel
theorem d_M_execute_122 : decode b_M_execute 122 = .ok (.imul, 1) := by decide +kernel
theorem d_M_execute_123 : decode b_M_execute 123 = .ok (.iload_n 3, 1) := by decide +kernel
theorem d_M_execute_124 : decode b_M_execute 124 = .ok (.iadd, 1) := by decide +kernel
theorem d_M_execute_125 : decode b_M_execute 125 = .ok (.istore 4, 2) := by decide +kernel
theorem d_M_execute_127 : decode b_M_execute 127 = .ok (.aload_n 0, 1) := by decide +kernel
theorem d_M_execute_128 : decode b_M_execute 128 = .ok (.iload_n 1, 1) := by decide +kernel
theorem d_M_execute_129 : decode b_M_execute 129 = .ok (.iload 4, 2) := by decide +kernel
theorem d_M_execute_131 : decode b_M_execute 131 = .ok (.invokevirtual 114, 3) := by decide +kernel
theorem d_M_execute_134 : decode b_M_execute 134 = .ok (.ifCond .ne 10, 3) := by decide +kernel
theorem d_M_execute_137 : decode b_M_execute 137 = .ok (.aload_n 0, 1) := by decide +kernel
theorem d_M_execute_138 : decode b_M_execute 138 = .ok (.getfield 66, 3) := by decide +kernel
theorem d_M_execute_141 : decode b_M_execute 141 = .ok (.iload_n 1, 1) := by decide +kernel
theorem d_M_execute_142 : decode b_M_execute 142 = .ok (.iload_n 3, 1) := by decide +kernel
theorem d_M_execute_143 : decode b_M_execute 143 = .ok (.iastore, 1) := by decide +kernel
theorem d_M_execute_144 : decode b_M_execute 144 = .ok (.iload_n 3, 1) := by decide +kernel
theorem d_M_execute_145 : decode b_M_execute 145 = .ok (.aload_n 0, 1) := by decide +kernel
theorem d_M_execute_146 : decode b_M_execute 146 = .ok (.getfield 38, 3) := by decide +kernel
theorem d_M_execute_149 : decode b_M_execute 149 = .ok (.iload 4, 2) := by decide +kernel
theorem d_M_execute_151 : decode b_M_execute 151 = .ok (.iaload, 1) := by decide +kernel
theorem d_M_execute_152 : decode b_M_execute 152 = .ok (.bipush 7, 2) := by decide +kernel
theorem d_M_execute_154 : decode b_M_execute 154 = .ok (.if_icmp .ne 30, 3) := by decide +kernel
theorem d_M_execute_157 : decode b_M_execute 157 = .ok (.aload_n 0, 1) := by decide +kernel
theorem d_M_execute_158 : decode b_M_execute 158 = .ok (.getfield 93, 3) := by decide +kernel
theorem d_M_execute_161 : decode b_M_execute 161 = .ok (.aload_n 0, 1) := by decide +kernel
theorem d_M_execute_162 : decode b_M_execute 162 = .ok (.getfield 41, 3) := by decide +kernel
theorem d_M_execute_165 : decode b_M_execute 165 = .ok (.iload 4, 2) := by decide +kernel
theorem d_M_execute_167 : decode b_M_execute 167 = .ok (.iaload, 1) := by decide +kernel
theorem d_M_execute_168 : decode b_M_execute 168 = .ok (.iaload, 1) := by decide +kernel
theorem d_M_execute_169 : decode b_M_execute 169 = .ok (.ifCond .ne 15, 3) := by decide +kernel
theorem d_M_execute_172 : decode b_M_execute 172 = .ok (.iconst 1, 1) := by decide +kernel
theorem d_M_execute_173 : decode b_M_execute 173 = .ok (.aload_n 0, 1) := by decide +kernel
theorem d_M_execute_174 : decode b_M_execute 174 = .ok (.getfield 44, 3) := by decide +kernel
theorem d_M_execute_177 : decode b_M_execute 177 = .ok (.iload 4, 2) := by decide +kernel
theorem d_M_execute_179 : decode b_M_execute 179 = .ok (.iaload, 1) := by decide +kernel
theorem d_M_execute_180 : decode b_M_execute 180 = .ok (.iadd, 1) := by decide +kernel
theorem d_M_execute_181 : decode b_M_execute 181 = .ok (.goto 4, 3) := by decide +kernel
theorem d_M_execute_184 : decode b_M_execute 184 = .ok (.iconst 1, 1) := by decide +kernel
theorem d_M_execute_185 : decode b_M_execute 185 = .ok (.iadd, 1) := by decide +kernel
theorem d_M_execute_186 : decode b_M_execute 186 = .ok (.istore_n 3, 1) := by decide +kernel
theorem d_M_execute_187 : decode b_M_execute 187 = .ok (.goto (-87), 3) := by decide +kernel
theorem d_M_execute_190 : decode b_M_execute 190 = .ok (.aload_n 0, 1) := by decide +kernel
theorem d_M_execute_191 : decode b_M_execute 191 = .ok (.getfield 66, 3) := by decide +kernel
theorem d_M_execute_194 : decode b_M_execute 194 = .ok (.iload_n 1, 1) := by decide +kernel
theorem d_M_execute_195 : decode b_M_execute 195 = .ok (.iaload, 1) := by decide +kernel
theorem d_M_execute_196 : decode b_M_execute 196 = .ok (.ifCond .ge 4, 3) := by decide +kernel
theorem d_M_execute_199 : decode b_M_execute 199 = .ok (.return_, 1) := by decide +kernel
theorem d_M_execute_200 : decode b_M_execute 200 = .ok (.aload_n 0, 1) := by decide +kernel
theorem d_M_execute_201 : decode b_M_execute 201 = .ok (.getfield 69, 3) := by decide +kernel
theorem d_M_execute_204 : decode b_M_execute 204 = .ok (.iload_n 1, 1) := by decide +kernel
theorem d_M_execute_205 : decode b_M_execute 205 = .ok (.iconst 0, 1) := by decide +kernel
theorem d_M_execute_206 : decode b_M_execute 206 = .ok (.iastore, 1) := by decide +kernel
theorem d_M_execute_207 : decode b_M_execute 207 = .ok (.iconst 0, 1) := by decide +kernel
theorem d_M_execute_208 : decode b_M_execute 208 = .ok (.istore 4, 2) := by decide +kernel
theorem d_M_execute_210 : decode b_M_execute 210 = .ok (.iload 4, 2) := by decide +kernel
theorem d_M_execute_212 : decode b_M_execute 212 = .ok (.bipush 40, 2) := by decide +kernel
theorem d_M_execute_214 : decode b_M_execute 214 = .ok (.if_icmp .ge 37, 3) := by decide +kernel
theorem d_M_execute_217 : decode b_M_execute 217 = .ok (.aload_n 0, 1) := by decide +kernel
theorem d_M_execute_218 : decode b_M_execute 218 = .ok (.getfield 7, 3) := by decide +kernel
theorem d_M_execute_221 : decode b_M_execute 221 = .ok (.iload 4, 2) := by decide +kernel
theorem d_M_execute_223 : decode b_M_execute 223 = .ok (.aload_n 0, 1) := by decide +kernel
theorem d_M_execute_224 : decode b_M_execute 224 = .ok (.getfield 23, 3) := by decide +kernel
theorem d_M_execute_227 : decode b_M_execute 227 = .ok (.iload 4, 2) := by decide +kernel
theorem d_M_execute_229 : decode b_M_execute 229 = .ok (.baload, 1) := by decide +kernel
theorem d_M_execute_230 : decode b_M_execute 230 = .ok (.bastore, 1) := by decide +kernel
theorem d_M_execute_231 : decode b_M_execute 231 = .ok (.aload_n 0, 1) := by decide +kernel
theorem d_M_execute_232 : decode b_M_execute 232 = .ok (.getfield 13, 3) := by decide +kernel
theorem d_M_execute_235 : decode b_M_execute 235 = .ok (.iload 4, 2) := by decide +kernel
theorem d_M_execute_237 : decode b_M_execute 237 = .ok (.aload_n 0, 1) := by decide +kernel
theorem d_M_execute_238 : decode b_M_execute 238 = .ok (.getfield 26, 3) := by decide +kernel
theorem d_M_execute_241 : decode b_M_execute 241 = .ok (.iload 4, 2) := by decide +kernel
theorem d_M_execute_243 : decode b_M_execute 243 = .ok (.iaload, 1) := by decide +kernel
theorem d_M_execute_244 : decode b_M_execute 244 = .ok (.iastore, 1) := by decide +kernel
theorem d_M_execute_245 : decode b_M_execute 245 = .ok (.iinc 4 1, 3) := by decide +kernel
theorem d_M_execute_248 : decode b_M_execute 248 = .ok (.goto (-38), 3) := by decide +kernel
theorem d_M_execute_251 : decode b_M_execute 251 = .ok (.return_, 1) := by decide +kernel
theorem d_M_replay_0 : decode b_M_replay 0 = .ok (.iconst 0, 1) := by decide +kernel
theorem d_M_replay_1 : decode b_M_replay 1 = .ok (.istore_n 2, 1) := by decide +kernel
theorem d_M_replay_2 : decode b_M_replay 2 = .ok (.iload_n 2, 1) := by decide +kernel
theorem d_M_replay_3 : decode b_M_replay 3 = .ok (.bipush 40, 2) := by decide +kernel
theorem d_M_replay_5 : decode b_M_replay 5 = .ok (.if_icmp .ge 33, 3) := by decide +kernel
theorem d_M_replay_8 : decode b_M_replay 8 = .ok (.aload_n 0, 1) := by decide +kernel
theorem d_M_replay_9 : decode b_M_replay 9 = .ok (.getfield 7, 3) := by decide +kernel
theorem d_M_replay_12 : decode b_M_replay 12 = .ok (.iload_n 2, 1) := by decide +kernel
theorem d_M_replay_13 : decode b_M_replay 13 = .ok (.aload_n 0, 1) := by decide +kernel
theorem d_M_replay_14 : decode b_M_replay 14 = .ok (.getfield 17, 3) := by decide +kernel
theorem d_M_replay_17 : decode b_M_replay 17 = .ok (.iload_n 2, 1) := by decide +kernel
theorem d_M_replay_18 : decode b_M_replay 18 = .ok (.baload, 1) := by decide +kernel
theorem d_M_replay_19 : decode b_M_replay 19 = .ok (.bastore, 1) := by decide +kernel
theorem d_M_replay_20 : decode b_M_replay 20 = .ok (.aload_n 0, 1) := by decide +kernel
theorem d_M_replay_21 : decode b_M_replay 21 = .ok (.getfield 13, 3) := by decide +kernel
theorem d_M_replay_24 : decode b_M_replay 24 = .ok (.iload_n 2, 1) := by decide +kernel
theorem d_M_replay_25 : decode b_M_replay 25 = .ok (.aload_n 0, 1) := by decide +kernel
theorem d_M_replay_26 : decode b_M_replay 26 = .ok (.getfield 20, 3) := by decide +kernel
theorem d_M_replay_29 : decode b_M_replay 29 = .ok (.iload_n 2, 1) := by decide +kernel
theorem d_M_replay_30 : decode b_M_replay 30 = .ok (.iaload, 1) := by decide +kernel
theorem d_M_replay_31 : decode b_M_replay 31 = .ok (.iastore, 1) := by decide +kernel
theorem d_M_replay_32 : decode b_M_replay 32 = .ok (.iinc 2 1, 3) := by decide +kernel
theorem d_M_replay_35 : decode b_M_replay 35 = .ok (.goto (-33), 3) := by decide +kernel
theorem d_M_replay_38 : decode b_M_replay 38 = .ok (.aload_n 0, 1) := by decide +kernel
theorem d_M_replay_39 : decode b_M_replay 39 = .ok (.getfield 120, 3) := by decide +kernel
theorem d_M_replay_42 : decode b_M_replay 42 = .ok (.iconst 1, 1) := by decide +kernel
theorem d_M_replay_43 : decode b_M_replay 43 = .ok (.iadd, 1) := by decide +kernel
theorem d_M_replay_44 : decode b_M_replay 44 = .ok (.istore_n 2, 1) := by decide +kernel
theorem d_M_replay_45 : decode b_M_replay 45 = .ok (.iload_n 2, 1) := by decide +kernel
theorem d_M_replay_46 : decode b_M_replay 46 = .ok (.iload_n 1, 1) := by decide +kernel
theorem d_M_replay_47 : decode b_M_replay 47 = .ok (.if_icmp .gt 23, 3) := by decide +kernel
theorem d_M_replay_50 : decode b_M_replay 50 = .ok (.aload_n 0, 1) := by decide +kernel
theorem d_M_replay_51 : decode b_M_replay 51 = .ok (.getfield 54, 3) := by decide +kernel
theorem d_M_replay_54 : decode b_M_replay 54 = .ok (.iload_n 2, 1) := by decide +kernel
theorem d_M_replay_55 : decode b_M_replay 55 = .ok (.iaload, 1) := by decide +kernel
theorem d_M_replay_56 : decode b_M_replay 56 = .ok (.ifCond .lt 8, 3) := by decide +kernel
theorem d_M_replay_59 : decode b_M_replay 59 = .ok (.aload_n 0, 1) := by decide +kernel
theorem d_M_replay_60 : decode b_M_replay 60 = .ok (.iload_n 2, 1) := by decide +kernel
theorem d_M_replay_61 : decode b_M_replay 61 = .ok (.invokevirtual 123, 3) := by decide +kernel
theorem d_M_replay_64 : decode b_M_replay 64 = .ok (.iinc 2 1, 3) := by decide +kernel
theorem d_M_replay_67 : decode b_M_replay 67 = .ok (.goto (-22), 3) := by decide +kernel
theorem d_M_replay_70 : decode b_M_replay 70 = .ok (.return_, 1) := by decide +kernel
theorem d_M_tellClients_0 : decode b_M_tellClients 0 = .ok (.iconst 0, 1) := by decide +kernel
theorem d_M_tellClients_1 : decode b_M_tellClients 1 = .ok (.istore_n 1, 1) := by decide +kernel
theorem d_M_tellClients_2 : decode b_M_tellClients 2 = .ok (.iload_n 1, 1) := by decide +kernel
theorem d_M_tellClients_3 : decode b_M_tellClients 3 = .ok (.iconst 4, 1) := by decide +kernel
theorem d_M_tellClients_4 : decode b_M_tellClients 4 = .ok (.if_icmp .ge 123, 3) := by decide +kernel
theorem d_M_tellClients_7 : decode b_M_tellClients 7 = .ok (.aload_n 0, 1) := by decide +kernel
theorem d_M_tellClients_8 : decode b_M_tellClients 8 = .ok (.getfield 81, 3) := by decide +kernel
theorem d_M_tellClients_11 : decode b_M_tellClients 11 = .ok (.iload_n 1, 1) := by decide +kernel
theorem d_M_tellClients_12 : decode b_M_tellClients 12 = .ok (.iaload, 1) := by decide +kernel
theorem d_M_tellClients_13 : decode b_M_tellClients 13 = .ok (.istore_n 2, 1) := by decide +kernel
theorem d_M_tellClients_14 : decode b_M_tellClients 14 = .ok (.aload_n 0, 1) := by decide +kernel
theorem d_M_tellClients_15 : decode b_M_tellClients 15 = .ok (.getfield 78, 3) := by decide +kernel
theorem d_M_tellClients_18 : decode b_M_tellClients 18 = .ok (.iload_n 1, 1) := by decide +kernel
theorem d_M_tellClients_19 : decode b_M_tellClients 19 = .ok (.iaload, 1) := by decide +kernel
theorem d_M_tellClients_20 : decode b_M_tellClients 20 = .ok (.iconst 1, 1) := by decide +kernel
theorem d_M_tellClients_21 : decode b_M_tellClients 21 = .ok (.if_icmp .ne 100, 3) := by decide +kernel
theorem d_M_tellClients_24 : decode b_M_tellClients 24 = .ok (.aload_n 0, 1) := by decide +kernel
theorem d_M_tellClients_25 : decode b_M_tellClients 25 = .ok (.getfield 60, 3) := by decide +kernel
theorem d_M_tellClients_28 : decode b_M_tellClients 28 = .ok (.iload_n 2, 1) := by decide +kernel
theorem d_M_tellClients_29 : decode b_M_tellClients 29 = .ok (.baload, 1) := by decide +kernel
theorem d_M_tellClients_30 : decode b_M_tellClients 30 = .ok (.ifCond .eq 91, 3) := by decide +kernel
theorem d_M_tellClients_33 : decode b_M_tellClients 33 = .ok (.iload_n 2, 1) := by decide +kernel
theorem d_M_tellClients_34 : decode b_M_tellClients 34 = .ok (.aload_n 0, 1) := by decide +kernel
theorem d_M_tellClients_35 : decode b_M_tellClients 35 = .ok (.getfield 117, 3) := by decide +kernel
theorem d_M_tellClients_38 : decode b_M_tellClients 38 = .ok (.if_icmp .le 6, 3) := by decide +kernel
theorem d_M_tellClients_41 : decode b_M_tellClients 41 = .ok (.goto 80, 3) := by decide +kernel
theorem d_M_tellClients_44 : decode b_M_tellClients 44 = .ok (.aload_n 0, 1) := by decide +kernel
theorem d_M_tellClients_45 : decode b_M_tellClients 45 = .ok (.getfield 78, 3) := by decide +kernel
theorem d_M_tellClients_48 : decode b_M_tellClients 48 = .ok (.iload_n 1, 1) := by decide +kernel
theorem d_M_tellClients_49 : decode b_M_tellClients 49 = .ok (.aload_n 0, 1) := by decide +kernel
theorem d_M_tellClients_50 : decode b_M_tellClients 50 = .ok (.getfield 66, 3) := by decide +kernel
theorem d_M_tellClients_53 : decode b_M_tellClients 53 = .ok (.iload_n 2, 1) := by decide +kernel
theorem d_M_tellClients_54 : decode b_M_tellClients 54 = .ok (.iaload, 1) := by decide +kernel
theorem d_M_tellClients_55 : decode b_M_tellClients 55 = .ok (.ifCond .ge 7, 3) := by decide +kernel
theorem d_M_tellClients_58 : decode b_M_tellClients 58 = .ok (.iconst 2, 1) := by decide +kernel
theorem d_M_tellClients_59 : decode b_M_tellClients 59 = .ok (.goto 4, 3) := by decide +kernel
theorem d_M_tellClients_62 : decode b_M_tellClients 62 = .ok (.iconst 3, 1) := by decide +kernel
theorem d_M_tellClients_63 : decode b_M_tellClients 63 = .ok (.iastore, 1) := by decide +kernel
theorem d_M_tellClients_64 : decode b_M_tellClients 64 = .ok (.aload_n 0, 1) := by decide +kernel
theorem d_M_tellClients_65 : decode b_M_tellClients 65 = .ok (.getfield 90, 3) := by decide +kernel
theorem d_M_tellClients_68 : decode b_M_tellClients 68 = .ok (.iload_n 1, 1) := by decide +kernel
theorem d_M_tellClients_69 : decode b_M_tellClients 69 = .ok (.aload_n 0, 1) := by decide +kernel
theorem d_M_tellClients_70 : decode b_M_tellClients 70 = .ok (.getfield 66, 3) := by decide +kernel
theorem d_M_tellClients_73 : decode b_M_tellClients 73 = .ok (.iload_n 2, 1) := by decide +kernel
theorem d_M_tellClients_74 : decode b_M_tellClients 74 = .ok (.iaload, 1) := by decide +kernel
theorem d_M_tellClients_75 : decode b_M_tellClients 75 = .ok (.iastore, 1) := by decide +kernel
theorem d_M_tellClients_76 : decode b_M_tellClients 76 = .ok (.aload_n 0, 1) := by decide +kernel
theorem d_M_tellClients_77 : decode b_M_tellClients 77 = .ok (.getfield 84, 3) := by decide +kernel
theorem d_M_tellClients_80 : decode b_M_tellClients 80 = .ok (.iload_n 1, 1) := by decide +kernel
theorem d_M_tellClients_81 : decode b_M_tellClients 81 = .ok (.aload_n 0, 1) := by decide +kernel
theorem d_M_tellClients_82 : decode b_M_tellClients 82 = .ok (.getfield 69, 3) := by decide +kernel
theorem d_M_tellClients_85 : decode b_M_tellClients 85 = .ok (.iload_n 2, 1) := by decide +kernel
theorem d_M_tellClients_86 : decode b_M_tellClients 86 = .ok (.iaload, 1) := by decide +kernel
theorem d_M_tellClients_87 : decode b_M_tellClients 87 = .ok (.iastore, 1) := by decide +kernel
theorem d_M_tellClients_88 : decode b_M_tellClients 88 = .ok (.iconst 0, 1) := by decide +kernel
theorem d_M_tellClients_89 : decode b_M_tellClients 89 = .ok (.istore_n 3, 1) := by decide +kernel
theorem d_M_tellClients_90 : decode b_M_tellClients 90 = .ok (.iload_n 3, 1) := by decide +kernel
theorem d_M_tellClients_91 : decode b_M_tellClients 91 = .ok (.iconst 4, 1) := by decide +kernel
theorem d_M_tellClients_92 : decode b_M_tellClients 92 = .ok (.if_icmp .ge 29, 3) := by decide +kernel
theorem d_M_tellClients_95 : decode b_M_tellClients 95 = .ok (.aload_n 0, 1) := by decide +kernel
theorem d_M_tellClients_96 : decode b_M_tellClients 96 = .ok (.getfield 87, 3) := by decide +kernel
theorem d_M_tellClients_99 : decode b_M_tellClients 99 = .ok (.iconst 4, 1) := by decide +kernel
theorem d_M_tellClients_100 : decode b_M_tellClients 100 = .ok (.iload_n 1, 1) := by decide +kernel
theorem d_M_tellClients_101 : decode b_M_tellClients 101 = .ok (.imul, 1) := by decide +kernel
theorem d_M_tellClients_102 : decode b_M_tellClients 102 = .ok (.iload_n 3, 1) := by decide +kernel
theorem d_M_tellClients_103 : decode b_M_tellClients 103 = .ok (.iadd, 1) := by decide +kernel
theorem d_M_tellClients_104 : decode b_M_tellClients 104 = .ok (.aload_n 0, 1) := by decide +kernel
theorem d_M_tellClients_105 : decode b_M_tellClients 105 = .ok (.getfield 72, 3) := by decide +kernel
theorem d_M_tellClients_108 : decode b_M_tellClients 108 = .ok (.iconst 4, 1) := by decide +kernel
theorem d_M_tellClients_109 : decode b_M_tellClients 109 = .ok (.iload_n 2, 1) := by decide +kernel
theorem d_M_tellClients_110 : decode b_M_tellClients 110 = .ok (.imul, 1) := by decide +kernel
theorem d_M_tellClients_111 : decode b_M_tellClients 111 = .ok (.iload_n 3, 1) := by decide +kernel
theorem d_M_tellClients_112 : decode b_M_tellClients 112 = .ok (.iadd, 1) := by decide +kernel
theorem d_M_tellClients_113 : decode b_M_tellClients 113 = .ok (.iaload, 1) := by decide +kernel
theorem d_M_tellClients_114 : decode b_M_tellClients 114 = .ok (.iastore, 1) := by decide +kernel
theorem d_M_tellClients_115 : decode b_M_tellClients 115 = .ok (.iinc 3 1, 3) := by decide +kernel
theorem d_M_tellClients_118 : decode b_M_tellClients 118 = .ok (.goto (-28), 3) := by decide +kernel
theorem d_M_tellClients_121 : decode b_M_tellClients 121 = .ok (.iinc 1 1, 3) := by decide +kernel
theorem d_M_tellClients_124 : decode b_M_tellClients 124 = .ok (.goto (-122), 3) := by decide +kernel
theorem d_M_tellClients_127 : decode b_M_tellClients 127 = .ok (.return_, 1) := by decide +kernel
theorem d_M_completeIfDone_0 : decode b_M_completeIfDone 0 = .ok (.aload_n 0, 1) := by decide +kernel
theorem d_M_completeIfDone_1 : decode b_M_completeIfDone 1 = .ok (.getfield 127, 3) := by decide +kernel
theorem d_M_completeIfDone_4 : decode b_M_completeIfDone 4 = .ok (.ifCond .eq 23, 3) := by decide +kernel
theorem d_M_completeIfDone_7 : decode b_M_completeIfDone 7 = .ok (.aload_n 0, 1) := by decide +kernel
theorem d_M_completeIfDone_8 : decode b_M_completeIfDone 8 = .ok (.getfield 63, 3) := by decide +kernel
theorem d_M_completeIfDone_11 : decode b_M_completeIfDone 11 = .ok (.aload_n 0, 1) := by decide +kernel
theorem d_M_completeIfDone_12 : decode b_M_completeIfDone 12 = .ok (.getfield 127, 3) := by decide +kernel
theorem d_M_completeIfDone_15 : decode b_M_completeIfDone 15 = .ok (.iaload, 1) := by decide +kernel
theorem d_M_completeIfDone_16 : decode b_M_completeIfDone 16 = .ok (.iconst 1, 1) := by decide +kernel
theorem d_M_completeIfDone_17 : decode b_M_completeIfDone 17 = .ok (.aload_n 0, 1) := by decide +kernel
theorem d_M_completeIfDone_18 : decode b_M_completeIfDone 18 = .ok (.getfield 96, 3) := by decide +kernel
theorem d_M_completeIfDone_21 : decode b_M_completeIfDone 21 = .ok (.ishl, 1) := by decide +kernel
theorem d_M_completeIfDone_22 : decode b_M_completeIfDone 22 = .ok (.iconst 1, 1) := by decide +kernel
theorem d_M_completeIfDone_23 : decode b_M_completeIfDone 23 = .ok (.isub, 1) := by decide +kernel
theorem d_M_completeIfDone_24 : decode b_M_completeIfDone 24 = .ok (.if_icmp .eq 4, 3) := by decide +kernel
theorem d_M_completeIfDone_27 : decode b_M_completeIfDone 27 = .ok (.return_, 1) := by decide +kernel
theorem d_M_completeIfDone_28 : decode b_M_completeIfDone 28 = .ok (.iconst 0, 1) := by decide +kernel
theorem d_M_completeIfDone_29 : decode b_M_completeIfDone 29 = .ok (.istore_n 1, 1) := by decide +kernel
theorem d_M_completeIfDone_30 : decode b_M_completeIfDone 30 = .ok (.iload_n 1, 1) := by decide +kernel
theorem d_M_completeIfDone_31 : decode b_M_completeIfDone 31 = .ok (.aload_n 0, 1) := by decide +kernel
theorem d_M_completeIfDone_32 : decode b_M_completeIfDone 32 = .ok (.getfield 96, 3) := by decide +kernel
theorem d_M_completeIfDone_35 : decode b_M_completeIfDone 35 = .ok (.if_icmp .ge 19, 3) := by decide +kernel
theorem d_M_completeIfDone_38 : decode b_M_completeIfDone 38 = .ok (.aload_n 0, 1) := by decide +kernel
theorem d_M_completeIfDone_39 : decode b_M_completeIfDone 39 = .ok (.getfield 75, 3) := by decide +kernel
theorem d_M_completeIfDone_42 : decode b_M_completeIfDone 42 = .ok (.iload_n 1, 1) := by decide +kernel
theorem d_M_completeIfDone_43 : decode b_M_completeIfDone 43 = .ok (.iaload, 1) := by decide +kernel
theorem d_M_completeIfDone_44 : decode b_M_completeIfDone 44 = .ok (.ifCond .le 4, 3) := by decide +kernel
theorem d_M_completeIfDone_47 : decode b_M_completeIfDone 47 = .ok (.return_, 1) := by decide +kernel
theorem d_M_completeIfDone_48 : decode b_M_completeIfDone 48 = .ok (.iinc 1 1, 3) := by decide +kernel
theorem d_M_completeIfDone_51 : decode b_M_completeIfDone 51 = .ok (.goto (-21), 3) := by decide +kernel
theorem d_M_completeIfDone_54 : decode b_M_completeIfDone 54 = .ok (.aload_n 0, 1) := by decide +kernel
theorem d_M_completeIfDone_55 : decode b_M_completeIfDone 55 = .ok (.aload_n 0, 1) := by decide +kernel
theorem d_M_completeIfDone_56 : decode b_M_completeIfDone 56 = .ok (.getfield 127, 3) := by decide +kernel
theorem d_M_completeIfDone_59 : decode b_M_completeIfDone 59 = .ok (.iconst 1, 1) := by decide +kernel
theorem d_M_completeIfDone_60 : decode b_M_completeIfDone 60 = .ok (.isub, 1) := by decide +kernel
theorem d_M_completeIfDone_61 : decode b_M_completeIfDone 61 = .ok (.invokevirtual 130, 3) := by decide +kernel
theorem d_M_completeIfDone_64 : decode b_M_completeIfDone 64 = .ok (.iconst 0, 1) := by decide +kernel
theorem d_M_completeIfDone_65 : decode b_M_completeIfDone 65 = .ok (.istore_n 1, 1) := by decide +kernel
theorem d_M_completeIfDone_66 : decode b_M_completeIfDone 66 = .ok (.iload_n 1, 1) := by decide +kernel
theorem d_M_completeIfDone_67 : decode b_M_completeIfDone 67 = .ok (.bipush 40, 2) := by decide +kernel
theorem d_M_completeIfDone_69 : decode b_M_completeIfDone 69 = .ok (.if_icmp .ge 33, 3) := by decide +kernel
theorem d_M_completeIfDone_72 : decode b_M_completeIfDone 72 = .ok (.aload_n 0, 1) := by decide +kernel
theorem d_M_completeIfDone_73 : decode b_M_completeIfDone 73 = .ok (.getfield 17, 3) := by decide +kernel
theorem d_M_completeIfDone_76 : decode b_M_completeIfDone 76 = .ok (.iload_n 1, 1) := by decide +kernel
theorem d_M_completeIfDone_77 : decode b_M_completeIfDone 77 = .ok (.aload_n 0, 1) := by decide +kernel
theorem d_M_completeIfDone_78 : decode b_M_completeIfDone 78 = .ok (.getfield 7, 3) := by decide +kernel
theorem d_M_completeIfDone_81 : decode b_M_completeIfDone 81 = .ok (.iload_n 1, 1) := by decide +kernel
theorem d_M_completeIfDone_82 : decode b_M_completeIfDone 82 = .ok (.baload, 1) := by decide +kernel
theorem d_M_completeIfDone_83 : decode b_M_completeIfDone 83 = .ok (.bastore, 1) := by decide +kernel
theorem d_M_completeIfDone_84 : decode b_M_completeIfDone 84 = .ok (.aload_n 0, 1) := by decide +kernel
theorem d_M_completeIfDone_85 : decode b_M_completeIfDone 85 = .ok (.getfield 20, 3) := by decide +kernel
theorem d_M_completeIfDone_88 : decode b_M_completeIfDone 88 = .ok (.iload_n 1, 1) := by decide +kernel
theorem d_M_completeIfDone_89 : decode b_M_completeIfDone 89 = .ok (.aload_n 0, 1) := by decide +kernel
theorem d_M_completeIfDone_90 : decode b_M_completeIfDone 90 = .ok (.getfield 13, 3) := by decide +kernel
theorem d_M_completeIfDone_93 : decode b_M_completeIfDone 93 = .ok (.iload_n 1, 1) := by decide +kernel
theorem d_M_completeIfDone_94 : decode b_M_completeIfDone 94 = .ok (.iaload, 1) := by decide +kernel
theorem d_M_completeIfDone_95 : decode b_M_completeIfDone 95 = .ok (.iastore, 1) := by decide +kernel
theorem d_M_completeIfDone_96 : decode b_M_completeIfDone 96 = .ok (.iinc 1 1, 3) := by decide +kernel
theorem d_M_completeIfDone_99 : decode b_M_completeIfDone 99 = .ok (.goto (-33), 3) := by decide +kernel
theorem d_M_completeIfDone_102 : decode b_M_completeIfDone 102 = .ok (.aload_n 0, 1) := by decide +kernel
theorem d_M_completeIfDone_103 : decode b_M_completeIfDone 103 = .ok (.aload_n 0, 1) := by decide +kernel
theorem d_M_completeIfDone_104 : decode b_M_completeIfDone 104 = .ok (.getfield 127, 3) := by decide +kernel
theorem d_M_completeIfDone_107 : decode b_M_completeIfDone 107 = .ok (.putfield 120, 3) := by decide +kernel
theorem d_M_completeIfDone_110 : decode b_M_completeIfDone 110 = .ok (.aload_n 0, 1) := by decide +kernel
theorem d_M_completeIfDone_111 : decode b_M_completeIfDone 111 = .ok (.iconst 0, 1) := by decide +kernel
theorem d_M_completeIfDone_112 : decode b_M_completeIfDone 112 = .ok (.putfield 127, 3) := by decide +kernel
theorem d_M_completeIfDone_115 : decode b_M_completeIfDone 115 = .ok (.aload_n 0, 1) := by decide +kernel
theorem d_M_completeIfDone_116 : decode b_M_completeIfDone 116 = .ok (.getfield 117, 3) := by decide +kernel
theorem d_M_completeIfDone_119 : decode b_M_completeIfDone 119 = .ok (.aload_n 0, 1) := by decide +kernel
theorem d_M_completeIfDone_120 : decode b_M_completeIfDone 120 = .ok (.getfield 120, 3) := by decide +kernel
theorem d_M_completeIfDone_123 : decode b_M_completeIfDone 123 = .ok (.if_icmp .ge 11, 3) := by decide +kernel
theorem d_M_completeIfDone_126 : decode b_M_completeIfDone 126 = .ok (.aload_n 0, 1) := by decide +kernel
theorem d_M_completeIfDone_127 : decode b_M_completeIfDone 127 = .ok (.aload_n 0, 1) := by decide +kernel
theorem d_M_completeIfDone_128 : decode b_M_completeIfDone 128 = .ok (.getfield 120, 3) := by decide +kernel
theorem d_M_completeIfDone_131 : decode b_M_completeIfDone 131 = .ok (.putfield 117, 3) := by decide +kernel
theorem d_M_completeIfDone_134 : decode b_M_completeIfDone 134 = .ok (.aload_n 0, 1) := by decide +kernel
theorem d_M_completeIfDone_135 : decode b_M_completeIfDone 135 = .ok (.getfield 120, 3) := by decide +kernel
theorem d_M_completeIfDone_138 : decode b_M_completeIfDone 138 = .ok (.iconst 1, 1) := by decide +kernel
theorem d_M_completeIfDone_139 : decode b_M_completeIfDone 139 = .ok (.iadd, 1) := by decide +kernel
theorem d_M_completeIfDone_140 : decode b_M_completeIfDone 140 = .ok (.istore_n 1, 1) := by decide +kernel
theorem d_M_completeIfDone_141 : decode b_M_completeIfDone 141 = .ok (.iload_n 1, 1) := by decide +kernel
theorem d_M_completeIfDone_142 : decode b_M_completeIfDone 142 = .ok (.aload_n 0, 1) := by decide +kernel
theorem d_M_completeIfDone_143 : decode b_M_completeIfDone 143 = .ok (.getfield 133, 3) := by decide +kernel
theorem d_M_completeIfDone_146 : decode b_M_completeIfDone 146 = .ok (.if_icmp .gt 32, 3) := by decide +kernel
theorem d_M_completeIfDone_149 : decode b_M_completeIfDone 149 = .ok (.aload_n 0, 1) := by decide +kernel
theorem d_M_completeIfDone_150 : decode b_M_completeIfDone 150 = .ok (.getfield 54, 3) := by decide +kernel
theorem d_M_completeIfDone_153 : decode b_M_completeIfDone 153 = .ok (.iload_n 1, 1) := by decide +kernel
theorem d_M_completeIfDone_154 : decode b_M_completeIfDone 154 = .ok (.iaload, 1) := by decide +kernel
theorem d_M_completeIfDone_155 : decode b_M_completeIfDone 155 = .ok (.ifCond .lt 17, 3) := by decide +kernel
theorem d_M_completeIfDone_158 : decode b_M_completeIfDone 158 = .ok (.aload_n 0, 1) := by decide +kernel
theorem d_M_completeIfDone_159 : decode b_M_completeIfDone 159 = .ok (.getfield 60, 3) := by decide +kernel
theorem d_M_completeIfDone_162 : decode b_M_completeIfDone 162 = .ok (.iload_n 1, 1) := by decide +kernel
theorem d_M_completeIfDone_163 : decode b_M_completeIfDone 163 = .ok (.baload, 1) := by decide +kernel
theorem d_M_completeIfDone_164 : decode b_M_completeIfDone 164 = .ok (.ifCond .eq 8, 3) := by decide +kernel
theorem d_M_completeIfDone_167 : decode b_M_completeIfDone 167 = .ok (.aload_n 0, 1) := by decide +kernel
theorem d_M_completeIfDone_168 : decode b_M_completeIfDone 168 = .ok (.iload_n 1, 1) := by decide +kernel
theorem d_M_completeIfDone_169 : decode b_M_completeIfDone 169 = .ok (.invokevirtual 123, 3) := by decide +kernel
theorem d_M_completeIfDone_172 : decode b_M_completeIfDone 172 = .ok (.iinc 1 1, 3) := by decide +kernel
theorem d_M_completeIfDone_175 : decode b_M_completeIfDone 175 = .ok (.goto (-34), 3) := by decide +kernel
theorem d_M_completeIfDone_178 : decode b_M_completeIfDone 178 = .ok (.aload_n 0, 1) := by decide +kernel
theorem d_M_completeIfDone_179 : decode b_M_completeIfDone 179 = .ok (.invokevirtual 136, 3) := by decide +kernel
theorem d_M_completeIfDone_182 : decode b_M_completeIfDone 182 = .ok (.return_, 1) := by decide +kernel
theorem d_M_step_0 : decode b_M_step 0 = .ok (.iload_n 1, 1) := by decide +kernel
theorem d_M_step_1 : decode b_M_step 1 = .ok (.aload_n 0, 1) := by decide +kernel
theorem d_M_step_2 : decode b_M_step 2 = .ok (.getfield 96, 3) := by decide +kernel
theorem d_M_step_5 : decode b_M_step 5 = .ok (.invokestatic 99, 3) := by decide +kernel
theorem d_M_step_8 : decode b_M_step 8 = .ok (.ifCond .eq 5, 3) := by decide +kernel
theorem d_M_step_11 : decode b_M_step 11 = .ok (.iconst (-1), 1) := by decide +kernel
theorem d_M_step_12 : decode b_M_step 12 = .ok (.ireturn, 1) := by decide +kernel
theorem d_M_step_13 : decode b_M_step 13 = .ok (.iconst 1, 1) := by decide +kernel
theorem d_M_step_14 : decode b_M_step 14 = .ok (.istore_n 2, 1) := by decide +kernel
theorem d_M_step_15 : decode b_M_step 15 = .ok (.iload_n 2, 1) := by decide +kernel
theorem d_M_step_16 : decode b_M_step 16 = .ok (.aload_n 0, 1) := by decide +kernel
theorem d_M_step_17 : decode b_M_step 17 = .ok (.getfield 133, 3) := by decide +kernel
theorem d_M_step_20 : decode b_M_step 20 = .ok (.if_icmp .gt 18, 3) := by decide +kernel
theorem d_M_step_23 : decode b_M_step 23 = .ok (.aload_n 0, 1) := by decide +kernel
theorem d_M_step_24 : decode b_M_step 24 = .ok (.iload_n 1, 1) := by decide +kernel
theorem d_M_step_25 : decode b_M_step 25 = .ok (.iload_n 2, 1) := by decide +kernel
theorem d_M_step_26 : decode b_M_step 26 = .ok (.invokevirtual 146, 3) := by decide +kernel
theorem d_M_step_29 : decode b_M_step 29 = .ok (.ifCond .ne 9, 3) := by decide +kernel
theorem d_M_step_32 : decode b_M_step 32 = .ok (.iinc 2 1, 3) := by decide +kernel
theorem d_M_step_35 : decode b_M_step 35 = .ok (.goto (-20), 3) := by decide +kernel
theorem d_M_step_38 : decode b_M_step 38 = .ok (.iload_n 2, 1) := by decide +kernel
theorem d_M_step_39 : decode b_M_step 39 = .ok (.aload_n 0, 1) := by decide +kernel
theorem d_M_step_40 : decode b_M_step 40 = .ok (.getfield 133, 3) := by decide +kernel
theorem d_M_step_43 : decode b_M_step 43 = .ok (.if_icmp .le 5, 3) := by decide +kernel
theorem d_M_step_46 : decode b_M_step 46 = .ok (.iconst 0, 1) := by decide +kernel
theorem d_M_step_47 : decode b_M_step 47 = .ok (.ireturn, 1) := by decide +kernel
theorem d_M_step_48 : decode b_M_step 48 = .ok (.aload_n 0, 1) := by decide +kernel
theorem d_M_step_49 : decode b_M_step 49 = .ok (.getfield 63, 3) := by decide +kernel
theorem d_M_step_52 : decode b_M_step 52 = .ok (.iload_n 2, 1) := by decide +kernel
theorem d_M_step_53 : decode b_M_step 53 = .ok (.dup2, 1) := by decide +kernel
theorem d_M_step_54 : decode b_M_step 54 = .ok (.iaload, 1) := by decide +kernel
theorem d_M_step_55 : decode b_M_step 55 = .ok (.iconst 1, 1) := by decide +kernel
theorem d_M_step_56 : decode b_M_step 56 = .ok (.iload_n 1, 1) := by decide +kernel
theorem d_M_step_57 : decode b_M_step 57 = .ok (.ishl, 1) := by decide +kernel
theorem d_M_step_58 : decode b_M_step 58 = .ok (.ior, 1) := by decide +kernel
theorem d_M_step_59 : decode b_M_step 59 = .ok (.iastore, 1) := by decide +kernel
theorem d_M_step_60 : decode b_M_step 60 = .ok (.aload_n 0, 1) := by decide +kernel
theorem d_M_step_61 : decode b_M_step 61 = .ok (.getfield 54, 3) := by decide +kernel
theorem d_M_step_64 : decode b_M_step 64 = .ok (.iload_n 2, 1) := by decide +kernel
theorem d_M_step_65 : decode b_M_step 65 = .ok (.iaload, 1) := by decide +kernel
theorem d_M_step_66 : decode b_M_step 66 = .ok (.ifCond .ge 28, 3) := by decide +kernel
theorem d_M_step_69 : decode b_M_step 69 = .ok (.iload_n 2, 1) := by decide +kernel
theorem d_M_step_70 : decode b_M_step 70 = .ok (.aload_n 0, 1) := by decide +kernel
theorem d_M_step_71 : decode b_M_step 71 = .ok (.getfield 127, 3) := by decide +kernel
theorem d_M_step_74 : decode b_M_step 74 = .ok (.if_icmp .ne 14, 3) := by decide +kernel
theorem d_M_step_77 : decode b_M_step 77 = .ok (.aload_n 0, 1) := by decide +kernel
theorem d_M_step_78 : decode b_M_step 78 = .ok (.getfield 75, 3) := by decide +kernel
theorem d_M_step_81 : decode b_M_step 81 = .ok (.iload_n 1, 1) := by decide +kernel
theorem d_M_step_82 : decode b_M_step 82 = .ok (.aload_n 0, 1) := by decide +kernel
theorem d_M_step_83 : decode b_M_step 83 = .ok (.iload_n 1, 1) := by decide +kernel
theorem d_M_step_84 : decode b_M_step 84 = .ok (.invokevirtual 149, 3) := by decide +kernel
theorem d_M_step_87 : decode b_M_step 87 = .ok (.iastore, 1) := by decide +kernel
theorem d_M_step_88 : decode b_M_step 88 = .ok (.aload_n 0, 1) := by decide +kernel
theorem d_M_step_89 : decode b_M_step 89 = .ok (.invokevirtual 152, 3) := by decide +kernel
theorem d_M_step_92 : decode b_M_step 92 = .ok (.iconst 3, 1) := by decide +kernel
theorem d_M_step_93 : decode b_M_step 93 = .ok (.ireturn, 1) := by decide +kernel
theorem d_M_step_94 : decode b_M_step 94 = .ok (.aload_n 0, 1) := by decide +kernel
theorem d_M_step_95 : decode b_M_step 95 = .ok (.getfield 32, 3) := by decide +kernel
theorem d_M_step_98 : decode b_M_step 98 = .ok (.aload_n 0, 1) := by decide +kernel
theorem d_M_step_99 : decode b_M_step 99 = .ok (.getfield 54, 3) := by decide +kernel
theorem d_M_step_102 : decode b_M_step 102 = .ok (.iload_n 2, 1) := by decide +kernel
theorem d_M_step_103 : decode b_M_step 103 = .ok (.iaload, 1) := by decide +kernel
theorem d_M_step_104 : decode b_M_step 104 = .ok (.baload, 1) := by decide +kernel
theorem d_M_step_105 : decode b_M_step 105 = .ok (.ifCond .eq 22, 3) := by decide +kernel
theorem d_M_step_108 : decode b_M_step 108 = .ok (.aload_n 0, 1) := by decide +kernel
theorem d_M_step_109 : decode b_M_step 109 = .ok (.getfield 63, 3) := by decide +kernel
theorem d_M_step_112 : decode b_M_step 112 = .ok (.iload_n 2, 1) := by decide +kernel
theorem d_M_step_113 : decode b_M_step 113 = .ok (.iaload, 1) := by decide +kernel
theorem d_M_step_114 : decode b_M_step 114 = .ok (.iconst 1, 1) := by decide +kernel
theorem d_M_step_115 : decode b_M_step 115 = .ok (.aload_n 0, 1) := by decide +kernel
theorem d_M_step_116 : decode b_M_step 116 = .ok (.getfield 96, 3) := by decide +kernel
theorem d_M_step_119 : decode b_M_step 119 = .ok (.ishl, 1) := by decide +kernel
theorem d_M_step_120 : decode b_M_step 120 = .ok (.iconst 1, 1) := by decide +kernel
theorem d_M_step_121 : decode b_M_step 121 = .ok (.isub, 1) := by decide +kernel
theorem d_M_step_122 : decode b_M_step 122 = .ok (.if_icmp .eq 5, 3) := by decide +kernel
theorem d_M_step_125 : decode b_M_step 125 = .ok (.iconst 2, 1) := by decide +kernel
theorem d_M_step_126 : decode b_M_step 126 = .ok (.ireturn, 1) := by decide +kernel
theorem d_M_step_127 : decode b_M_step 127 = .ok (.aload_n 0, 1) := by decide +kernel
theorem d_M_step_128 : decode b_M_step 128 = .ok (.iload_n 2, 1) := by decide +kernel
theorem d_M_step_129 : decode b_M_step 129 = .ok (.invokevirtual 123, 3) := by decide +kernel
theorem d_M_step_132 : decode b_M_step 132 = .ok (.aload_n 0, 1) := by decide +kernel
theorem d_M_step_133 : decode b_M_step 133 = .ok (.getfield 60, 3) := by decide +kernel
theorem d_M_step_136 : decode b_M_step 136 = .ok (.iload_n 2, 1) := by decide +kernel
theorem d_M_step_137 : decode b_M_step 137 = .ok (.iconst 1, 1) := by decide +kernel
theorem d_M_step_138 : decode b_M_step 138 = .ok (.bastore, 1) := by decide +kernel
theorem d_M_step_139 : decode b_M_step 139 = .ok (.aload_n 0, 1) := by decide +kernel
theorem d_M_step_140 : decode b_M_step 140 = .ok (.invokevirtual 136, 3) := by decide +kernel
theorem d_M_step_143 : decode b_M_step 143 = .ok (.iconst 1, 1) := by decide +kernel
theorem d_M_step_144 : decode b_M_step 144 = .ok (.ireturn, 1) := by decide +kernel
theorem d_M_flush_0 : decode b_M_flush 0 = .ok (.aload_n 0, 1) := by decide +kernel
theorem d_M_flush_1 : decode b_M_flush 1 = .ok (.aload_n 0, 1) := by decide +kernel
theorem d_M_flush_2 : decode b_M_flush 2 = .ok (.getfield 133, 3) := by decide +kernel
theorem d_M_flush_5 : decode b_M_flush 5 = .ok (.putfield 117, 3) := by decide +kernel
theorem d_M_flush_8 : decode b_M_flush 8 = .ok (.aload_n 0, 1) := by decide +kernel
theorem d_M_flush_9 : decode b_M_flush 9 = .ok (.invokevirtual 136, 3) := by decide +kernel
theorem d_M_flush_12 : decode b_M_flush 12 = .ok (.aload_n 0, 1) := by decide +kernel
theorem d_M_flush_13 : decode b_M_flush 13 = .ok (.getfield 117, 3) := by decide +kernel
theorem d_M_flush_16 : decode b_M_flush 16 = .ok (.ireturn, 1) := by decide +kernel
theorem d_M_snapshot_0 : decode b_M_snapshot 0 = .ok (.aload_n 0, 1) := by decide +kernel
theorem d_M_snapshot_1 : decode b_M_snapshot 1 = .ok (.getfield 127, 3) := by decide +kernel
theorem d_M_snapshot_4 : decode b_M_snapshot 4 = .ok (.ifCond .le 5, 3) := by decide +kernel
theorem d_M_snapshot_7 : decode b_M_snapshot 7 = .ok (.iconst (-1), 1) := by decide +kernel
theorem d_M_snapshot_8 : decode b_M_snapshot 8 = .ok (.ireturn, 1) := by decide +kernel
theorem d_M_snapshot_9 : decode b_M_snapshot 9 = .ok (.aload_n 0, 1) := by decide +kernel
theorem d_M_snapshot_10 : decode b_M_snapshot 10 = .ok (.aload_n 0, 1) := by decide +kernel
theorem d_M_snapshot_11 : decode b_M_snapshot 11 = .ok (.iconst (-1), 1) := by decide +kernel
theorem d_M_snapshot_12 : decode b_M_snapshot 12 = .ok (.invokevirtual 143, 3) := by decide +kernel
theorem d_M_snapshot_15 : decode b_M_snapshot 15 = .ok (.putfield 127, 3) := by decide +kernel
theorem d_M_snapshot_18 : decode b_M_snapshot 18 = .ok (.aload_n 0, 1) := by decide +kernel
theorem d_M_snapshot_19 : decode b_M_snapshot 19 = .ok (.getfield 127, 3) := by decide +kernel
theorem d_M_snapshot_22 : decode b_M_snapshot 22 = .ok (.ireturn, 1) := by decide +kernel
theorem d_M_scan_0 : decode b_M_scan 0 = .ok (.iload_n 1, 1) := by decide +kernel
theorem d_M_scan_1 : decode b_M_scan 1 = .ok (.aload_n 0, 1) := by decide +kernel
theorem d_M_scan_2 : decode b_M_scan 2 = .ok (.getfield 96, 3) := by decide +kernel
theorem d_M_scan_5 : decode b_M_scan 5 = .ok (.invokestatic 99, 3) := by decide +kernel
theorem d_M_scan_8 : decode b_M_scan 8 = .ok (.ifCond .ne 26, 3) := by decide +kernel
theorem d_M_scan_11 : decode b_M_scan 11 = .ok (.aload_n 0, 1) := by decide +kernel
theorem d_M_scan_12 : decode b_M_scan 12 = .ok (.getfield 127, 3) := by decide +kernel
theorem d_M_scan_15 : decode b_M_scan 15 = .ok (.ifCond .eq 19, 3) := by decide +kernel
theorem d_M_scan_18 : decode b_M_scan 18 = .ok (.aload_n 0, 1) := by decide +kernel
theorem d_M_scan_19 : decode b_M_scan 19 = .ok (.getfield 63, 3) := by decide +kernel
theorem d_M_scan_22 : decode b_M_scan 22 = .ok (.aload_n 0, 1) := by decide +kernel
theorem d_M_scan_23 : decode b_M_scan 23 = .ok (.getfield 127, 3) := by decide +kernel
theorem d_M_scan_26 : decode b_M_scan 26 = .ok (.iaload, 1) := by decide +kernel
theorem d_M_scan_27 : decode b_M_scan 27 = .ok (.iload_n 1, 1) := by decide +kernel
theorem d_M_scan_28 : decode b_M_scan 28 = .ok (.ishr, 1) := by decide +kernel
theorem d_M_scan_29 : decode b_M_scan 29 = .ok (.iconst 1, 1) := by decide +kernel
theorem d_M_scan_30 : decode b_M_scan 30 = .ok (.iand, 1) := by decide +kernel
theorem d_M_scan_31 : decode b_M_scan 31 = .ok (.ifCond .ne 5, 3) := by decide +kernel
theorem d_M_scan_34 : decode b_M_scan 34 = .ok (.iconst (-1), 1) := by decide +kernel
theorem d_M_scan_35 : decode b_M_scan 35 = .ok (.ireturn, 1) := by decide +kernel
theorem d_M_scan_36 : decode b_M_scan 36 = .ok (.iload_n 2, 1) := by decide +kernel
theorem d_M_scan_37 : decode b_M_scan 37 = .ok (.ifCond .ge 7, 3) := by decide +kernel
theorem d_M_scan_40 : decode b_M_scan 40 = .ok (.iconst 0, 1) := by decide +kernel
theorem d_M_scan_41 : decode b_M_scan 41 = .ok (.goto 4, 3) := by decide +kernel
theorem d_M_scan_44 : decode b_M_scan 44 = .ok (.iload_n 2, 1) := by decide +kernel
theorem d_M_scan_45 : decode b_M_scan 45 = .ok (.istore_n 3, 1) := by decide +kernel
theorem d_M_scan_46 : decode b_M_scan 46 = .ok (.aload_n 0, 1) := by decide +kernel
theorem d_M_scan_47 : decode b_M_scan 47 = .ok (.getfield 75, 3) := by decide +kernel
theorem d_M_scan_50 : decode b_M_scan 50 = .ok (.iload_n 1, 1) := by decide +kernel
theorem d_M_scan_51 : decode b_M_scan 51 = .ok (.iaload, 1) := by decide +kernel
theorem d_M_scan_52 : decode b_M_scan 52 = .ok (.iload_n 3, 1) := by decide +kernel
theorem d_M_scan_53 : decode b_M_scan 53 = .ok (.if_icmp .le 14, 3) := by decide +kernel
theorem d_M_scan_56 : decode b_M_scan 56 = .ok (.aload_n 0, 1) := by decide +kernel
theorem d_M_scan_57 : decode b_M_scan 57 = .ok (.getfield 75, 3) := by decide +kernel
theorem d_M_scan_60 : decode b_M_scan 60 = .ok (.iload_n 1, 1) := by decide +kernel
theorem d_M_scan_61 : decode b_M_scan 61 = .ok (.iaload, 1) := by decide +kernel
theorem d_M_scan_62 : decode b_M_scan 62 = .ok (.iload_n 3, 1) := by decide +kernel
theorem d_M_scan_63 : decode b_M_scan 63 = .ok (.isub, 1) := by decide +kernel
theorem d_M_scan_64 : decode b_M_scan 64 = .ok (.goto 4, 3) := by decide +kernel
theorem d_M_scan_67 : decode b_M_scan 67 = .ok (.iconst 0, 1) := by decide +kernel
theorem d_M_scan_68 : decode b_M_scan 68 = .ok (.istore 4, 2) := by decide +kernel
theorem d_M_scan_70 : decode b_M_scan 70 = .ok (.aload_n 0, 1) := by decide +kernel
theorem d_M_scan_71 : decode b_M_scan 71 = .ok (.getfield 75, 3) := by decide +kernel
theorem d_M_scan_74 : decode b_M_scan 74 = .ok (.iload_n 1, 1) := by decide +kernel
theorem d_M_scan_75 : decode b_M_scan 75 = .ok (.iload 4, 2) := by decide +kernel
theorem d_M_scan_77 : decode b_M_scan 77 = .ok (.iastore, 1) := by decide +kernel
theorem d_M_scan_78 : decode b_M_scan 78 = .ok (.aload_n 0, 1) := by decide +kernel
theorem d_M_scan_79 : decode b_M_scan 79 = .ok (.invokevirtual 152, 3) := by decide +kernel
theorem d_M_scan_82 : decode b_M_scan 82 = .ok (.iload 4, 2) := by decide +kernel
theorem d_M_scan_84 : decode b_M_scan 84 = .ok (.ireturn, 1) := by decide +kernel
theorem d_M_crash_0 : decode b_M_crash 0 = .ok (.aload_n 0, 1) := by decide +kernel
theorem d_M_crash_1 : decode b_M_crash 1 = .ok (.aload_n 0, 1) := by decide +kernel
theorem d_M_crash_2 : decode b_M_crash 2 = .ok (.getfield 117, 3) := by decide +kernel
theorem d_M_crash_5 : decode b_M_crash 5 = .ok (.putfield 133, 3) := by decide +kernel
theorem d_M_crash_8 : decode b_M_crash 8 = .ok (.aload_n 0, 1) := by decide +kernel
theorem d_M_crash_9 : decode b_M_crash 9 = .ok (.aload_n 0, 1) := by decide +kernel
theorem d_M_crash_10 : decode b_M_crash 10 = .ok (.getfield 133, 3) := by decide +kernel
theorem d_M_crash_13 : decode b_M_crash 13 = .ok (.invokevirtual 130, 3) := by decide +kernel
theorem d_M_crash_16 : decode b_M_crash 16 = .ok (.aload_n 0, 1) := by decide +kernel
theorem d_M_crash_17 : decode b_M_crash 17 = .ok (.iconst 0, 1) := by decide +kernel
theorem d_M_crash_18 : decode b_M_crash 18 = .ok (.putfield 127, 3) := by decide +kernel
theorem d_M_crash_21 : decode b_M_crash 21 = .ok (.iconst 1, 1) := by decide +kernel
theorem d_M_crash_22 : decode b_M_crash 22 = .ok (.istore_n 1, 1) := by decide +kernel
theorem d_M_crash_23 : decode b_M_crash 23 = .ok (.iload_n 1, 1) := by decide +kernel
theorem d_M_crash_24 : decode b_M_crash 24 = .ok (.aload_n 0, 1) := by decide +kernel
theorem d_M_crash_25 : decode b_M_crash 25 = .ok (.getfield 133, 3) := by decide +kernel
theorem d_M_crash_28 : decode b_M_crash 28 = .ok (.if_icmp .gt 16, 3) := by decide +kernel
theorem d_M_crash_31 : decode b_M_crash 31 = .ok (.aload_n 0, 1) := by decide +kernel
theorem d_M_crash_32 : decode b_M_crash 32 = .ok (.getfield 60, 3) := by decide +kernel
theorem d_M_crash_35 : decode b_M_crash 35 = .ok (.iload_n 1, 1) := by decide +kernel
theorem d_M_crash_36 : decode b_M_crash 36 = .ok (.iconst 1, 1) := by decide +kernel
theorem d_M_crash_37 : decode b_M_crash 37 = .ok (.bastore, 1) := by decide +kernel
theorem d_M_crash_38 : decode b_M_crash 38 = .ok (.iinc 1 1, 3) := by decide +kernel
theorem d_M_crash_41 : decode b_M_crash 41 = .ok (.goto (-18), 3) := by decide +kernel
theorem d_M_crash_44 : decode b_M_crash 44 = .ok (.iconst 0, 1) := by decide +kernel
theorem d_M_crash_45 : decode b_M_crash 45 = .ok (.istore_n 1, 1) := by decide +kernel
theorem d_M_crash_46 : decode b_M_crash 46 = .ok (.iload_n 1, 1) := by decide +kernel
theorem d_M_crash_47 : decode b_M_crash 47 = .ok (.iconst 4, 1) := by decide +kernel
theorem d_M_crash_48 : decode b_M_crash 48 = .ok (.if_icmp .ge 26, 3) := by decide +kernel
theorem d_M_crash_51 : decode b_M_crash 51 = .ok (.aload_n 0, 1) := by decide +kernel
theorem d_M_crash_52 : decode b_M_crash 52 = .ok (.getfield 78, 3) := by decide +kernel
theorem d_M_crash_55 : decode b_M_crash 55 = .ok (.iload_n 1, 1) := by decide +kernel
theorem d_M_crash_56 : decode b_M_crash 56 = .ok (.iaload, 1) := by decide +kernel
theorem d_M_crash_57 : decode b_M_crash 57 = .ok (.iconst 1, 1) := by decide +kernel
theorem d_M_crash_58 : decode b_M_crash 58 = .ok (.if_icmp .ne 10, 3) := by decide +kernel
theorem d_M_crash_61 : decode b_M_crash 61 = .ok (.aload_n 0, 1) := by decide +kernel
theorem d_M_crash_62 : decode b_M_crash 62 = .ok (.getfield 78, 3) := by decide +kernel
theorem d_M_crash_65 : decode b_M_crash 65 = .ok (.iload_n 1, 1) := by decide +kernel
theorem d_M_crash_66 : decode b_M_crash 66 = .ok (.iconst 4, 1) := by decide +kernel
theorem d_M_crash_67 : decode b_M_crash 67 = .ok (.iastore, 1) := by decide +kernel
theorem d_M_crash_68 : decode b_M_crash 68 = .ok (.iinc 1 1, 3) := by decide +kernel
theorem d_M_crash_71 : decode b_M_crash 71 = .ok (.goto (-25), 3) := by decide +kernel
theorem d_M_crash_74 : decode b_M_crash 74 = .ok (.aload_n 0, 1) := by decide +kernel
theorem d_M_crash_75 : decode b_M_crash 75 = .ok (.getfield 117, 3) := by decide +kernel
theorem d_M_crash_78 : decode b_M_crash 78 = .ok (.ireturn, 1) := by decide +kernel
theorem d_M_answer_0 : decode b_M_answer 0 = .ok (.iload_n 1, 1) := by decide +kernel
theorem d_M_answer_1 : decode b_M_answer 1 = .ok (.iconst 4, 1) := by decide +kernel
theorem d_M_answer_2 : decode b_M_answer 2 = .ok (.invokestatic 99, 3) := by decide +kernel
theorem d_M_answer_5 : decode b_M_answer 5 = .ok (.ifCond .eq 7, 3) := by decide +kernel
theorem d_M_answer_8 : decode b_M_answer 8 = .ok (.iconst (-1), 1) := by decide +kernel
theorem d_M_answer_9 : decode b_M_answer 9 = .ok (.goto 9, 3) := by decide +kernel
theorem d_M_answer_12 : decode b_M_answer 12 = .ok (.aload_n 0, 1) := by decide +kernel
theorem d_M_answer_13 : decode b_M_answer 13 = .ok (.getfield 78, 3) := by decide +kernel
theorem d_M_answer_16 : decode b_M_answer 16 = .ok (.iload_n 1, 1) := by decide +kernel
theorem d_M_answer_17 : decode b_M_answer 17 = .ok (.iaload, 1) := by decide +kernel
theorem d_M_answer_18 : decode b_M_answer 18 = .ok (.ireturn, 1) := by decide +kernel
theorem d_M_output_0 : decode b_M_output 0 = .ok (.iload_n 1, 1) := by decide +kernel
theorem d_M_output_1 : decode b_M_output 1 = .ok (.iconst 4, 1) := by decide +kernel
theorem d_M_output_2 : decode b_M_output 2 = .ok (.invokestatic 99, 3) := by decide +kernel
theorem d_M_output_5 : decode b_M_output 5 = .ok (.ifCond .eq 7, 3) := by decide +kernel
theorem d_M_output_8 : decode b_M_output 8 = .ok (.ldc2_w 155, 3) := by decide +kernel
theorem d_M_output_11 : decode b_M_output 11 = .ok (.lreturn, 1) := by decide +kernel
theorem d_M_output_12 : decode b_M_output 12 = .ok (.aload_n 0, 1) := by decide +kernel
theorem d_M_output_13 : decode b_M_output 13 = .ok (.getfield 78, 3) := by decide +kernel
theorem d_M_output_16 : decode b_M_output 16 = .ok (.iload_n 1, 1) := by decide +kernel
theorem d_M_output_17 : decode b_M_output 17 = .ok (.iaload, 1) := by decide +kernel
theorem d_M_output_18 : decode b_M_output 18 = .ok (.iconst 3, 1) := by decide +kernel
theorem d_M_output_19 : decode b_M_output 19 = .ok (.if_icmp .ne 22, 3) := by decide +kernel
theorem d_M_output_22 : decode b_M_output 22 = .ok (.iload_n 2, 1) := by decide +kernel
theorem d_M_output_23 : decode b_M_output 23 = .ok (.iconst (-1), 1) := by decide +kernel
theorem d_M_output_24 : decode b_M_output 24 = .ok (.if_icmp .ne 13, 3) := by decide +kernel
theorem d_M_output_27 : decode b_M_output 27 = .ok (.aload_n 0, 1) := by decide +kernel
theorem d_M_output_28 : decode b_M_output 28 = .ok (.getfield 90, 3) := by decide +kernel
theorem d_M_output_31 : decode b_M_output 31 = .ok (.iload_n 1, 1) := by decide +kernel
theorem d_M_output_32 : decode b_M_output 32 = .ok (.iaload, 1) := by decide +kernel
theorem d_M_output_33 : decode b_M_output 33 = .ok (.i2l, 1) := by decide +kernel
theorem d_M_output_34 : decode b_M_output 34 = .ok (.goto 6, 3) := by decide +kernel
theorem d_M_output_37 : decode b_M_output 37 = .ok (.ldc2_w 155, 3) := by decide +kernel
theorem d_M_output_40 : decode b_M_output 40 = .ok (.lreturn, 1) := by decide +kernel
theorem d_M_output_41 : decode b_M_output 41 = .ok (.aload_n 0, 1) := by decide +kernel
theorem d_M_output_42 : decode b_M_output 42 = .ok (.getfield 78, 3) := by decide +kernel
theorem d_M_output_45 : decode b_M_output 45 = .ok (.iload_n 1, 1) := by decide +kernel
theorem d_M_output_46 : decode b_M_output 46 = .ok (.iaload, 1) := by decide +kernel
theorem d_M_output_47 : decode b_M_output 47 = .ok (.iconst 2, 1) := by decide +kernel
theorem d_M_output_48 : decode b_M_output 48 = .ok (.if_icmp .eq 7, 3) := by decide +kernel
theorem d_M_output_51 : decode b_M_output 51 = .ok (.ldc2_w 155, 3) := by decide +kernel
theorem d_M_output_54 : decode b_M_output 54 = .ok (.lreturn, 1) := by decide +kernel
theorem d_M_output_55 : decode b_M_output 55 = .ok (.iload_n 2, 1) := by decide +kernel
theorem d_M_output_56 : decode b_M_output 56 = .ok (.iconst (-1), 1) := by decide +kernel
theorem d_M_output_57 : decode b_M_output 57 = .ok (.if_icmp .ne 11, 3) := by decide +kernel
theorem d_M_output_60 : decode b_M_output 60 = .ok (.aload_n 0, 1) := by decide +kernel
theorem d_M_output_61 : decode b_M_output 61 = .ok (.getfield 84, 3) := by decide +kernel
theorem d_M_output_64 : decode b_M_output 64 = .ok (.iload_n 1, 1) := by decide +kernel
theorem d_M_output_65 : decode b_M_output 65 = .ok (.iaload, 1) := by decide +kernel
theorem d_M_output_66 : decode b_M_output 66 = .ok (.i2l, 1) := by decide +kernel
theorem d_M_output_67 : decode b_M_output 67 = .ok (.lreturn, 1) := by decide +kernel
theorem d_M_output_68 : decode b_M_output 68 = .ok (.iload_n 2, 1) := by decide +kernel
theorem d_M_output_69 : decode b_M_output 69 = .ok (.aload_n 0, 1) := by decide +kernel
theorem d_M_output_70 : decode b_M_output 70 = .ok (.getfield 84, 3) := by decide +kernel
theorem d_M_output_73 : decode b_M_output 73 = .ok (.iload_n 1, 1) := by decide +kernel
theorem d_M_output_74 : decode b_M_output 74 = .ok (.iaload, 1) := by decide +kernel
theorem d_M_output_75 : decode b_M_output 75 = .ok (.invokestatic 99, 3) := by decide +kernel
theorem d_M_output_78 : decode b_M_output 78 = .ok (.ifCond .eq 9, 3) := by decide +kernel
theorem d_M_output_81 : decode b_M_output 81 = .ok (.ldc2_w 155, 3) := by decide +kernel
theorem d_M_output_84 : decode b_M_output 84 = .ok (.goto 14, 3) := by decide +kernel
theorem d_M_output_87 : decode b_M_output 87 = .ok (.aload_n 0, 1) := by decide +kernel
theorem d_M_output_88 : decode b_M_output 88 = .ok (.getfield 87, 3) := by decide +kernel
theorem d_M_output_91 : decode b_M_output 91 = .ok (.iconst 4, 1) := by decide +kernel
theorem d_M_output_92 : decode b_M_output 92 = .ok (.iload_n 1, 1) := by decide +kernel
theorem d_M_output_93 : decode b_M_output 93 = .ok (.imul, 1) := by decide +kernel
theorem d_M_output_94 : decode b_M_output 94 = .ok (.iload_n 2, 1) := by decide +kernel
theorem d_M_output_95 : decode b_M_output 95 = .ok (.iadd, 1) := by decide +kernel
theorem d_M_output_96 : decode b_M_output 96 = .ok (.iaload, 1) := by decide +kernel
theorem d_M_output_97 : decode b_M_output 97 = .ok (.i2l, 1) := by decide +kernel
theorem d_M_output_98 : decode b_M_output 98 = .ok (.lreturn, 1) := by decide +kernel
theorem d_M_row_0 : decode b_M_row 0 = .ok (.iload_n 1, 1) := by decide +kernel
theorem d_M_row_1 : decode b_M_row 1 = .ok (.bipush 32, 2) := by decide +kernel
theorem d_M_row_3 : decode b_M_row 3 = .ok (.invokestatic 99, 3) := by decide +kernel
theorem d_M_row_6 : decode b_M_row 6 = .ok (.ifCond .ne 12, 3) := by decide +kernel
theorem d_M_row_9 : decode b_M_row 9 = .ok (.aload_n 0, 1) := by decide +kernel
theorem d_M_row_10 : decode b_M_row 10 = .ok (.getfield 7, 3) := by decide +kernel
theorem d_M_row_13 : decode b_M_row 13 = .ok (.iload_n 1, 1) := by decide +kernel
theorem d_M_row_14 : decode b_M_row 14 = .ok (.baload, 1) := by decide +kernel
theorem d_M_row_15 : decode b_M_row 15 = .ok (.ifCond .ne 9, 3) := by decide +kernel
theorem d_M_row_18 : decode b_M_row 18 = .ok (.ldc2_w 155, 3) := by decide +kernel
theorem d_M_row_21 : decode b_M_row 21 = .ok (.goto 10, 3) := by decide +kernel
theorem d_M_row_24 : decode b_M_row 24 = .ok (.aload_n 0, 1) := by decide +kernel
theorem d_M_row_25 : decode b_M_row 25 = .ok (.getfield 13, 3) := by decide +kernel
theorem d_M_row_28 : decode b_M_row 28 = .ok (.iload_n 1, 1) := by decide +kernel
theorem d_M_row_29 : decode b_M_row 29 = .ok (.iaload, 1) := by decide +kernel
theorem d_M_row_30 : decode b_M_row 30 = .ok (.i2l, 1) := by decide +kernel
theorem d_M_row_31 : decode b_M_row 31 = .ok (.lreturn, 1) := by decide +kernel
theorem d_M_replicated_0 : decode b_M_replicated 0 = .ok (.iload_n 1, 1) := by decide +kernel
theorem d_M_replicated_1 : decode b_M_replicated 1 = .ok (.bipush 8, 2) := by decide +kernel
theorem d_M_replicated_3 : decode b_M_replicated 3 = .ok (.invokestatic 99, 3) := by decide +kernel
theorem d_M_replicated_6 : decode b_M_replicated 6 = .ok (.ifCond .eq 9, 3) := by decide +kernel
theorem d_M_replicated_9 : decode b_M_replicated 9 = .ok (.ldc2_w 155, 3) := by decide +kernel
theorem d_M_replicated_12 : decode b_M_replicated 12 = .ok (.goto 13, 3) := by decide +kernel
theorem d_M_replicated_15 : decode b_M_replicated 15 = .ok (.aload_n 0, 1) := by decide +kernel
theorem d_M_replicated_16 : decode b_M_replicated 16 = .ok (.getfield 13, 3) := by decide +kernel
theorem d_M_replicated_19 : decode b_M_replicated 19 = .ok (.bipush 32, 2) := by decide +kernel
theorem d_M_replicated_21 : decode b_M_replicated 21 = .ok (.iload_n 1, 1) := by decide +kernel
theorem d_M_replicated_22 : decode b_M_replicated 22 = .ok (.iadd, 1) := by decide +kernel
theorem d_M_replicated_23 : decode b_M_replicated 23 = .ok (.iaload, 1) := by decide +kernel
theorem d_M_replicated_24 : decode b_M_replicated 24 = .ok (.i2l, 1) := by decide +kernel
theorem d_M_replicated_25 : decode b_M_replicated 25 = .ok (.lreturn, 1) := by decide +kernel
theorem d_M_waiting_0 : decode b_M_waiting 0 = .ok (.iload_n 1, 1) := by decide +kernel
theorem d_M_waiting_1 : decode b_M_waiting 1 = .ok (.aload_n 0, 1) := by decide +kernel
theorem d_M_waiting_2 : decode b_M_waiting 2 = .ok (.getfield 96, 3) := by decide +kernel
theorem d_M_waiting_5 : decode b_M_waiting 5 = .ok (.invokestatic 99, 3) := by decide +kernel
theorem d_M_waiting_8 : decode b_M_waiting 8 = .ok (.ifCond .eq 5, 3) := by decide +kernel
theorem d_M_waiting_11 : decode b_M_waiting 11 = .ok (.iconst (-1), 1) := by decide +kernel
theorem d_M_waiting_12 : decode b_M_waiting 12 = .ok (.ireturn, 1) := by decide +kernel
theorem d_M_waiting_13 : decode b_M_waiting 13 = .ok (.iconst 0, 1) := by decide +kernel
theorem d_M_waiting_14 : decode b_M_waiting 14 = .ok (.istore_n 2, 1) := by decide +kernel
theorem d_M_waiting_15 : decode b_M_waiting 15 = .ok (.iconst 1, 1) := by decide +kernel
theorem d_M_waiting_16 : decode b_M_waiting 16 = .ok (.istore_n 3, 1) := by decide +kernel
theorem d_M_waiting_17 : decode b_M_waiting 17 = .ok (.iload_n 3, 1) := by decide +kernel
theorem d_M_waiting_18 : decode b_M_waiting 18 = .ok (.aload_n 0, 1) := by decide +kernel
theorem d_M_waiting_19 : decode b_M_waiting 19 = .ok (.getfield 133, 3) := by decide +kernel
theorem d_M_waiting_22 : decode b_M_waiting 22 = .ok (.if_icmp .gt 21, 3) := by decide +kernel
theorem d_M_waiting_25 : decode b_M_waiting 25 = .ok (.aload_n 0, 1) := by decide +kernel
theorem d_M_waiting_26 : decode b_M_waiting 26 = .ok (.iload_n 1, 1) := by decide +kernel
theorem d_M_waiting_27 : decode b_M_waiting 27 = .ok (.iload_n 3, 1) := by decide +kernel
theorem d_M_waiting_28 : decode b_M_waiting 28 = .ok (.invokevirtual 146, 3) := by decide +kernel
theorem d_M_waiting_31 : decode b_M_waiting 31 = .ok (.ifCond .eq 6, 3) := by decide +kernel
theorem d_M_waiting_34 : decode b_M_waiting 34 = .ok (.iinc 2 1, 3) := by decide +kernel
theorem d_M_waiting_37 : decode b_M_waiting 37 = .ok (.iinc 3 1, 3) := by decide +kernel
theorem d_M_waiting_40 : decode b_M_waiting 40 = .ok (.goto (-23), 3) := by decide +kernel
theorem d_M_waiting_43 : decode b_M_waiting 43 = .ok (.iload_n 2, 1) := by decide +kernel
theorem d_M_waiting_44 : decode b_M_waiting 44 = .ok (.ireturn, 1) := by decide +kernel
