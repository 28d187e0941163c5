theorem d_M_add_0 : decode b_M_add 0 = .ok (.aload_n 0, 1) := by decide +kernel
theorem d_M_add_1 : decode b_M_add 1 = .ok (.getfield 50, 3) := by decide +kernel
theorem d_M_add_4 : decode b_M_add 4 = .ok (.ifCond .lt 21, 3) := by decide +kernel
theorem d_M_add_7 : decode b_M_add 7 = .ok (.iload_n 1, 1) := by decide +kernel
theorem d_M_add_8 : decode b_M_add 8 = .ok (.bipush 11, 2) := by decide +kernel
theorem d_M_add_10 : decode b_M_add 10 = .ok (.invokestatic 99, 3) := by decide +kernel
theorem d_M_add_13 : decode b_M_add 13 = .ok (.ifCond .ne 12, 3) := by decide +kernel
theorem d_M_add_16 : decode b_M_add 16 = .ok (.iload_n 2, 1) := by decide +kernel
theorem d_M_add_17 : decode b_M_add 17 = .ok (.bipush 6, 2) := by decide +kernel
theorem d_M_add_19 : decode b_M_add 19 = .ok (.invokestatic 99, 3) := by decide +kernel
theorem d_M_add_22 : decode b_M_add 22 = .ok (.ifCond .eq 5, 3) := by decide +kernel
theorem d_M_add_25 : decode b_M_add 25 = .ok (.iconst (-1), 1) := by decide +kernel
theorem d_M_add_26 : decode b_M_add 26 = .ok (.ireturn, 1) := by decide +kernel
theorem d_M_add_27 : decode b_M_add 27 = .ok (.iload_n 1, 1) := by decide +kernel
theorem d_M_add_28 : decode b_M_add 28 = .ok (.iconst 3, 1) := by decide +kernel
theorem d_M_add_29 : decode b_M_add 29 = .ok (.if_icmp .eq 24, 3) := by decide +kernel
theorem d_M_add_32 : decode b_M_add 32 = .ok (.iload_n 1, 1) := by decide +kernel
theorem d_M_add_33 : decode b_M_add 33 = .ok (.iconst 5, 1) := by decide +kernel
theorem d_M_add_34 : decode b_M_add 34 = .ok (.if_icmp .eq 19, 3) := by decide +kernel
theorem d_M_add_37 : decode b_M_add 37 = .ok (.iload_n 1, 1) := by decide +kernel
theorem d_M_add_38 : decode b_M_add 38 = .ok (.bipush 7, 2) := by decide +kernel
theorem d_M_add_40 : decode b_M_add 40 = .ok (.if_icmp .eq 13, 3) := by decide +kernel
theorem d_M_add_43 : decode b_M_add 43 = .ok (.iload_n 1, 1) := by decide +kernel
theorem d_M_add_44 : decode b_M_add 44 = .ok (.bipush 10, 2) := by decide +kernel
theorem d_M_add_46 : decode b_M_add 46 = .ok (.if_icmp .eq 7, 3) := by decide +kernel
theorem d_M_add_49 : decode b_M_add 49 = .ok (.iconst 1, 1) := by decide +kernel
theorem d_M_add_50 : decode b_M_add 50 = .ok (.goto 4, 3) := by decide +kernel
theorem d_M_add_53 : decode b_M_add 53 = .ok (.iconst 0, 1) := by decide +kernel
theorem d_M_add_54 : decode b_M_add 54 = .ok (.istore 5, 2) := by decide +kernel
theorem d_M_add_56 : decode b_M_add 56 = .ok (.iload 5, 2) := by decide +kernel
theorem d_M_add_58 : decode b_M_add 58 = .ok (.ifCond .eq 12, 3) := by decide +kernel
theorem d_M_add_61 : decode b_M_add 61 = .ok (.iload_n 3, 1) := by decide +kernel
theorem d_M_add_62 : decode b_M_add 62 = .ok (.bipush 6, 2) := by decide +kernel
theorem d_M_add_64 : decode b_M_add 64 = .ok (.invokestatic 99, 3) := by decide +kernel
theorem d_M_add_67 : decode b_M_add 67 = .ok (.ifCond .ne 35, 3) := by decide +kernel
theorem d_M_add_70 : decode b_M_add 70 = .ok (.iload_n 1, 1) := by decide +kernel
theorem d_M_add_71 : decode b_M_add 71 = .ok (.iconst 4, 1) := by decide +kernel
theorem d_M_add_72 : decode b_M_add 72 = .ok (.if_icmp .ne 13, 3) := by decide +kernel
theorem d_M_add_75 : decode b_M_add 75 = .ok (.iload 4, 2) := by decide +kernel
theorem d_M_add_77 : decode b_M_add 77 = .ok (.bipush 6, 2) := by decide +kernel
theorem d_M_add_79 : decode b_M_add 79 = .ok (.invokestatic 99, 3) := by decide +kernel
theorem d_M_add_82 : decode b_M_add 82 = .ok (.ifCond .ne 20, 3) := by decide +kernel
theorem d_M_add_85 : decode b_M_add 85 = .ok (.iload_n 1, 1) := by decide +kernel
theorem d_M_add_86 : decode b_M_add 86 = .ok (.bipush 7, 2) := by decide +kernel
theorem d_M_add_88 : decode b_M_add 88 = .ok (.if_icmp .ne 16, 3) := by decide +kernel
theorem d_M_add_91 : decode b_M_add 91 = .ok (.iload_n 3, 1) := by decide +kernel
theorem d_M_add_92 : decode b_M_add 92 = .ok (.iconst 1, 1) := by decide +kernel
theorem d_M_add_93 : decode b_M_add 93 = .ok (.if_icmp .lt 9, 3) := by decide +kernel
theorem d_M_add_96 : decode b_M_add 96 = .ok (.iload_n 3, 1) := by decide +kernel
theorem d_M_add_97 : decode b_M_add 97 = .ok (.bipush 7, 2) := by decide +kernel
theorem d_M_add_99 : decode b_M_add 99 = .ok (.if_icmp .le 5, 3) := by decide +kernel
theorem d_M_add_102 : decode b_M_add 102 = .ok (.iconst (-1), 1) := by decide +kernel
theorem d_M_add_103 : decode b_M_add 103 = .ok (.ireturn, 1) := by decide +kernel
theorem d_M_add_104 : decode b_M_add 104 = .ok (.aload_n 0, 1) := by decide +kernel
theorem d_M_add_105 : decode b_M_add 105 = .ok (.getfield 35, 3) := by decide +kernel
theorem d_M_add_108 : decode b_M_add 108 = .ok (.bipush 6, 2) := by decide +kernel
theorem d_M_add_110 : decode b_M_add 110 = .ok (.iaload, 1) := by decide +kernel
theorem d_M_add_111 : decode b_M_add 111 = .ok (.istore 6, 2) := by decide +kernel
theorem d_M_add_113 : decode b_M_add 113 = .ok (.iload 6, 2) := by decide +kernel
theorem d_M_add_115 : decode b_M_add 115 = .ok (.bipush 8, 2) := by decide +kernel
theorem d_M_add_117 : decode b_M_add 117 = .ok (.if_icmp .ne 6, 3) := by decide +kernel
theorem d_M_add_120 : decode b_M_add 120 = .ok (.bipush (-2), 2) := by decide +kernel
theorem d_M_add_122 : decode b_M_add 122 = .ok (.ireturn, 1) := by decide +kernel
theorem d_M_add_123 : decode b_M_add 123 = .ok (.aload_n 0, 1) := by decide +kernel
theorem d_M_add_124 : decode b_M_add 124 = .ok (.getfield 38, 3) := by decide +kernel
theorem d_M_add_127 : decode b_M_add 127 = .ok (.bipush 48, 2) := by decide +kernel
theorem d_M_add_129 : decode b_M_add 129 = .ok (.iload 6, 2) := by decide +kernel
theorem d_M_add_131 : decode b_M_add 131 = .ok (.iadd, 1) := by decide +kernel
theorem d_M_add_132 : decode b_M_add 132 = .ok (.iload_n 1, 1) := by decide +kernel
theorem d_M_add_133 : decode b_M_add 133 = .ok (.iastore, 1) := by decide +kernel
theorem d_M_add_134 : decode b_M_add 134 = .ok (.aload_n 0, 1) := by decide +kernel
theorem d_M_add_135 : decode b_M_add 135 = .ok (.getfield 41, 3) := by decide +kernel
theorem d_M_add_138 : decode b_M_add 138 = .ok (.bipush 48, 2) := by decide +kernel
theorem d_M_add_140 : decode b_M_add 140 = .ok (.iload 6, 2) := by decide +kernel
theorem d_M_add_142 : decode b_M_add 142 = .ok (.iadd, 1) := by decide +kernel
theorem d_M_add_143 : decode b_M_add 143 = .ok (.iload_n 2, 1) := by decide +kernel
theorem d_M_add_144 : decode b_M_add 144 = .ok (.iastore, 1) := by decide +kernel
theorem d_M_add_145 : decode b_M_add 145 = .ok (.aload_n 0, 1) := by decide +kernel
theorem d_M_add_146 : decode b_M_add 146 = .ok (.getfield 44, 3) := by decide +kernel
theorem d_M_add_149 : decode b_M_add 149 = .ok (.bipush 48, 2) := by decide +kernel
theorem d_M_add_151 : decode b_M_add 151 = .ok (.iload 6, 2) := by decide +kernel
theorem d_M_add_153 : decode b_M_add 153 = .ok (.iadd, 1) := by decide +kernel
theorem d_M_add_154 : decode b_M_add 154 = .ok (.iload_n 3, 1) := by decide +kernel
theorem d_M_add_155 : decode b_M_add 155 = .ok (.iastore, 1) := by decide +kernel
theorem d_M_add_156 : decode b_M_add 156 = .ok (.aload_n 0, 1) := by decide +kernel
theorem d_M_add_157 : decode b_M_add 157 = .ok (.getfield 47, 3) := by decide +kernel
theorem d_M_add_160 : decode b_M_add 160 = .ok (.bipush 48, 2) := by decide +kernel
theorem d_M_add_162 : decode b_M_add 162 = .ok (.iload 6, 2) := by decide +kernel
theorem d_M_add_164 : decode b_M_add 164 = .ok (.iadd, 1) := by decide +kernel
theorem d_M_add_165 : decode b_M_add 165 = .ok (.iload 4, 2) := by decide +kernel
theorem d_M_add_167 : decode b_M_add 167 = .ok (.iastore, 1) := by decide +kernel
theorem d_M_add_168 : decode b_M_add 168 = .ok (.aload_n 0, 1) := by decide +kernel
theorem d_M_add_169 : decode b_M_add 169 = .ok (.getfield 35, 3) := by decide +kernel
theorem d_M_add_172 : decode b_M_add 172 = .ok (.bipush 6, 2) := by decide +kernel
theorem d_M_add_174 : decode b_M_add 174 = .ok (.iload 6, 2) := by decide +kernel
theorem d_M_add_176 : decode b_M_add 176 = .ok (.iconst 1, 1) := by decide +kernel
theorem d_M_add_177 : decode b_M_add 177 = .ok (.iadd, 1) := by decide +kernel
theorem d_M_add_178 : decode b_M_add 178 = .ok (.iastore, 1) := by decide +kernel
theorem d_M_add_179 : decode b_M_add 179 = .ok (.iload 6, 2) := by decide +kernel
theorem d_M_add_181 : decode b_M_add 181 = .ok (.ireturn, 1) := by decide +kernel
theorem d_M_deploy_0 : decode b_M_deploy 0 = .ok (.aload_n 0, 1) := by decide +kernel
theorem d_M_deploy_1 : decode b_M_deploy 1 = .ok (.getfield 50, 3) := by decide +kernel
theorem d_M_deploy_4 : decode b_M_deploy 4 = .ok (.ifCond .ge 5, 3) := by decide +kernel
theorem d_M_deploy_7 : decode b_M_deploy 7 = .ok (.iconst (-1), 1) := by decide +kernel
theorem d_M_deploy_8 : decode b_M_deploy 8 = .ok (.ireturn, 1) := by decide +kernel
theorem d_M_deploy_9 : decode b_M_deploy 9 = .ok (.aload_n 0, 1) := by decide +kernel
theorem d_M_deploy_10 : decode b_M_deploy 10 = .ok (.getfield 50, 3) := by decide +kernel
theorem d_M_deploy_13 : decode b_M_deploy 13 = .ok (.istore_n 1, 1) := by decide +kernel
theorem d_M_deploy_14 : decode b_M_deploy 14 = .ok (.aload_n 0, 1) := by decide +kernel
theorem d_M_deploy_15 : decode b_M_deploy 15 = .ok (.iconst (-1), 1) := by decide +kernel
theorem d_M_deploy_16 : decode b_M_deploy 16 = .ok (.putfield 50, 3) := by decide +kernel
theorem d_M_deploy_19 : decode b_M_deploy 19 = .ok (.aload_n 0, 1) := by decide +kernel
theorem d_M_deploy_20 : decode b_M_deploy 20 = .ok (.getfield 35, 3) := by decide +kernel
theorem d_M_deploy_23 : decode b_M_deploy 23 = .ok (.bipush 6, 2) := by decide +kernel
theorem d_M_deploy_25 : decode b_M_deploy 25 = .ok (.iaload, 1) := by decide +kernel
theorem d_M_deploy_26 : decode b_M_deploy 26 = .ok (.istore_n 2, 1) := by decide +kernel
theorem d_M_deploy_27 : decode b_M_deploy 27 = .ok (.iload_n 2, 1) := by decide +kernel
theorem d_M_deploy_28 : decode b_M_deploy 28 = .ok (.ifCond .ne 7, 3) := by decide +kernel
theorem d_M_deploy_31 : decode b_M_deploy 31 = .ok (.iconst 1, 1) := by decide +kernel
theorem d_M_deploy_32 : decode b_M_deploy 32 = .ok (.goto 4, 3) := by decide +kernel
theorem d_M_deploy_35 : decode b_M_deploy 35 = .ok (.iconst 0, 1) := by decide +kernel
theorem d_M_deploy_36 : decode b_M_deploy 36 = .ok (.istore_n 3, 1) := by decide +kernel
theorem d_M_deploy_37 : decode b_M_deploy 37 = .ok (.iconst 0, 1) := by decide +kernel
theorem d_M_deploy_38 : decode b_M_deploy 38 = .ok (.istore 4, 2) := by decide +kernel
theorem d_M_deploy_40 : decode b_M_deploy 40 = .ok (.iload 4, 2) := by decide +kernel
theorem d_M_deploy_42 : decode b_M_deploy 42 = .ok (.iload_n 2, 1) := by decide +kernel
theorem d_M_deploy_43 : decode b_M_deploy 43 = .ok (.if_icmp .ge 72, 3) := by decide +kernel
theorem d_M_deploy_46 : decode b_M_deploy 46 = .ok (.aload_n 0, 1) := by decide +kernel
theorem d_M_deploy_47 : decode b_M_deploy 47 = .ok (.getfield 38, 3) := by decide +kernel
theorem d_M_deploy_50 : decode b_M_deploy 50 = .ok (.bipush 48, 2) := by decide +kernel
theorem d_M_deploy_52 : decode b_M_deploy 52 = .ok (.iload 4, 2) := by decide +kernel
theorem d_M_deploy_54 : decode b_M_deploy 54 = .ok (.iadd, 1) := by decide +kernel
theorem d_M_deploy_55 : decode b_M_deploy 55 = .ok (.iaload, 1) := by decide +kernel
theorem d_M_deploy_56 : decode b_M_deploy 56 = .ok (.bipush 7, 2) := by decide +kernel
theorem d_M_deploy_58 : decode b_M_deploy 58 = .ok (.if_icmp .ne 24, 3) := by decide +kernel
theorem d_M_deploy_61 : decode b_M_deploy 61 = .ok (.aload_n 0, 1) := by decide +kernel
theorem d_M_deploy_62 : decode b_M_deploy 62 = .ok (.getfield 44, 3) := by decide +kernel
theorem d_M_deploy_65 : decode b_M_deploy 65 = .ok (.bipush 48, 2) := by decide +kernel
theorem d_M_deploy_67 : decode b_M_deploy 67 = .ok (.iload 4, 2) := by decide +kernel
theorem d_M_deploy_69 : decode b_M_deploy 69 = .ok (.iadd, 1) := by decide +kernel
theorem d_M_deploy_70 : decode b_M_deploy 70 = .ok (.iaload, 1) := by decide +kernel
theorem d_M_deploy_71 : decode b_M_deploy 71 = .ok (.iload_n 2, 1) := by decide +kernel
theorem d_M_deploy_72 : decode b_M_deploy 72 = .ok (.iconst 1, 1) := by decide +kernel
theorem d_M_deploy_73 : decode b_M_deploy 73 = .ok (.isub, 1) := by decide +kernel
theorem d_M_deploy_74 : decode b_M_deploy 74 = .ok (.iload 4, 2) := by decide +kernel
theorem d_M_deploy_76 : decode b_M_deploy 76 = .ok (.isub, 1) := by decide +kernel
theorem d_M_deploy_77 : decode b_M_deploy 77 = .ok (.if_icmp .le 5, 3) := by decide +kernel
theorem d_M_deploy_80 : decode b_M_deploy 80 = .ok (.iconst 1, 1) := by decide +kernel
theorem d_M_deploy_81 : decode b_M_deploy 81 = .ok (.istore_n 3, 1) := by decide +kernel
theorem d_M_deploy_82 : decode b_M_deploy 82 = .ok (.aload_n 0, 1) := by decide +kernel
theorem d_M_deploy_83 : decode b_M_deploy 83 = .ok (.getfield 38, 3) := by decide +kernel
theorem d_M_deploy_86 : decode b_M_deploy 86 = .ok (.bipush 48, 2) := by decide +kernel
theorem d_M_deploy_88 : decode b_M_deploy 88 = .ok (.iload 4, 2) := by decide +kernel
theorem d_M_deploy_90 : decode b_M_deploy 90 = .ok (.iadd, 1) := by decide +kernel
theorem d_M_deploy_91 : decode b_M_deploy 91 = .ok (.iaload, 1) := by decide +kernel
theorem d_M_deploy_92 : decode b_M_deploy 92 = .ok (.bipush 9, 2) := by decide +kernel
theorem d_M_deploy_94 : decode b_M_deploy 94 = .ok (.if_icmp .ne 15, 3) := by decide +kernel
theorem d_M_deploy_97 : decode b_M_deploy 97 = .ok (.aload_n 0, 1) := by decide +kernel
theorem d_M_deploy_98 : decode b_M_deploy 98 = .ok (.getfield 32, 3) := by decide +kernel
theorem d_M_deploy_101 : decode b_M_deploy 101 = .ok (.bipush 6, 2) := by decide +kernel
theorem d_M_deploy_103 : decode b_M_deploy 103 = .ok (.baload, 1) := by decide +kernel
theorem d_M_deploy_104 : decode b_M_deploy 104 = .ok (.ifCond .ne 5, 3) := by decide +kernel
theorem d_M_deploy_107 : decode b_M_deploy 107 = .ok (.iconst 1, 1) := by decide +kernel
theorem d_M_deploy_108 : decode b_M_deploy 108 = .ok (.istore_n 3, 1) := by decide +kernel
theorem d_M_deploy_109 : decode b_M_deploy 109 = .ok (.iinc 4 1, 3) := by decide +kernel
theorem d_M_deploy_112 : decode b_M_deploy 112 = .ok (.goto (-72), 3) := by decide +kernel
theorem d_M_deploy_115 : decode b_M_deploy 115 = .ok (.iload_n 3, 1) := by decide +kernel
theorem d_M_deploy_116 : decode b_M_deploy 116 = .ok (.ifCond .eq 6, 3) := by decide +kernel
theorem d_M_deploy_119 : decode b_M_deploy 119 = .ok (.bipush (-3), 2) := by decide +kernel
theorem d_M_deploy_121 : decode b_M_deploy 121 = .ok (.ireturn, 1) := by decide +kernel
theorem d_M_deploy_122 : decode b_M_deploy 122 = .ok (.iconst 0, 1) := by decide +kernel
theorem d_M_deploy_123 : decode b_M_deploy 123 = .ok (.istore 4, 2) := by decide +kernel
theorem d_M_deploy_125 : decode b_M_deploy 125 = .ok (.iload 4, 2) := by decide +kernel
theorem d_M_deploy_127 : decode b_M_deploy 127 = .ok (.iload_n 2, 1) := by decide +kernel
theorem d_M_deploy_128 : decode b_M_deploy 128 = .ok (.if_icmp .ge 97, 3) := by decide +kernel
theorem d_M_deploy_131 : decode b_M_deploy 131 = .ok (.aload_n 0, 1) := by decide +kernel
theorem d_M_deploy_132 : decode b_M_deploy 132 = .ok (.getfield 38, 3) := by decide +kernel
theorem d_M_deploy_135 : decode b_M_deploy 135 = .ok (.bipush 8, 2) := by decide +kernel
theorem d_M_deploy_137 : decode b_M_deploy 137 = .ok (.iload_n 1, 1) := by decide +kernel
theorem d_M_deploy_138 : decode b_M_deploy 138 = .ok (.imul, 1) := by decide +kernel
theorem d_M_deploy_139 : decode b_M_deploy 139 = .ok (.iload 4, 2) := by decide +kernel
theorem d_M_deploy_141 : decode b_M_deploy 141 = .ok (.iadd, 1) := by decide +kernel
theorem d_M_deploy_142 : decode b_M_deploy 142 = .ok (.aload_n 0, 1) := by decide +kernel
theorem d_M_deploy_143 : decode b_M_deploy 143 = .ok (.getfield 38, 3) := by decide +kernel
theorem d_M_deploy_146 : decode b_M_deploy 146 = .ok (.bipush 48, 2) := by decide +kernel
theorem d_M_deploy_148 : decode b_M_deploy 148 = .ok (.iload 4, 2) := by decide +kernel
theorem d_M_deploy_150 : decode b_M_deploy 150 = .ok (.iadd, 1) := by decide +kernel
theorem d_M_deploy_151 : decode b_M_deploy 151 = .ok (.iaload, 1) := by decide +kernel
theorem d_M_deploy_152 : decode b_M_deploy 152 = .ok (.iastore, 1) := by decide +kernel
theorem d_M_deploy_153 : decode b_M_deploy 153 = .ok (.aload_n 0, 1) := by decide +kernel
theorem d_M_deploy_154 : decode b_M_deploy 154 = .ok (.getfield 41, 3) := by decide +kernel
theorem d_M_deploy_157 : decode b_M_deploy 157 = .ok (.bipush 8, 2) := by decide +kernel
theorem d_M_deploy_159 : decode b_M_deploy 159 = .ok (.iload_n 1, 1) := by decide +kernel
theorem d_M_deploy_160 : decode b_M_deploy 160 = .ok (.imul, 1) := by decide +kernel
theorem d_M_deploy_161 : decode b_M_deploy 161 = .ok (.iload 4, 2) := by decide +kernel
theorem d_M_deploy_163 : decode b_M_deploy 163 = .ok (.iadd, 1) := by decide +kernel
theorem d_M_deploy_164 : decode b_M_deploy 164 = .ok (.aload_n 0, 1) := by decide +kernel
theorem d_M_deploy_165 : decode b_M_deploy 165 = .ok (.getfield 41, 3) := by decide +kernel
theorem d_M_deploy_168 : decode b_M_deploy 168 = .ok (.bipush 48, 2) := by decide +kernel
theorem d_M_deploy_170 : decode b_M_deploy 170 = .ok (.iload 4, 2) := by decide +kernel
theorem d_M_deploy_172 : decode b_M_deploy 172 = .ok (.iadd, 1) := by decide +kernel
theorem d_M_deploy_173 : decode b_M_deploy 173 = .ok (.iaload, 1) := by decide +kernel
theorem d_M_deploy_174 : decode b_M_deploy 174 = .ok (.iastore, 1) := by decide +kernel
theorem d_M_deploy_175 : decode b_M_deploy 175 = .ok (.aload_n 0, 1) := by decide +kernel
theorem d_M_deploy_176 : decode b_M_deploy 176 = .ok (.getfield 44, 3) := by decide +kernel
theorem d_M_deploy_179 : decode b_M_deploy 179 = .ok (.bipush 8, 2) := by decide +kernel
theorem d_M_deploy_181 : decode b_M_deploy 181 = .ok (.iload_n 1, 1) := by decide +kernel
theorem d_M_deploy_182 : decode b_M_deploy 182 = .ok (.imul, 1) := by decide +kernel
theorem d_M_deploy_183 : decode b_M_deploy 183 = .ok (.iload 4, 2) := by decide +kernel
theorem d_M_deploy_185 : decode b_M_deploy 185 = .ok (.iadd, 1) := by decide +kernel
theorem d_M_deploy_186 : decode b_M_deploy 186 = .ok (.aload_n 0, 1) := by decide +kernel
theorem d_M_deploy_187 : decode b_M_deploy 187 = .ok (.getfield 44, 3) := by decide +kernel
theorem d_M_deploy_190 : decode b_M_deploy 190 = .ok (.bipush 48, 2) := by decide +kernel
theorem d_M_deploy_192 : decode b_M_deploy 192 = .ok (.iload 4, 2) := by decide +kernel
theorem d_M_deploy_194 : decode b_M_deploy 194 = .ok (.iadd, 1) := by decide +kernel
theorem d_M_deploy_195 : decode b_M_deploy 195 = .ok (.iaload, 1) := by decide +kernel
theorem d_M_deploy_196 : decode b_M_deploy 196 = .ok (.iastore, 1) := by decide +kernel
theorem d_M_deploy_197 : decode b_M_deploy 197 = .ok (.aload_n 0, 1) := by decide +kernel
theorem d_M_deploy_198 : decode b_M_deploy 198 = .ok (.getfield 47, 3) := by decide +kernel
theorem d_M_deploy_201 : decode b_M_deploy 201 = .ok (.bipush 8, 2) := by decide +kernel
theorem d_M_deploy_203 : decode b_M_deploy 203 = .ok (.iload_n 1, 1) := by decide +kernel
theorem d_M_deploy_204 : decode b_M_deploy 204 = .ok (.imul, 1) := by decide +kernel
theorem d_M_deploy_205 : decode b_M_deploy 205 = .ok (.iload 4, 2) := by decide +kernel
theorem d_M_deploy_207 : decode b_M_deploy 207 = .ok (.iadd, 1) := by decide +kernel
theorem d_M_deploy_208 : decode b_M_deploy 208 = .ok (.aload_n 0, 1) := by decide +kernel
theorem d_M_deploy_209 : decode b_M_deploy 209 = .ok (.getfield 47, 3) := by decide +kernel
theorem d_M_deploy_212 : decode b_M_deploy 212 = .ok (.bipush 48, 2) := by decide +kernel
theorem d_M_deploy_214 : decode b_M_deploy 214 = .ok (.iload 4, 2) := by decide +kernel
theorem d_M_deploy_216 : decode b_M_deploy 216 = .ok (.iadd, 1) := by decide +kernel
theorem d_M_deploy_217 : decode b_M_deploy 217 = .ok (.iaload, 1) := by decide +kernel
theorem d_M_deploy_218 : decode b_M_deploy 218 = .ok (.iastore, 1) := by decide +kernel
theorem d_M_deploy_219 : decode b_M_deploy 219 = .ok (.iinc 4 1, 3) := by decide +kernel
theorem d_M_deploy_222 : decode b_M_deploy 222 = .ok (.goto (-97), 3) := by decide +kernel
theorem d_M_deploy_225 : decode b_M_deploy 225 = .ok (.aload_n 0, 1) := by decide +kernel
theorem d_M_deploy_226 : decode b_M_deploy 226 = .ok (.getfield 35, 3) := by decide +kernel
theorem d_M_deploy_229 : decode b_M_deploy 229 = .ok (.iload_n 1, 1) := by decide +kernel
theorem d_M_deploy_230 : decode b_M_deploy 230 = .ok (.iload_n 2, 1) := by decide +kernel
theorem d_M_deploy_231 : decode b_M_deploy 231 = .ok (.iastore, 1) := by decide +kernel
theorem d_M_deploy_232 : decode b_M_deploy 232 = .ok (.aload_n 0, 1) := by decide +kernel
theorem d_M_deploy_233 : decode b_M_deploy 233 = .ok (.getfield 32, 3) := by decide +kernel
theorem d_M_deploy_236 : decode b_M_deploy 236 = .ok (.iload_n 1, 1) := by decide +kernel
theorem d_M_deploy_237 : decode b_M_deploy 237 = .ok (.aload_n 0, 1) := by decide +kernel
theorem d_M_deploy_238 : decode b_M_deploy 238 = .ok (.getfield 32, 3) := by decide +kernel
theorem d_M_deploy_241 : decode b_M_deploy 241 = .ok (.bipush 6, 2) := by decide +kernel
theorem d_M_deploy_243 : decode b_M_deploy 243 = .ok (.baload, 1) := by decide +kernel
theorem d_M_deploy_244 : decode b_M_deploy 244 = .ok (.bastore, 1) := by decide +kernel
theorem d_M_deploy_245 : decode b_M_deploy 245 = .ok (.aload_n 0, 1) := by decide +kernel
theorem d_M_deploy_246 : decode b_M_deploy 246 = .ok (.getfield 29, 3) := by decide +kernel
theorem d_M_deploy_249 : decode b_M_deploy 249 = .ok (.iload_n 1, 1) := by decide +kernel
theorem d_M_deploy_250 : decode b_M_deploy 250 = .ok (.iconst 1, 1) := by decide +kernel
theorem d_M_deploy_251 : decode b_M_deploy 251 = .ok (.bastore, 1) := by decide +kernel
theorem d_M_deploy_252 : decode b_M_deploy 252 = .ok (.iconst 0, 1) := by decide +kernel
theorem d_M_deploy_253 : decode b_M_deploy 253 = .ok (.ireturn, 1) := by decide +kernel
theorem d_M_logged_0 : decode b_M_logged 0 = .ok (.iconst 0, 1) := by decide +kernel
theorem d_M_logged_1 : decode b_M_logged 1 = .ok (.istore_n 1, 1) := by decide +kernel
theorem d_M_logged_2 : decode b_M_logged 2 = .ok (.aload_n 0, 1) := by decide +kernel
theorem d_M_logged_3 : decode b_M_logged 3 = .ok (.getfield 120, 3) := by decide +kernel
theorem d_M_logged_6 : decode b_M_logged 6 = .ok (.iconst 1, 1) := by decide +kernel
theorem d_M_logged_7 : decode b_M_logged 7 = .ok (.iadd, 1) := by decide +kernel
theorem d_M_logged_8 : decode b_M_logged 8 = .ok (.istore_n 2, 1) := by decide +kernel
theorem d_M_logged_9 : decode b_M_logged 9 = .ok (.iload_n 2, 1) := by decide +kernel
theorem d_M_logged_10 : decode b_M_logged 10 = .ok (.aload_n 0, 1) := by decide +kernel
theorem d_M_logged_11 : decode b_M_logged 11 = .ok (.getfield 133, 3) := by decide +kernel
theorem d_M_logged_14 : decode b_M_logged 14 = .ok (.if_icmp .gt 21, 3) := by decide +kernel
theorem d_M_logged_17 : decode b_M_logged 17 = .ok (.aload_n 0, 1) := by decide +kernel
theorem d_M_logged_18 : decode b_M_logged 18 = .ok (.getfield 54, 3) := by decide +kernel
theorem d_M_logged_21 : decode b_M_logged 21 = .ok (.iload_n 2, 1) := by decide +kernel
theorem d_M_logged_22 : decode b_M_logged 22 = .ok (.iaload, 1) := by decide +kernel
theorem d_M_logged_23 : decode b_M_logged 23 = .ok (.ifCond .lt 6, 3) := by decide +kernel
theorem d_M_logged_26 : decode b_M_logged 26 = .ok (.iinc 1 1, 3) := by decide +kernel
theorem d_M_logged_29 : decode b_M_logged 29 = .ok (.iinc 2 1, 3) := by decide +kernel
theorem d_M_logged_32 : decode b_M_logged 32 = .ok (.goto (-23), 3) := by decide +kernel
theorem d_M_logged_35 : decode b_M_logged 35 = .ok (.iload_n 1, 1) := by decide +kernel
theorem d_M_logged_36 : decode b_M_logged 36 = .ok (.ireturn, 1) := by decide +kernel
theorem d_M_next_0 : decode b_M_next 0 = .ok (.aload_n 0, 1) := by decide +kernel
theorem d_M_next_1 : decode b_M_next 1 = .ok (.dup, 1) := by decide +kernel
theorem d_M_next_2 : decode b_M_next 2 = .ok (.getfield 133, 3) := by decide +kernel
theorem d_M_next_5 : decode b_M_next 5 = .ok (.iconst 1, 1) := by decide +kernel
theorem d_M_next_6 : decode b_M_next 6 = .ok (.iadd, 1) := by decide +kernel
theorem d_M_next_7 : decode b_M_next 7 = .ok (.putfield 133, 3) := by decide +kernel
theorem d_M_next_10 : decode b_M_next 10 = .ok (.aload_n 0, 1) := by decide +kernel
theorem d_M_next_11 : decode b_M_next 11 = .ok (.getfield 54, 3) := by decide +kernel
theorem d_M_next_14 : decode b_M_next 14 = .ok (.aload_n 0, 1) := by decide +kernel
theorem d_M_next_15 : decode b_M_next 15 = .ok (.getfield 133, 3) := by decide +kernel
theorem d_M_next_18 : decode b_M_next 18 = .ok (.iload_n 1, 1) := by decide +kernel
theorem d_M_next_19 : decode b_M_next 19 = .ok (.iastore, 1) := by decide +kernel
theorem d_M_next_20 : decode b_M_next 20 = .ok (.aload_n 0, 1) := by decide +kernel
theorem d_M_next_21 : decode b_M_next 21 = .ok (.getfield 60, 3) := by decide +kernel
theorem d_M_next_24 : decode b_M_next 24 = .ok (.aload_n 0, 1) := by decide +kernel
theorem d_M_next_25 : decode b_M_next 25 = .ok (.getfield 133, 3) := by decide +kernel
theorem d_M_next_28 : decode b_M_next 28 = .ok (.iconst 0, 1) := by decide +kernel
theorem d_M_next_29 : decode b_M_next 29 = .ok (.bastore, 1) := by decide +kernel
theorem d_M_next_30 : decode b_M_next 30 = .ok (.aload_n 0, 1) := by decide +kernel
theorem d_M_next_31 : decode b_M_next 31 = .ok (.getfield 63, 3) := by decide +kernel
theorem d_M_next_34 : decode b_M_next 34 = .ok (.aload_n 0, 1) := by decide +kernel
theorem d_M_next_35 : decode b_M_next 35 = .ok (.getfield 133, 3) := by decide +kernel
theorem d_M_next_38 : decode b_M_next 38 = .ok (.iconst 0, 1) := by decide +kernel
theorem d_M_next_39 : decode b_M_next 39 = .ok (.iastore, 1) := by decide +kernel
theorem d_M_next_40 : decode b_M_next 40 = .ok (.aload_n 0, 1) := by decide +kernel
theorem d_M_next_41 : decode b_M_next 41 = .ok (.getfield 133, 3) := by decide +kernel
theorem d_M_next_44 : decode b_M_next 44 = .ok (.ireturn, 1) := by decide +kernel
theorem d_M_invoke_0 : decode b_M_invoke 0 = .ok (.iload_n 1, 1) := by decide +kernel
theorem d_M_invoke_1 : decode b_M_invoke 1 = .ok (.iconst 4, 1) := by decide +kernel
theorem d_M_invoke_2 : decode b_M_invoke 2 = .ok (.invokestatic 99, 3) := by decide +kernel
theorem d_M_invoke_5 : decode b_M_invoke 5 = .ok (.ifCond .ne 31, 3) := by decide +kernel
theorem d_M_invoke_8 : decode b_M_invoke 8 = .ok (.aload_n 0, 1) := by decide +kernel
theorem d_M_invoke_9 : decode b_M_invoke 9 = .ok (.getfield 78, 3) := by decide +kernel
theorem d_M_invoke_12 : decode b_M_invoke 12 = .ok (.iload_n 1, 1) := by decide +kernel
theorem d_M_invoke_13 : decode b_M_invoke 13 = .ok (.iaload, 1) := by decide +kernel
theorem d_M_invoke_14 : decode b_M_invoke 14 = .ok (.iconst 1, 1) := by decide +kernel
theorem d_M_invoke_15 : decode b_M_invoke 15 = .ok (.if_icmp .eq 21, 3) := by decide +kernel
theorem d_M_invoke_18 : decode b_M_invoke 18 = .ok (.iload_n 2, 1) := by decide +kernel
theorem d_M_invoke_19 : decode b_M_invoke 19 = .ok (.bipush 6, 2) := by decide +kernel
theorem d_M_invoke_21 : decode b_M_invoke 21 = .ok (.invokestatic 99, 3) := by decide +kernel
theorem d_M_invoke_24 : decode b_M_invoke 24 = .ok (.ifCond .ne 12, 3) := by decide +kernel
theorem d_M_invoke_27 : decode b_M_invoke 27 = .ok (.aload_n 0, 1) := by decide +kernel
theorem d_M_invoke_28 : decode b_M_invoke 28 = .ok (.getfield 29, 3) := by decide +kernel
theorem d_M_invoke_31 : decode b_M_invoke 31 = .ok (.iload_n 2, 1) := by decide +kernel
theorem d_M_invoke_32 : decode b_M_invoke 32 = .ok (.baload, 1) := by decide +kernel
theorem d_M_invoke_33 : decode b_M_invoke 33 = .ok (.ifCond .ne 5, 3) := by decide +kernel
theorem d_M_invoke_36 : decode b_M_invoke 36 = .ok (.iconst (-1), 1) := by decide +kernel
theorem d_M_invoke_37 : decode b_M_invoke 37 = .ok (.ireturn, 1) := by decide +kernel
theorem d_M_invoke_38 : decode b_M_invoke 38 = .ok (.aload_n 0, 1) := by decide +kernel
theorem d_M_invoke_39 : decode b_M_invoke 39 = .ok (.invokevirtual 139, 3) := by decide +kernel
theorem d_M_invoke_42 : decode b_M_invoke 42 = .ok (.bipush 48, 2) := by decide +kernel
theorem d_M_invoke_44 : decode b_M_invoke 44 = .ok (.if_icmp .lt 6, 3) := by decide +kernel
theorem d_M_invoke_47 : decode b_M_invoke 47 = .ok (.bipush (-2), 2) := by decide +kernel
theorem d_M_invoke_49 : decode b_M_invoke 49 = .ok (.ireturn, 1) := by decide +kernel
theorem d_M_invoke_50 : decode b_M_invoke 50 = .ok (.aload_n 0, 1) := by decide +kernel
theorem d_M_invoke_51 : decode b_M_invoke 51 = .ok (.iload_n 2, 1) := by decide +kernel
theorem d_M_invoke_52 : decode b_M_invoke 52 = .ok (.invokevirtual 143, 3) := by decide +kernel
theorem d_M_invoke_55 : decode b_M_invoke 55 = .ok (.istore 6, 2) := by decide +kernel
theorem d_M_invoke_57 : decode b_M_invoke 57 = .ok (.aload_n 0, 1) := by decide +kernel
theorem d_M_invoke_58 : decode b_M_invoke 58 = .ok (.getfield 57, 3) := by decide +kernel
theorem d_M_invoke_61 : decode b_M_invoke 61 = .ok (.iconst 3, 1) := by decide +kernel
theorem d_M_invoke_62 : decode b_M_invoke 62 = .ok (.iload 6, 2) := by decide +kernel
theorem d_M_invoke_64 : decode b_M_invoke 64 = .ok (.imul, 1) := by decide +kernel
theorem d_M_invoke_65 : decode b_M_invoke 65 = .ok (.iload_n 3, 1) := by decide +kernel
theorem d_M_invoke_66 : decode b_M_invoke 66 = .ok (.iastore, 1) := by decide +kernel
theorem d_M_invoke_67 : decode b_M_invoke 67 = .ok (.aload_n 0, 1) := by decide +kernel
theorem d_M_invoke_68 : decode b_M_invoke 68 = .ok (.getfield 57, 3) := by decide +kernel
theorem d_M_invoke_71 : decode b_M_invoke 71 = .ok (.iconst 3, 1) := by decide +kernel
theorem d_M_invoke_72 : decode b_M_invoke 72 = .ok (.iload 6, 2) := by decide +kernel
theorem d_M_invoke_74 : decode b_M_invoke 74 = .ok (.imul, 1) := by decide +kernel
theorem d_M_invoke_75 : decode b_M_invoke 75 = .ok (.iconst 1, 1) := by decide +kernel
theorem d_M_invoke_76 : decode b_M_invoke 76 = .ok (.iadd, 1) := by decide +kernel
theorem d_M_invoke_77 : decode b_M_invoke 77 = .ok (.iload 4, 2) := by decide +kernel
theorem d_M_invoke_79 : decode b_M_invoke 79 = .ok (.iastore, 1) := by decide +kernel
theorem d_M_invoke_80 : decode b_M_invoke 80 = .ok (.aload_n 0, 1) := by decide +kernel
theorem d_M_invoke_81 : decode b_M_invoke 81 = .ok (.getfield 57, 3) := by decide +kernel
theorem d_M_invoke_84 : decode b_M_invoke 84 = .ok (.iconst 3, 1) := by decide +kernel
theorem d_M_invoke_85 : decode b_M_invoke 85 = .ok (.iload 6, 2) := by decide +kernel
theorem d_M_invoke_87 : decode b_M_invoke 87 = .ok (.imul, 1) := by decide +kernel
theorem d_M_invoke_88 : decode b_M_invoke 88 = .ok (.iconst 2, 1) := by decide +kernel
theorem d_M_invoke_89 : decode b_M_invoke 89 = .ok (.iadd, 1) := by decide +kernel
theorem d_M_invoke_90 : decode b_M_invoke 90 = .ok (.iload 5, 2) := by decide +kernel
theorem d_M_invoke_92 : decode b_M_invoke 92 = .ok (.iastore, 1) := by decide +kernel
theorem d_M_invoke_93 : decode b_M_invoke 93 = .ok (.aload_n 0, 1) := by decide +kernel
theorem d_M_invoke_94 : decode b_M_invoke 94 = .ok (.getfield 78, 3) := by decide +kernel
theorem d_M_invoke_97 : decode b_M_invoke 97 = .ok (.iload_n 1, 1) := by decide +kernel
theorem d_M_invoke_98 : decode b_M_invoke 98 = .ok (.iconst 1, 1) := by decide +kernel
theorem d_M_invoke_99 : decode b_M_invoke 99 = .ok (.iastore, 1) := by decide +kernel
theorem d_M_invoke_100 : decode b_M_invoke 100 = .ok (.aload_n 0, 1) := by decide +kernel
theorem d_M_invoke_101 : decode b_M_invoke 101 = .ok (.getfield 81, 3) := by decide +kernel
theorem d_M_invoke_104 : decode b_M_invoke 104 = .ok (.iload_n 1, 1) := by decide +kernel
theorem d_M_invoke_105 : decode b_M_invoke 105 = .ok (.iload 6, 2) := by decide +kernel
theorem d_M_invoke_107 : decode b_M_invoke 107 = .ok (.iastore, 1) := by decide +kernel
theorem d_M_invoke_108 : decode b_M_invoke 108 = .ok (.iload 6, 2) := by decide +kernel
theorem d_M_invoke_110 : decode b_M_invoke 110 = .ok (.ireturn, 1) := by decide +kernel
theorem d_M_partitionOf_0 : decode b_M_partitionOf 0 = .ok (.aload_n 0, 1) := by decide +kernel
theorem d_M_partitionOf_1 : decode b_M_partitionOf 1 = .ok (.getfield 57, 3) := by decide +kernel
theorem d_M_partitionOf_4 : decode b_M_partitionOf 4 = .ok (.iconst 3, 1) := by decide +kernel
theorem d_M_partitionOf_5 : decode b_M_partitionOf 5 = .ok (.iload_n 1, 1) := by decide +kernel
theorem d_M_partitionOf_6 : decode b_M_partitionOf 6 = .ok (.imul, 1) := by decide +kernel
theorem d_M_partitionOf_7 : decode b_M_partitionOf 7 = .ok (.iaload, 1) := by decide +kernel
theorem d_M_partitionOf_8 : decode b_M_partitionOf 8 = .ok (.aload_n 0, 1) := by decide +kernel
theorem d_M_partitionOf_9 : decode b_M_partitionOf 9 = .ok (.getfield 96, 3) := by decide +kernel
theorem d_M_partitionOf_12 : decode b_M_partitionOf 12 = .ok (.irem, 1) := by decide +kernel
theorem d_M_partitionOf_13 : decode b_M_partitionOf 13 = .ok (.istore_n 2, 1) := by decide +kernel
theorem d_M_partitionOf_14 : decode b_M_partitionOf 14 = .ok (.iload_n 2, 1) := by decide +kernel
theorem d_M_partitionOf_15 : decode b_M_partitionOf 15 = .ok (.ifCond .ge 12, 3) := by decide +kernel
theorem d_M_partitionOf_18 : decode b_M_partitionOf 18 = .ok (.iload_n 2, 1) := by decide +kernel
theorem d_M_partitionOf_19 : decode b_M_partitionOf 19 = .ok (.aload_n 0, 1) := by decide +kernel
theorem d_M_partitionOf_20 : decode b_M_partitionOf 20 = .ok (.getfield 96, 3) := by decide +kernel
theorem d_M_partitionOf_23 : decode b_M_partitionOf 23 = .ok (.iadd, 1) := by decide +kernel
theorem d_M_partitionOf_24 : decode b_M_partitionOf 24 = .ok (.goto 4, 3) := by decide +kernel
theorem d_M_partitionOf_27 : decode b_M_partitionOf 27 = .ok (.iload_n 2, 1) := by decide +kernel
theorem d_M_partitionOf_28 : decode b_M_partitionOf 28 = .ok (.ireturn, 1) := by decide +kernel
theorem d_M_waits_0 : decode b_M_waits 0 = .ok (.aload_n 0, 1) := by decide +kernel
theorem d_M_waits_1 : decode b_M_waits 1 = .ok (.getfield 54, 3) := by decide +kernel
theorem d_M_waits_4 : decode b_M_waits 4 = .ok (.iload_n 2, 1) := by decide +kernel
theorem d_M_waits_5 : decode b_M_waits 5 = .ok (.iaload, 1) := by decide +kernel
theorem d_M_waits_6 : decode b_M_waits 6 = .ok (.ifCond .ge 31, 3) := by decide +kernel
theorem d_M_waits_9 : decode b_M_waits 9 = .ok (.aload_n 0, 1) := by decide +kernel
theorem d_M_waits_10 : decode b_M_waits 10 = .ok (.getfield 60, 3) := by decide +kernel
theorem d_M_waits_13 : decode b_M_waits 13 = .ok (.iload_n 2, 1) := by decide +kernel
theorem d_M_waits_14 : decode b_M_waits 14 = .ok (.baload, 1) := by decide +kernel
theorem d_M_waits_15 : decode b_M_waits 15 = .ok (.ifCond .ne 20, 3) := by decide +kernel
theorem d_M_waits_18 : decode b_M_waits 18 = .ok (.aload_n 0, 1) := by decide +kernel
theorem d_M_waits_19 : decode b_M_waits 19 = .ok (.getfield 63, 3) := by decide +kernel
theorem d_M_waits_22 : decode b_M_waits 22 = .ok (.iload_n 2, 1) := by decide +kernel
theorem d_M_waits_23 : decode b_M_waits 23 = .ok (.iaload, 1) := by decide +kernel
theorem d_M_waits_24 : decode b_M_waits 24 = .ok (.iload_n 1, 1) := by decide +kernel
theorem d_M_waits_25 : decode b_M_waits 25 = .ok (.ishr, 1) := by decide +kernel
theorem d_M_waits_26 : decode b_M_waits 26 = .ok (.iconst 1, 1) := by decide +kernel
theorem d_M_waits_27 : decode b_M_waits 27 = .ok (.iand, 1) := by decide +kernel
theorem d_M_waits_28 : decode b_M_waits 28 = .ok (.ifCond .ne 7, 3) := by decide +kernel
theorem d_M_waits_31 : decode b_M_waits 31 = .ok (.iconst 1, 1) := by decide +kernel
theorem d_M_waits_32 : decode b_M_waits 32 = .ok (.goto 4, 3) := by decide +kernel
theorem d_M_waits_35 : decode b_M_waits 35 = .ok (.iconst 0, 1) := by decide +kernel
theorem d_M_waits_36 : decode b_M_waits 36 = .ok (.ireturn, 1) := by decide +kernel
theorem d_M_waits_37 : decode b_M_waits 37 = .ok (.aload_n 0, 1) := by decide +kernel
theorem d_M_waits_38 : decode b_M_waits 38 = .ok (.getfield 60, 3) := by decide +kernel
theorem d_M_waits_41 : decode b_M_waits 41 = .ok (.iload_n 2, 1) := by decide +kernel
theorem d_M_waits_42 : decode b_M_waits 42 = .ok (.baload, 1) := by decide +kernel
theorem d_M_waits_43 : decode b_M_waits 43 = .ok (.ifCond .ne 30, 3) := by decide +kernel
theorem d_M_waits_46 : decode b_M_waits 46 = .ok (.aload_n 0, 1) := by decide +kernel
theorem d_M_waits_47 : decode b_M_waits 47 = .ok (.getfield 32, 3) := by decide +kernel
theorem d_M_waits_50 : decode b_M_waits 50 = .ok (.aload_n 0, 1) := by decide +kernel
theorem d_M_waits_51 : decode b_M_waits 51 = .ok (.getfield 54, 3) := by decide +kernel
theorem d_M_waits_54 : decode b_M_waits 54 = .ok (.iload_n 2, 1) := by decide +kernel
theorem d_M_waits_55 : decode b_M_waits 55 = .ok (.iaload, 1) := by decide +kernel
theorem d_M_waits_56 : decode b_M_waits 56 = .ok (.baload, 1) := by decide +kernel
theorem d_M_waits_57 : decode b_M_waits 57 = .ok (.ifCond .ne 12, 3) := by decide +kernel
theorem d_M_waits_60 : decode b_M_waits 60 = .ok (.aload_n 0, 1) := by decide +kernel
theorem d_M_waits_61 : decode b_M_waits 61 = .ok (.iload_n 2, 1) := by decide +kernel
theorem d_M_waits_62 : decode b_M_waits 62 = .ok (.invokevirtual 103, 3) := by decide +kernel
theorem d_M_waits_65 : decode b_M_waits 65 = .ok (.iload_n 1, 1) := by decide +kernel
theorem d_M_waits_66 : decode b_M_waits 66 = .ok (.if_icmp .ne 7, 3) := by decide +kernel
theorem d_M_waits_69 : decode b_M_waits 69 = .ok (.iconst 1, 1) := by decide +kernel
theorem d_M_waits_70 : decode b_M_waits 70 = .ok (.goto 4, 3) := by decide +kernel
theorem d_M_waits_73 : decode b_M_waits 73 = .ok (.iconst 0, 1) := by decide +kernel
theorem d_M_waits_74 : decode b_M_waits 74 = .ok (.ireturn, 1) := by decide +kernel
theorem d_M_rowsOf_0 : decode b_M_rowsOf 0 = .ok (.iconst 0, 1) := by decide +kernel
theorem d_M_rowsOf_1 : decode b_M_rowsOf 1 = .ok (.istore_n 2, 1) := by decide +kernel
theorem d_M_rowsOf_2 : decode b_M_rowsOf 2 = .ok (.iload_n 1, 1) := by decide +kernel
theorem d_M_rowsOf_3 : decode b_M_rowsOf 3 = .ok (.istore_n 3, 1) := by decide +kernel
theorem d_M_rowsOf_4 : decode b_M_rowsOf 4 = .ok (.iload_n 3, 1) := by decide +kernel
theorem d_M_rowsOf_5 : decode b_M_rowsOf 5 = .ok (.bipush 32, 2) := by decide +kernel
theorem d_M_rowsOf_7 : decode b_M_rowsOf 7 = .ok (.if_icmp .ge 25, 3) := by decide +kernel
theorem d_M_rowsOf_10 : decode b_M_rowsOf 10 = .ok (.aload_n 0, 1) := by decide +kernel
theorem d_M_rowsOf_11 : decode b_M_rowsOf 11 = .ok (.getfield 7, 3) := by decide +kernel
theorem d_M_rowsOf_14 : decode b_M_rowsOf 14 = .ok (.iload_n 3, 1) := by decide +kernel
theorem d_M_rowsOf_15 : decode b_M_rowsOf 15 = .ok (.baload, 1) := by decide +kernel
theorem d_M_rowsOf_16 : decode b_M_rowsOf 16 = .ok (.ifCond .eq 6, 3) := by decide +kernel
theorem d_M_rowsOf_19 : decode b_M_rowsOf 19 = .ok (.iinc 2 1, 3) := by decide +kernel
theorem d_M_rowsOf_22 : decode b_M_rowsOf 22 = .ok (.iload_n 3, 1) := by decide +kernel
theorem d_M_rowsOf_23 : decode b_M_rowsOf 23 = .ok (.aload_n 0, 1) := by decide +kernel
theorem d_M_rowsOf_24 : decode b_M_rowsOf 24 = .ok (.getfield 96, 3) := by decide +kernel
theorem d_M_rowsOf_27 : decode b_M_rowsOf 27 = .ok (.iadd, 1) := by decide +kernel
theorem d_M_rowsOf_28 : decode b_M_rowsOf 28 = .ok (.istore_n 3, 1) := by decide +kernel
theorem d_M_rowsOf_29 : decode b_M_rowsOf 29 = .ok (.goto (-25), 3) := by decide +kernel
theorem d_M_rowsOf_32 : decode b_M_rowsOf 32 = .ok (.iload_n 2, 1) := by decide +kernel
theorem d_M_rowsOf_33 : decode b_M_rowsOf 33 = .ok (.ireturn, 1) := by decide +kernel
theorem d_M_foreign_0 : decode b_M_foreign 0 = .ok (.iload_n 2, 1) := by decide +kernel
theorem d_M_foreign_1 : decode b_M_foreign 1 = .ok (.bipush 32, 2) := by decide +kernel
theorem d_M_foreign_3 : decode b_M_foreign 3 = .ok (.invokestatic 99, 3) := by decide +kernel
theorem d_M_foreign_6 : decode b_M_foreign 6 = .ok (.ifCond .ne 31, 3) := by decide +kernel
theorem d_M_foreign_9 : decode b_M_foreign 9 = .ok (.aload_n 0, 1) := by decide +kernel
theorem d_M_foreign_10 : decode b_M_foreign 10 = .ok (.getfield 32, 3) := by decide +kernel
theorem d_M_foreign_13 : decode b_M_foreign 13 = .ok (.aload_n 0, 1) := by decide +kernel
theorem d_M_foreign_14 : decode b_M_foreign 14 = .ok (.getfield 54, 3) := by decide +kernel
theorem d_M_foreign_17 : decode b_M_foreign 17 = .ok (.iload_n 1, 1) := by decide +kernel
theorem d_M_foreign_18 : decode b_M_foreign 18 = .ok (.iaload, 1) := by decide +kernel
theorem d_M_foreign_19 : decode b_M_foreign 19 = .ok (.baload, 1) := by decide +kernel
theorem d_M_foreign_20 : decode b_M_foreign 20 = .ok (.ifCond .ne 21, 3) := by decide +kernel
theorem d_M_foreign_23 : decode b_M_foreign 23 = .ok (.iload_n 2, 1) := by decide +kernel
theorem d_M_foreign_24 : decode b_M_foreign 24 = .ok (.aload_n 0, 1) := by decide +kernel
theorem d_M_foreign_25 : decode b_M_foreign 25 = .ok (.getfield 96, 3) := by decide +kernel
theorem d_M_foreign_28 : decode b_M_foreign 28 = .ok (.irem, 1) := by decide +kernel
theorem d_M_foreign_29 : decode b_M_foreign 29 = .ok (.aload_n 0, 1) := by decide +kernel
theorem d_M_foreign_30 : decode b_M_foreign 30 = .ok (.iload_n 1, 1) := by decide +kernel
theorem d_M_foreign_31 : decode b_M_foreign 31 = .ok (.invokevirtual 103, 3) := by decide +kernel
theorem d_M_foreign_34 : decode b_M_foreign 34 = .ok (.if_icmp .eq 7, 3) := by decide +kernel
theorem d_M_foreign_37 : decode b_M_foreign 37 = .ok (.iconst 1, 1) := by decide +kernel
theorem d_M_foreign_38 : decode b_M_foreign 38 = .ok (.goto 4, 3) := by decide +kernel
theorem d_M_foreign_41 : decode b_M_foreign 41 = .ok (.iconst 0, 1) := by decide +kernel
theorem d_M_foreign_42 : decode b_M_foreign 42 = .ok (.ireturn, 1) := by decide +kernel
theorem d_M_put_0 : decode b_M_put 0 = .ok (.aload_n 0, 1) := by decide +kernel
theorem d_M_put_1 : decode b_M_put 1 = .ok (.getfield 7, 3) := by decide +kernel
theorem d_M_put_4 : decode b_M_put 4 = .ok (.iload_n 1, 1) := by decide +kernel
theorem d_M_put_5 : decode b_M_put 5 = .ok (.iload_n 2, 1) := by decide +kernel
theorem d_M_put_6 : decode b_M_put 6 = .ok (.bastore, 1) := by decide +kernel
theorem d_M_put_7 : decode b_M_put 7 = .ok (.aload_n 0, 1) := by decide +kernel
theorem d_M_put_8 : decode b_M_put 8 = .ok (.getfield 13, 3) := by decide +kernel
theorem d_M_put_11 : decode b_M_put 11 = .ok (.iload_n 1, 1) := by decide +kernel
theorem d_M_put_12 : decode b_M_put 12 = .ok (.iload_n 3, 1) := by decide +kernel
theorem d_M_put_13 : decode b_M_put 13 = .ok (.iastore, 1) := by decide +kernel
theorem d_M_put_14 : decode b_M_put 14 = .ok (.iconst 1, 1) := by decide +kernel
theorem d_M_put_15 : decode b_M_put 15 = .ok (.ireturn, 1) := by decide +kernel
theorem d_M_statement_0 : decode b_M_statement 0 = .ok (.aload_n 0, 1) := by decide +kernel
theorem d_M_statement_1 : decode b_M_statement 1 = .ok (.getfield 93, 3) := by decide +kernel
theorem d_M_statement_4 : decode b_M_statement 4 = .ok (.aload_n 0, 1) := by decide +kernel
theorem d_M_statement_5 : decode b_M_statement 5 = .ok (.getfield 41, 3) := by decide +kernel
theorem d_M_statement_8 : decode b_M_statement 8 = .ok (.iload_n 2, 1) := by decide +kernel
theorem d_M_statement_9 : decode b_M_statement 9 = .ok (.iaload, 1) := by decide +kernel
theorem d_M_statement_10 : decode b_M_statement 10 = .ok (.iaload, 1) := by decide +kernel
theorem d_M_statement_11 : decode b_M_statement 11 = .ok (.istore_n 3, 1) := by decide +kernel
theorem d_M_statement_12 : decode b_M_statement 12 = .ok (.aload_n 0, 1) := by decide +kernel
theorem d_M_statement_13 : decode b_M_statement 13 = .ok (.getfield 38, 3) := by decide +kernel
theorem d_M_statement_16 : decode b_M_statement 16 = .ok (.iload_n 2, 1) := by decide +kernel
theorem d_M_statement_17 : decode b_M_statement 17 = .ok (.iaload, 1) := by decide +kernel
theorem d_M_statement_18 : decode b_M_statement 18 = .ok (.iconst 3, 1) := by decide +kernel
theorem d_M_statement_19 : decode b_M_statement 19 = .ok (.if_icmp .eq 35, 3) := by decide +kernel
theorem d_M_statement_22 : decode b_M_statement 22 = .ok (.aload_n 0, 1) := by decide +kernel
theorem d_M_statement_23 : decode b_M_statement 23 = .ok (.getfield 38, 3) := by decide +kernel
theorem d_M_statement_26 : decode b_M_statement 26 = .ok (.iload_n 2, 1) := by decide +kernel
theorem d_M_statement_27 : decode b_M_statement 27 = .ok (.iaload, 1) := by decide +kernel
theorem d_M_statement_28 : decode b_M_statement 28 = .ok (.iconst 5, 1) := by decide +kernel
theorem d_M_statement_29 : decode b_M_statement 29 = .ok (.if_icmp .eq 25, 3) := by decide +kernel
theorem d_M_statement_32 : decode b_M_statement 32 = .ok (.aload_n 0, 1) := by decide +kernel
theorem d_M_statement_33 : decode b_M_statement 33 = .ok (.getfield 38, 3) := by decide +kernel
theorem d_M_statement_36 : decode b_M_statement 36 = .ok (.iload_n 2, 1) := by decide +kernel
theorem d_M_statement_37 : decode b_M_statement 37 = .ok (.iaload, 1) := by decide +kernel
theorem d_M_statement_38 : decode b_M_statement 38 = .ok (.bipush 7, 2) := by decide +kernel
theorem d_M_statement_40 : decode b_M_statement 40 = .ok (.if_icmp .eq 14, 3) := by decide +kernel
theorem d_M_statement_43 : decode b_M_statement 43 = .ok (.aload_n 0, 1) := by decide +kernel
theorem d_M_statement_44 : decode b_M_statement 44 = .ok (.getfield 38, 3) := by decide +kernel
theorem d_M_statement_47 : decode b_M_statement 47 = .ok (.iload_n 2, 1) := by decide +kernel
theorem d_M_statement_48 : decode b_M_statement 48 = .ok (.iaload, 1) := by decide +kernel
theorem d_M_statement_49 : decode b_M_statement 49 = .ok (.bipush 10, 2) := by decide +kernel
theorem d_M_statement_51 : decode b_M_statement 51 = .ok (.if_icmp .ne 7, 3) := by decide +kernel
theorem d_M_statement_54 : decode b_M_statement 54 = .ok (.iconst 0, 1) := by decide +kernel
theorem d_M_statement_55 : decode b_M_statement 55 = .ok (.goto 14, 3) := by decide +kernel
theorem d_M_statement_58 : decode b_M_statement 58 = .ok (.aload_n 0, 1) := by decide +kernel
theorem d_M_statement_59 : decode b_M_statement 59 = .ok (.getfield 93, 3) := by decide +kernel
theorem d_M_statement_62 : decode b_M_statement 62 = .ok (.aload_n 0, 1) := by decide +kernel
theorem d_M_statement_63 : decode b_M_statement 63 = .ok (.getfield 44, 3) := by decide +kernel
theorem d_M_statement_66 : decode b_M_statement 66 = .ok (.iload_n 2, 1) := by decide +kernel
theorem d_M_statement_67 : decode b_M_statement 67 = .ok (.iaload, 1) := by decide +kernel
theorem d_M_statement_68 : decode b_M_statement 68 = .ok (.iaload, 1) := by decide +kernel
theorem d_M_statement_69 : decode b_M_statement 69 = .ok (.istore 4, 2) := by decide +kernel
theorem d_M_statement_71 : decode b_M_statement 71 = .ok (.aload_n 0, 1) := by decide +kernel
theorem d_M_statement_72 : decode b_M_statement 72 = .ok (.getfield 38, 3) := by decide +kernel
theorem d_M_statement_75 : decode b_M_statement 75 = .ok (.iload_n 2, 1) := by decide +kernel
theorem d_M_statement_76 : decode b_M_statement 76 = .ok (.iaload, 1) := by decide +kernel
theorem d_M_statement_77 : decode b_M_statement 77 = .ok (.tableswitch 358 0 10 #[59, 101, 127, 162, 196, 223, 242, 358, 254, 289, 318], 59) := by decide +kernel
theorem d_M_statement_136 : decode b_M_statement 136 = .ok (.aload_n 0, 1) := by decide +kernel
theorem d_M_statement_137 : decode b_M_statement 137 = .ok (.iload_n 1, 1) := by decide +kernel
theorem d_M_statement_138 : decode b_M_statement 138 = .ok (.iload 4, 2) := by decide +kernel
theorem d_M_statement_140 : decode b_M_statement 140 = .ok (.invokevirtual 107, 3) := by decide +kernel
theorem d_M_statement_143 : decode b_M_statement 143 = .ok (.ifCond .ne 13, 3) := by decide +kernel
theorem d_M_statement_146 : decode b_M_statement 146 = .ok (.aload_n 0, 1) := by decide +kernel
theorem d_M_statement_147 : decode b_M_statement 147 = .ok (.getfield 7, 3) := by decide +kernel
theorem d_M_statement_150 : decode b_M_statement 150 = .ok (.iload 4, 2) := by decide +kernel
theorem d_M_statement_152 : decode b_M_statement 152 = .ok (.baload, 1) := by decide +kernel
theorem d_M_statement_153 : decode b_M_statement 153 = .ok (.ifCond .ne 5, 3) := by decide +kernel
theorem d_M_statement_156 : decode b_M_statement 156 = .ok (.iconst 0, 1) := by decide +kernel
theorem d_M_statement_157 : decode b_M_statement 157 = .ok (.ireturn, 1) := by decide +kernel
theorem d_M_statement_158 : decode b_M_statement 158 = .ok (.aload_n 0, 1) := by decide +kernel
theorem d_M_statement_159 : decode b_M_statement 159 = .ok (.getfield 93, 3) := by decide +kernel
theorem d_M_statement_162 : decode b_M_statement 162 = .ok (.aload_n 0, 1) := by decide +kernel
theorem d_M_statement_163 : decode b_M_statement 163 = .ok (.getfield 41, 3) := by decide +kernel
theorem d_M_statement_166 : decode b_M_statement 166 = .ok (.iload_n 2, 1) := by decide +kernel
theorem d_M_statement_167 : decode b_M_statement 167 = .ok (.iaload, 1) := by decide +kernel
theorem d_M_statement_168 : decode b_M_statement 168 = .ok (.aload_n 0, 1) := by decide +kernel
theorem d_M_statement_169 : decode b_M_statement 169 = .ok (.getfield 13, 3) := by decide +kernel
theorem d_M_statement_172 : decode b_M_statement 172 = .ok (.iload 4, 2) := by decide +kernel
theorem d_M_statement_174 : decode b_M_statement 174 = .ok (.iaload, 1) := by decide +kernel
theorem d_M_statement_175 : decode b_M_statement 175 = .ok (.iastore, 1) := by decide +kernel
theorem d_M_statement_176 : decode b_M_statement 176 = .ok (.iconst 1, 1) := by decide +kernel
theorem d_M_statement_177 : decode b_M_statement 177 = .ok (.ireturn, 1) := by decide +kernel
theorem d_M_statement_178 : decode b_M_statement 178 = .ok (.aload_n 0, 1) := by decide +kernel
theorem d_M_statement_179 : decode b_M_statement 179 = .ok (.iload_n 1, 1) := by decide +kernel
theorem d_M_statement_180 : decode b_M_statement 180 = .ok (.iload_n 3, 1) := by decide +kernel
theorem d_M_statement_181 : decode b_M_statement 181 = .ok (.invokevirtual 107, 3) := by decide +kernel
theorem d_M_statement_184 : decode b_M_statement 184 = .ok (.ifCond .ne 18, 3) := by decide +kernel
theorem d_M_statement_187 : decode b_M_statement 187 = .ok (.aload_n 0, 1) := by decide +kernel
theorem d_M_statement_188 : decode b_M_statement 188 = .ok (.iload_n 3, 1) := by decide +kernel
theorem d_M_statement_189 : decode b_M_statement 189 = .ok (.iconst 1, 1) := by decide +kernel
theorem d_M_statement_190 : decode b_M_statement 190 = .ok (.iload 4, 2) := by decide +kernel
theorem d_M_statement_192 : decode b_M_statement 192 = .ok (.invokevirtual 110, 3) := by decide +kernel
theorem d_M_statement_195 : decode b_M_statement 195 = .ok (.ifCond .eq 7, 3) := by decide +kernel
theorem d_M_statement_198 : decode b_M_statement 198 = .ok (.iconst 1, 1) := by decide +kernel
theorem d_M_statement_199 : decode b_M_statement 199 = .ok (.goto 4, 3) := by decide +kernel
theorem d_M_statement_202 : decode b_M_statement 202 = .ok (.iconst 0, 1) := by decide +kernel
theorem d_M_statement_203 : decode b_M_statement 203 = .ok (.ireturn, 1) := by decide +kernel
theorem d_M_statement_204 : decode b_M_statement 204 = .ok (.aload_n 0, 1) := by decide +kernel
theorem d_M_statement_205 : decode b_M_statement 205 = .ok (.iload_n 1, 1) := by decide +kernel
theorem d_M_statement_206 : decode b_M_statement 206 = .ok (.iload_n 3, 1) := by decide +kernel
theorem d_M_statement_207 : decode b_M_statement 207 = .ok (.invokevirtual 107, 3) := by decide +kernel
theorem d_M_statement_210 : decode b_M_statement 210 = .ok (.ifCond .ne 27, 3) := by decide +kernel
theorem d_M_statement_213 : decode b_M_statement 213 = .ok (.aload_n 0, 1) := by decide +kernel
theorem d_M_statement_214 : decode b_M_statement 214 = .ok (.getfield 7, 3) := by decide +kernel
theorem d_M_statement_217 : decode b_M_statement 217 = .ok (.iload_n 3, 1) := by decide +kernel
theorem d_M_statement_218 : decode b_M_statement 218 = .ok (.baload, 1) := by decide +kernel
theorem d_M_statement_219 : decode b_M_statement 219 = .ok (.ifCond .ne 18, 3) := by decide +kernel
theorem d_M_statement_222 : decode b_M_statement 222 = .ok (.aload_n 0, 1) := by decide +kernel
theorem d_M_statement_223 : decode b_M_statement 223 = .ok (.iload_n 3, 1) := by decide +kernel
theorem d_M_statement_224 : decode b_M_statement 224 = .ok (.iconst 1, 1) := by decide +kernel
theorem d_M_statement_225 : decode b_M_statement 225 = .ok (.iload 4, 2) := by decide +kernel
theorem d_M_statement_227 : decode b_M_statement 227 = .ok (.invokevirtual 110, 3) := by decide +kernel
theorem d_M_statement_230 : decode b_M_statement 230 = .ok (.ifCond .eq 7, 3) := by decide +kernel
theorem d_M_statement_233 : decode b_M_statement 233 = .ok (.iconst 1, 1) := by decide +kernel
theorem d_M_statement_234 : decode b_M_statement 234 = .ok (.goto 4, 3) := by decide +kernel
theorem d_M_statement_237 : decode b_M_statement 237 = .ok (.iconst 0, 1) := by decide +kernel
theorem d_M_statement_238 : decode b_M_statement 238 = .ok (.ireturn, 1) := by decide +kernel
theorem d_M_statement_239 : decode b_M_statement 239 = .ok (.aload_n 0, 1) := by decide +kernel
theorem d_M_statement_240 : decode b_M_statement 240 = .ok (.iload_n 1, 1) := by decide +kernel
theorem d_M_statement_241 : decode b_M_statement 241 = .ok (.iload_n 3, 1) := by decide +kernel
theorem d_M_statement_242 : decode b_M_statement 242 = .ok (.invokevirtual 107, 3) := by decide +kernel
theorem d_M_statement_245 : decode b_M_statement 245 = .ok (.ifCond .ne 26, 3) := by decide +kernel
theorem d_M_statement_248 : decode b_M_statement 248 = .ok (.aload_n 0, 1) := by decide +kernel
theorem d_M_statement_249 : decode b_M_statement 249 = .ok (.getfield 7, 3) := by decide +kernel
theorem d_M_statement_252 : decode b_M_statement 252 = .ok (.iload_n 3, 1) := by decide +kernel
theorem d_M_statement_253 : decode b_M_statement 253 = .ok (.baload, 1) := by decide +kernel
theorem d_M_statement_254 : decode b_M_statement 254 = .ok (.ifCond .eq 17, 3) := by decide +kernel
theorem d_M_statement_257 : decode b_M_statement 257 = .ok (.aload_n 0, 1) := by decide +kernel
theorem d_M_statement_258 : decode b_M_statement 258 = .ok (.iload_n 3, 1) := by decide +kernel
theorem d_M_statement_259 : decode b_M_statement 259 = .ok (.iconst 0, 1) := by decide +kernel
theorem d_M_statement_260 : decode b_M_statement 260 = .ok (.iconst 0, 1) := by decide +kernel
theorem d_M_statement_261 : decode b_M_statement 261 = .ok (.invokevirtual 110, 3) := by decide +kernel
theorem d_M_statement_264 : decode b_M_statement 264 = .ok (.ifCond .eq 7, 3) := by decide +kernel
theorem d_M_statement_267 : decode b_M_statement 267 = .ok (.iconst 1, 1) := by decide +kernel
theorem d_M_statement_268 : decode b_M_statement 268 = .ok (.goto 4, 3) := by decide +kernel
theorem d_M_statement_271 : decode b_M_statement 271 = .ok (.iconst 0, 1) := by decide +kernel
theorem d_M_statement_272 : decode b_M_statement 272 = .ok (.ireturn, 1) := by decide +kernel
theorem d_M_statement_273 : decode b_M_statement 273 = .ok (.aload_n 0, 1) := by decide +kernel
theorem d_M_statement_274 : decode b_M_statement 274 = .ok (.getfield 93, 3) := by decide +kernel
theorem d_M_statement_277 : decode b_M_statement 277 = .ok (.aload_n 0, 1) := by decide +kernel
theorem d_M_statement_278 : decode b_M_statement 278 = .ok (.getfield 41, 3) := by decide +kernel
theorem d_M_statement_281 : decode b_M_statement 281 = .ok (.iload_n 2, 1) := by decide +kernel
theorem d_M_statement_282 : decode b_M_statement 282 = .ok (.iaload, 1) := by decide +kernel
theorem d_M_statement_283 : decode b_M_statement 283 = .ok (.iload 4, 2) := by decide +kernel
theorem d_M_statement_285 : decode b_M_statement 285 = .ok (.aload_n 0, 1) := by decide +kernel
theorem d_M_statement_286 : decode b_M_statement 286 = .ok (.getfield 93, 3) := by decide +kernel
theorem d_M_statement_289 : decode b_M_statement 289 = .ok (.aload_n 0, 1) := by decide +kernel
theorem d_M_statement_290 : decode b_M_statement 290 = .ok (.getfield 47, 3) := by decide +kernel
theorem d_M_statement_293 : decode b_M_statement 293 = .ok (.iload_n 2, 1) := by decide +kernel
theorem d_M_statement_294 : decode b_M_statement 294 = .ok (.iaload, 1) := by decide +kernel
theorem d_M_statement_295 : decode b_M_statement 295 = .ok (.iaload, 1) := by decide +kernel
theorem d_M_statement_296 : decode b_M_statement 296 = .ok (.iadd, 1) := by decide +kernel
theorem d_M_statement_297 : decode b_M_statement 297 = .ok (.iastore, 1) := by decide +kernel
theorem d_M_statement_298 : decode b_M_statement 298 = .ok (.iconst 1, 1) := by decide +kernel
theorem d_M_statement_299 : decode b_M_statement 299 = .ok (.ireturn, 1) := by decide +kernel
theorem d_M_statement_300 : decode b_M_statement 300 = .ok (.aload_n 0, 1) := by decide +kernel
theorem d_M_statement_301 : decode b_M_statement 301 = .ok (.getfield 93, 3) := by decide +kernel
theorem d_M_statement_304 : decode b_M_statement 304 = .ok (.aload_n 0, 1) := by decide +kernel
theorem d_M_statement_305 : decode b_M_statement 305 = .ok (.getfield 41, 3) := by decide +kernel
theorem d_M_statement_308 : decode b_M_statement 308 = .ok (.iload_n 2, 1) := by decide +kernel
theorem d_M_statement_309 : decode b_M_statement 309 = .ok (.iaload, 1) := by decide +kernel
theorem d_M_statement_310 : decode b_M_statement 310 = .ok (.aload_n 0, 1) := by decide +kernel
theorem d_M_statement_311 : decode b_M_statement 311 = .ok (.getfield 44, 3) := by decide +kernel
theorem d_M_statement_314 : decode b_M_statement 314 = .ok (.iload_n 2, 1) := by decide +kernel
theorem d_M_statement_315 : decode b_M_statement 315 = .ok (.iaload, 1) := by decide +kernel
theorem d_M_statement_316 : decode b_M_statement 316 = .ok (.iastore, 1) := by decide +kernel
theorem d_M_statement_317 : decode b_M_statement 317 = .ok (.iconst 1, 1) := by decide +kernel
theorem d_M_statement_318 : decode b_M_statement 318 = .ok (.ireturn, 1) := by decide +kernel
theorem d_M_statement_319 : decode b_M_statement 319 = .ok (.iload_n 3, 1) := by decide +kernel
theorem d_M_statement_320 : decode b_M_statement 320 = .ok (.iload 4, 2) := by decide +kernel
theorem d_M_statement_322 : decode b_M_statement 322 = .ok (.if_icmp .lt 7, 3) := by decide +kernel
theorem d_M_statement_325 : decode b_M_statement 325 = .ok (.iconst 1, 1) := by decide +kernel
theorem d_M_statement_326 : decode b_M_statement 326 = .ok (.goto 4, 3) := by decide +kernel
theorem d_M_statement_329 : decode b_M_statement 329 = .ok (.iconst 0, 1) := by decide +kernel
theorem d_M_statement_330 : decode b_M_statement 330 = .ok (.ireturn, 1) := by decide +kernel
theorem d_M_statement_331 : decode b_M_statement 331 = .ok (.iload 4, 2) := by decide +kernel
theorem d_M_statement_333 : decode b_M_statement 333 = .ok (.bipush 8, 2) := by decide +kernel
theorem d_M_statement_335 : decode b_M_statement 335 = .ok (.invokestatic 99, 3) := by decide +kernel
theorem d_M_statement_338 : decode b_M_statement 338 = .ok (.ifCond .eq 5, 3) := by decide +kernel
theorem d_M_statement_341 : decode b_M_statement 341 = .ok (.iconst 0, 1) := by decide +kernel
theorem d_M_statement_342 : decode b_M_statement 342 = .ok (.ireturn, 1) := by decide +kernel
theorem d_M_statement_343 : decode b_M_statement 343 = .ok (.aload_n 0, 1) := by decide +kernel
theorem d_M_statement_344 : decode b_M_statement 344 = .ok (.getfield 93, 3) := by decide +kernel
theorem d_M_statement_347 : decode b_M_statement 347 = .ok (.aload_n 0, 1) := by decide +kernel
theorem d_M_statement_348 : decode b_M_statement 348 = .ok (.getfield 41, 3) := by decide +kernel
theorem d_M_statement_351 : decode b_M_statement 351 = .ok (.iload_n 2, 1) := by decide +kernel
theorem d_M_statement_352 : decode b_M_statement 352 = .ok (.iaload, 1) := by decide +kernel
theorem d_M_statement_353 : decode b_M_statement 353 = .ok (.aload_n 0, 1) := by decide +kernel
theorem d_M_statement_354 : decode b_M_statement 354 = .ok (.getfield 13, 3) := by decide +kernel
theorem d_M_statement_357 : decode b_M_statement 357 = .ok (.bipush 32, 2) := by decide +kernel
theorem d_M_statement_359 : decode b_M_statement 359 = .ok (.iload 4, 2) := by decide +kernel
theorem d_M_statement_361 : decode b_M_statement 361 = .ok (.iadd, 1) := by decide +kernel
theorem d_M_statement_362 : decode b_M_statement 362 = .ok (.iaload, 1) := by decide +kernel
theorem d_M_statement_363 : decode b_M_statement 363 = .ok (.iastore, 1) := by decide +kernel
theorem d_M_statement_364 : decode b_M_statement 364 = .ok (.iconst 1, 1) := by decide +kernel
theorem d_M_statement_365 : decode b_M_statement 365 = .ok (.ireturn, 1) := by decide +kernel
theorem d_M_statement_366 : decode b_M_statement 366 = .ok (.iload_n 3, 1) := by decide +kernel
theorem d_M_statement_367 : decode b_M_statement 367 = .ok (.bipush 8, 2) := by decide +kernel
theorem d_M_statement_369 : decode b_M_statement 369 = .ok (.invokestatic 99, 3) := by decide +kernel
theorem d_M_statement_372 : decode b_M_statement 372 = .ok (.ifCond .ne 21, 3) := by decide +kernel
theorem d_M_statement_375 : decode b_M_statement 375 = .ok (.aload_n 0, 1) := by decide +kernel
theorem d_M_statement_376 : decode b_M_statement 376 = .ok (.bipush 32, 2) := by decide +kernel
theorem d_M_statement_378 : decode b_M_statement 378 = .ok (.iload_n 3, 1) := by decide +kernel
theorem d_M_statement_379 : decode b_M_statement 379 = .ok (.iadd, 1) := by decide +kernel
theorem d_M_statement_380 : decode b_M_statement 380 = .ok (.iconst 1, 1) := by decide +kernel
theorem d_M_statement_381 : decode b_M_statement 381 = .ok (.iload 4, 2) := by decide +kernel
theorem d_M_statement_383 : decode b_M_statement 383 = .ok (.invokevirtual 110, 3) := by decide +kernel
theorem d_M_statement_386 : decode b_M_statement 386 = .ok (.ifCond .eq 7, 3) := by decide +kernel
theorem d_M_statement_389 : decode b_M_statement 389 = .ok (.iconst 1, 1) := by decide +kernel
theorem d_M_statement_390 : decode b_M_statement 390 = .ok (.goto 4, 3) := by decide +kernel
theorem d_M_statement_393 : decode b_M_statement 393 = .ok (.iconst 0, 1) := by decide +kernel
theorem d_M_statement_394 : decode b_M_statement 394 = .ok (.ireturn, 1) := by decide +kernel
theorem d_M_statement_395 : decode b_M_statement 395 = .ok (.aload_n 0, 1) := by decide +kernel
theorem d_M_statement_396 : decode b_M_statement 396 = .ok (.getfield 69, 3) := by decide +kernel
theorem d_M_statement_399 : decode b_M_statement 399 = .ok (.iload_n 1, 1) := by decide +kernel
theorem d_M_statement_400 : decode b_M_statement 400 = .ok (.iaload, 1) := by decide +kernel
theorem d_M_statement_401 : decode b_M_statement 401 = .ok (.iconst 4, 1) := by decide +kernel
theorem d_M_statement_402 : decode b_M_statement 402 = .ok (.if_icmp .ne 5, 3) := by decide +kernel
theorem d_M_statement_405 : decode b_M_statement 405 = .ok (.iconst 0, 1) := by decide +kernel
theorem d_M_statement_406 : decode b_M_statement 406 = .ok (.ireturn, 1) := by decide +kernel
theorem d_M_statement_407 : decode b_M_statement 407 = .ok (.aload_n 0, 1) := by decide +kernel
theorem d_M_statement_408 : decode b_M_statement 408 = .ok (.getfield 72, 3) := by decide +kernel
theorem d_M_statement_411 : decode b_M_statement 411 = .ok (.iconst 4, 1) := by decide +kernel
theorem d_M_statement_412 : decode b_M_statement 412 = .ok (.iload_n 1, 1) := by decide +kernel
theorem d_M_statement_413 : decode b_M_statement 413 = .ok (.imul, 1) := by decide +kernel
theorem d_M_statement_414 : decode b_M_statement 414 = .ok (.aload_n 0, 1) := by decide +kernel
theorem d_M_statement_415 : decode b_M_statement 415 = .ok (.getfield 69, 3) := by decide +kernel
theorem d_M_statement_418 : decode b_M_statement 418 = .ok (.iload_n 1, 1) := by decide +kernel
theorem d_M_statement_419 : decode b_M_statement 419 = .ok (.iaload, 1) := by decide +kernel
theorem d_M_statement_420 : decode b_M_statement 420 = .ok (.iadd, 1) := by decide +kernel
theorem d_M_statement_421 : decode b_M_statement 421 = .ok (.iload_n 3, 1) := by decide +kernel
theorem d_M_statement_422 : decode b_M_statement 422 = .ok (.iastore, 1) := by decide +kernel
theorem d_M_statement_423 : decode b_M_statement 423 = .ok (.aload_n 0, 1) := by decide +kernel
theorem d_M_statement_424 : decode b_M_statement 424 = .ok (.getfield 69, 3) := by decide +kernel
theorem d_M_statement_427 : decode b_M_statement 427 = .ok (.iload_n 1, 1) := by decide +kernel
theorem d_M_statement_428 : decode b_M_statement 428 = .ok (.dup2, 1) := by decide +kernel
theorem d_M_statement_429 : decode b_M_statement 429 = .ok (.iaload, 1) := by decide +kernel
theorem d_M_statement_430 : decode b_M_statement 430 = .ok (.iconst 1, 1) := by decide +kernel
theorem d_M_statement_431 : decode b_M_statement 431 = .ok (.iadd, 1) := by decide +kernel
theorem d_M_statement_432 : decode b_M_statement 432 = .ok (.iastore, 1) := by decide +kernel
theorem d_M_statement_433 : decode b_M_statement 433 = .ok (.iconst 1, 1) := by decide +kernel
theorem d_M_statement_434 : decode b_M_statement 434 = .ok (.ireturn, 1) := by decide +kernel
theorem d_M_statement_435 : decode b_M_statement 435 = .ok (.iconst 1, 1) := by decide +kernel
theorem d_M_statement_436 : decode b_M_statement 436 = .ok (.ireturn, 1) := by decide +kernel
