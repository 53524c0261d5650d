noncomputable def ds09cX10_init_12 : List UInt8 := 2 :: 79 :: 42 :: 180 :: 0 :: 94 :: 28 :: 2 :: 79 :: 132 :: 2 :: 1 :: 167 :: 255 :: 233 :: 177 :: []
noncomputable def ds09cX10_init_11 : List UInt8 := 181 :: 0 :: 94 :: 3 :: 61 :: 28 :: 16 :: 8 :: 162 :: 0 :: 23 :: 42 :: 180 :: 0 :: 90 :: 28 :: ds09cX10_init_12
noncomputable def ds09cX10_init_10 : List UInt8 := 181 :: 0 :: 86 :: 42 :: 16 :: 8 :: 188 :: 10 :: 181 :: 0 :: 90 :: 42 :: 16 :: 8 :: 188 :: 10 :: ds09cX10_init_11
noncomputable def ds09cX10_init_9 : List UInt8 := 0 :: 22 :: 183 :: 0 :: 78 :: 181 :: 0 :: 79 :: 42 :: 187 :: 0 :: 83 :: 89 :: 183 :: 0 :: 85 :: ds09cX10_init_10
noncomputable def ds09cX10_init_8 : List UInt8 := 0 :: 22 :: 43 :: 183 :: 0 :: 69 :: 181 :: 0 :: 72 :: 42 :: 187 :: 0 :: 76 :: 89 :: 42 :: 180 :: ds09cX10_init_9
noncomputable def ds09cX10_init_7 : List UInt8 := 0 :: 62 :: 181 :: 0 :: 65 :: 42 :: 187 :: 0 :: 55 :: 89 :: 42 :: 180 :: 0 :: 10 :: 42 :: 180 :: ds09cX10_init_8
noncomputable def ds09cX10_init_6 : List UInt8 := 154 :: 183 :: 0 :: 57 :: 76 :: 42 :: 187 :: 0 :: 60 :: 89 :: 42 :: 180 :: 0 :: 22 :: 43 :: 183 :: ds09cX10_init_7
noncomputable def ds09cX10_init_5 : List UInt8 := 42 :: 180 :: 0 :: 22 :: 183 :: 0 :: 46 :: 181 :: 0 :: 49 :: 187 :: 0 :: 53 :: 89 :: 17 :: 2 :: ds09cX10_init_6
noncomputable def ds09cX10_init_4 : List UInt8 := 31 :: 183 :: 0 :: 37 :: 181 :: 0 :: 40 :: 42 :: 187 :: 0 :: 44 :: 89 :: 42 :: 180 :: 0 :: 16 :: ds09cX10_init_5
noncomputable def ds09cX10_init_3 : List UInt8 := 28 :: 181 :: 0 :: 31 :: 42 :: 187 :: 0 :: 35 :: 89 :: 42 :: 180 :: 0 :: 10 :: 42 :: 180 :: 0 :: ds09cX10_init_4
noncomputable def ds09cX10_init_2 : List UInt8 := 0 :: 21 :: 181 :: 0 :: 22 :: 42 :: 187 :: 0 :: 26 :: 89 :: 42 :: 180 :: 0 :: 22 :: 183 :: 0 :: ds09cX10_init_3
noncomputable def ds09cX10_init_1 : List UInt8 := 187 :: 0 :: 7 :: 89 :: 183 :: 0 :: 9 :: 181 :: 0 :: 16 :: 42 :: 187 :: 0 :: 19 :: 89 :: 183 :: ds09cX10_init_2
noncomputable def ds09cX10_init_0 : List UInt8 := 42 :: 183 :: 0 :: 1 :: 42 :: 187 :: 0 :: 7 :: 89 :: 183 :: 0 :: 9 :: 181 :: 0 :: 10 :: 42 :: ds09cX10_init_1
theorem dt09cX10_init_0 : cX10_init.data.toList.drop 0 = ds09cX10_init_0 := by decide +kernel
theorem dt09cX10_init_1 : cX10_init.data.toList.drop 16 = ds09cX10_init_1 := dq_suf 16 dt09cX10_init_0 rfl rfl
theorem dt09cX10_init_2 : cX10_init.data.toList.drop 32 = ds09cX10_init_2 := dq_suf 16 dt09cX10_init_1 rfl rfl
theorem dt09cX10_init_3 : cX10_init.data.toList.drop 48 = ds09cX10_init_3 := dq_suf 16 dt09cX10_init_2 rfl rfl
theorem dt09cX10_init_4 : cX10_init.data.toList.drop 64 = ds09cX10_init_4 := dq_suf 16 dt09cX10_init_3 rfl rfl
theorem dt09cX10_init_5 : cX10_init.data.toList.drop 80 = ds09cX10_init_5 := dq_suf 16 dt09cX10_init_4 rfl rfl
theorem dt09cX10_init_6 : cX10_init.data.toList.drop 96 = ds09cX10_init_6 := dq_suf 16 dt09cX10_init_5 rfl rfl
theorem dt09cX10_init_7 : cX10_init.data.toList.drop 112 = ds09cX10_init_7 := dq_suf 16 dt09cX10_init_6 rfl rfl
theorem dt09cX10_init_8 : cX10_init.data.toList.drop 128 = ds09cX10_init_8 := dq_suf 16 dt09cX10_init_7 rfl rfl
theorem dt09cX10_init_9 : cX10_init.data.toList.drop 144 = ds09cX10_init_9 := dq_suf 16 dt09cX10_init_8 rfl rfl
theorem dt09cX10_init_10 : cX10_init.data.toList.drop 160 = ds09cX10_init_10 := dq_suf 16 dt09cX10_init_9 rfl rfl
theorem dt09cX10_init_11 : cX10_init.data.toList.drop 176 = ds09cX10_init_11 := dq_suf 16 dt09cX10_init_10 rfl rfl
theorem dt09cX10_init_12 : cX10_init.data.toList.drop 192 = ds09cX10_init_12 := dq_suf 16 dt09cX10_init_11 rfl rfl
theorem dX10_init_0 : decode cX10_init 0 = .ok (.aload_n 0, 1) := dq_42 (dq_suf 0 dt09cX10_init_0 rfl rfl)
theorem dX10_init_1 : decode cX10_init 1 = .ok (.invokespecial 1, 3) := dq_183 (dq_suf 1 dt09cX10_init_0 rfl rfl) rfl
theorem dX10_init_4 : decode cX10_init 4 = .ok (.aload_n 0, 1) := dq_42 (dq_suf 4 dt09cX10_init_0 rfl rfl)
theorem dX10_init_5 : decode cX10_init 5 = .ok (.new 7, 3) := dq_187 (dq_suf 5 dt09cX10_init_0 rfl rfl) rfl
theorem dX10_init_8 : decode cX10_init 8 = .ok (.dup, 1) := dq_89 (dq_suf 8 dt09cX10_init_0 rfl rfl)
theorem dX10_init_9 : decode cX10_init 9 = .ok (.invokespecial 9, 3) := dq_183 (dq_suf 9 dt09cX10_init_0 rfl rfl) rfl
theorem dX10_init_12 : decode cX10_init 12 = .ok (.putfield 10, 3) := dq_181 (dq_suf 12 dt09cX10_init_0 rfl rfl) rfl
theorem dX10_init_15 : decode cX10_init 15 = .ok (.aload_n 0, 1) := dq_42 (dq_suf 15 dt09cX10_init_0 rfl rfl)
theorem dX10_init_16 : decode cX10_init 16 = .ok (.new 7, 3) := dq_187 (dq_suf 0 dt09cX10_init_1 rfl rfl) rfl
theorem dX10_init_19 : decode cX10_init 19 = .ok (.dup, 1) := dq_89 (dq_suf 3 dt09cX10_init_1 rfl rfl)
theorem dX10_init_20 : decode cX10_init 20 = .ok (.invokespecial 9, 3) := dq_183 (dq_suf 4 dt09cX10_init_1 rfl rfl) rfl
theorem dX10_init_23 : decode cX10_init 23 = .ok (.putfield 16, 3) := dq_181 (dq_suf 7 dt09cX10_init_1 rfl rfl) rfl
theorem dX10_init_26 : decode cX10_init 26 = .ok (.aload_n 0, 1) := dq_42 (dq_suf 10 dt09cX10_init_1 rfl rfl)
theorem dX10_init_27 : decode cX10_init 27 = .ok (.new 19, 3) := dq_187 (dq_suf 11 dt09cX10_init_1 rfl rfl) rfl
theorem dX10_init_30 : decode cX10_init 30 = .ok (.dup, 1) := dq_89 (dq_suf 14 dt09cX10_init_1 rfl rfl)
theorem dX10_init_31 : decode cX10_init 31 = .ok (.invokespecial 21, 3) := dq_183 (dq_suf 15 dt09cX10_init_1 rfl rfl) rfl
theorem dX10_init_34 : decode cX10_init 34 = .ok (.putfield 22, 3) := dq_181 (dq_suf 2 dt09cX10_init_2 rfl rfl) rfl
theorem dX10_init_37 : decode cX10_init 37 = .ok (.aload_n 0, 1) := dq_42 (dq_suf 5 dt09cX10_init_2 rfl rfl)
theorem dX10_init_38 : decode cX10_init 38 = .ok (.new 26, 3) := dq_187 (dq_suf 6 dt09cX10_init_2 rfl rfl) rfl
theorem dX10_init_41 : decode cX10_init 41 = .ok (.dup, 1) := dq_89 (dq_suf 9 dt09cX10_init_2 rfl rfl)
theorem dX10_init_42 : decode cX10_init 42 = .ok (.aload_n 0, 1) := dq_42 (dq_suf 10 dt09cX10_init_2 rfl rfl)
theorem dX10_init_43 : decode cX10_init 43 = .ok (.getfield 22, 3) := dq_180 (dq_suf 11 dt09cX10_init_2 rfl rfl) rfl
theorem dX10_init_46 : decode cX10_init 46 = .ok (.invokespecial 28, 3) := dq_183 (dq_suf 14 dt09cX10_init_2 rfl rfl) rfl
theorem dX10_init_49 : decode cX10_init 49 = .ok (.putfield 31, 3) := dq_181 (dq_suf 1 dt09cX10_init_3 rfl rfl) rfl
theorem dX10_init_52 : decode cX10_init 52 = .ok (.aload_n 0, 1) := dq_42 (dq_suf 4 dt09cX10_init_3 rfl rfl)
theorem dX10_init_53 : decode cX10_init 53 = .ok (.new 35, 3) := dq_187 (dq_suf 5 dt09cX10_init_3 rfl rfl) rfl
theorem dX10_init_56 : decode cX10_init 56 = .ok (.dup, 1) := dq_89 (dq_suf 8 dt09cX10_init_3 rfl rfl)
theorem dX10_init_57 : decode cX10_init 57 = .ok (.aload_n 0, 1) := dq_42 (dq_suf 9 dt09cX10_init_3 rfl rfl)
theorem dX10_init_58 : decode cX10_init 58 = .ok (.getfield 10, 3) := dq_180 (dq_suf 10 dt09cX10_init_3 rfl rfl) rfl
theorem dX10_init_61 : decode cX10_init 61 = .ok (.aload_n 0, 1) := dq_42 (dq_suf 13 dt09cX10_init_3 rfl rfl)
theorem dX10_init_62 : decode cX10_init 62 = .ok (.getfield 31, 3) := dq_180 (dq_suf 14 dt09cX10_init_3 rfl rfl) rfl
theorem dX10_init_65 : decode cX10_init 65 = .ok (.invokespecial 37, 3) := dq_183 (dq_suf 1 dt09cX10_init_4 rfl rfl) rfl
theorem dX10_init_68 : decode cX10_init 68 = .ok (.putfield 40, 3) := dq_181 (dq_suf 4 dt09cX10_init_4 rfl rfl) rfl
theorem dX10_init_71 : decode cX10_init 71 = .ok (.aload_n 0, 1) := dq_42 (dq_suf 7 dt09cX10_init_4 rfl rfl)
theorem dX10_init_72 : decode cX10_init 72 = .ok (.new 44, 3) := dq_187 (dq_suf 8 dt09cX10_init_4 rfl rfl) rfl
theorem dX10_init_75 : decode cX10_init 75 = .ok (.dup, 1) := dq_89 (dq_suf 11 dt09cX10_init_4 rfl rfl)
theorem dX10_init_76 : decode cX10_init 76 = .ok (.aload_n 0, 1) := dq_42 (dq_suf 12 dt09cX10_init_4 rfl rfl)
theorem dX10_init_77 : decode cX10_init 77 = .ok (.getfield 16, 3) := dq_180 (dq_suf 13 dt09cX10_init_4 rfl rfl) rfl
theorem dX10_init_80 : decode cX10_init 80 = .ok (.aload_n 0, 1) := dq_42 (dq_suf 0 dt09cX10_init_5 rfl rfl)
theorem dX10_init_81 : decode cX10_init 81 = .ok (.getfield 22, 3) := dq_180 (dq_suf 1 dt09cX10_init_5 rfl rfl) rfl
theorem dX10_init_84 : decode cX10_init 84 = .ok (.invokespecial 46, 3) := dq_183 (dq_suf 4 dt09cX10_init_5 rfl rfl) rfl
theorem dX10_init_87 : decode cX10_init 87 = .ok (.putfield 49, 3) := dq_181 (dq_suf 7 dt09cX10_init_5 rfl rfl) rfl
theorem dX10_init_90 : decode cX10_init 90 = .ok (.new 53, 3) := dq_187 (dq_suf 10 dt09cX10_init_5 rfl rfl) rfl
theorem dX10_init_93 : decode cX10_init 93 = .ok (.dup, 1) := dq_89 (dq_suf 13 dt09cX10_init_5 rfl rfl)
theorem dX10_init_94 : decode cX10_init 94 = .ok (.sipush 666, 3) := dq_17 (dq_suf 14 dt09cX10_init_5 rfl rfl) (by decide +kernel)
theorem dX10_init_97 : decode cX10_init 97 = .ok (.invokespecial 57, 3) := dq_183 (dq_suf 1 dt09cX10_init_6 rfl rfl) rfl
theorem dX10_init_100 : decode cX10_init 100 = .ok (.astore_n 1, 1) := dq_76 (dq_suf 4 dt09cX10_init_6 rfl rfl)
theorem dX10_init_101 : decode cX10_init 101 = .ok (.aload_n 0, 1) := dq_42 (dq_suf 5 dt09cX10_init_6 rfl rfl)
theorem dX10_init_102 : decode cX10_init 102 = .ok (.new 60, 3) := dq_187 (dq_suf 6 dt09cX10_init_6 rfl rfl) rfl
theorem dX10_init_105 : decode cX10_init 105 = .ok (.dup, 1) := dq_89 (dq_suf 9 dt09cX10_init_6 rfl rfl)
theorem dX10_init_106 : decode cX10_init 106 = .ok (.aload_n 0, 1) := dq_42 (dq_suf 10 dt09cX10_init_6 rfl rfl)
theorem dX10_init_107 : decode cX10_init 107 = .ok (.getfield 22, 3) := dq_180 (dq_suf 11 dt09cX10_init_6 rfl rfl) rfl
theorem dX10_init_110 : decode cX10_init 110 = .ok (.aload_n 1, 1) := dq_43 (dq_suf 14 dt09cX10_init_6 rfl rfl)
theorem dX10_init_111 : decode cX10_init 111 = .ok (.invokespecial 62, 3) := dq_183 (dq_suf 15 dt09cX10_init_6 rfl rfl) rfl
theorem dX10_init_114 : decode cX10_init 114 = .ok (.putfield 65, 3) := dq_181 (dq_suf 2 dt09cX10_init_7 rfl rfl) rfl
theorem dX10_init_117 : decode cX10_init 117 = .ok (.aload_n 0, 1) := dq_42 (dq_suf 5 dt09cX10_init_7 rfl rfl)
theorem dX10_init_118 : decode cX10_init 118 = .ok (.new 55, 3) := dq_187 (dq_suf 6 dt09cX10_init_7 rfl rfl) rfl
theorem dX10_init_121 : decode cX10_init 121 = .ok (.dup, 1) := dq_89 (dq_suf 9 dt09cX10_init_7 rfl rfl)
theorem dX10_init_122 : decode cX10_init 122 = .ok (.aload_n 0, 1) := dq_42 (dq_suf 10 dt09cX10_init_7 rfl rfl)
theorem dX10_init_123 : decode cX10_init 123 = .ok (.getfield 10, 3) := dq_180 (dq_suf 11 dt09cX10_init_7 rfl rfl) rfl
theorem dX10_init_126 : decode cX10_init 126 = .ok (.aload_n 0, 1) := dq_42 (dq_suf 14 dt09cX10_init_7 rfl rfl)
theorem dX10_init_127 : decode cX10_init 127 = .ok (.getfield 22, 3) := dq_180 (dq_suf 15 dt09cX10_init_7 rfl rfl) rfl
theorem dX10_init_130 : decode cX10_init 130 = .ok (.aload_n 1, 1) := dq_43 (dq_suf 2 dt09cX10_init_8 rfl rfl)
theorem dX10_init_131 : decode cX10_init 131 = .ok (.invokespecial 69, 3) := dq_183 (dq_suf 3 dt09cX10_init_8 rfl rfl) rfl
theorem dX10_init_134 : decode cX10_init 134 = .ok (.putfield 72, 3) := dq_181 (dq_suf 6 dt09cX10_init_8 rfl rfl) rfl
theorem dX10_init_137 : decode cX10_init 137 = .ok (.aload_n 0, 1) := dq_42 (dq_suf 9 dt09cX10_init_8 rfl rfl)
theorem dX10_init_138 : decode cX10_init 138 = .ok (.new 76, 3) := dq_187 (dq_suf 10 dt09cX10_init_8 rfl rfl) rfl
theorem dX10_init_141 : decode cX10_init 141 = .ok (.dup, 1) := dq_89 (dq_suf 13 dt09cX10_init_8 rfl rfl)
theorem dX10_init_142 : decode cX10_init 142 = .ok (.aload_n 0, 1) := dq_42 (dq_suf 14 dt09cX10_init_8 rfl rfl)
theorem dX10_init_143 : decode cX10_init 143 = .ok (.getfield 22, 3) := dq_180 (dq_suf 15 dt09cX10_init_8 rfl rfl) rfl
theorem dX10_init_146 : decode cX10_init 146 = .ok (.invokespecial 78, 3) := dq_183 (dq_suf 2 dt09cX10_init_9 rfl rfl) rfl
theorem dX10_init_149 : decode cX10_init 149 = .ok (.putfield 79, 3) := dq_181 (dq_suf 5 dt09cX10_init_9 rfl rfl) rfl
theorem dX10_init_152 : decode cX10_init 152 = .ok (.aload_n 0, 1) := dq_42 (dq_suf 8 dt09cX10_init_9 rfl rfl)
theorem dX10_init_153 : decode cX10_init 153 = .ok (.new 83, 3) := dq_187 (dq_suf 9 dt09cX10_init_9 rfl rfl) rfl
theorem dX10_init_156 : decode cX10_init 156 = .ok (.dup, 1) := dq_89 (dq_suf 12 dt09cX10_init_9 rfl rfl)
theorem dX10_init_157 : decode cX10_init 157 = .ok (.invokespecial 85, 3) := dq_183 (dq_suf 13 dt09cX10_init_9 rfl rfl) rfl
theorem dX10_init_160 : decode cX10_init 160 = .ok (.putfield 86, 3) := dq_181 (dq_suf 0 dt09cX10_init_10 rfl rfl) rfl
theorem dX10_init_163 : decode cX10_init 163 = .ok (.aload_n 0, 1) := dq_42 (dq_suf 3 dt09cX10_init_10 rfl rfl)
theorem dX10_init_164 : decode cX10_init 164 = .ok (.bipush 8, 2) := dq_16 (dq_suf 4 dt09cX10_init_10 rfl rfl) (by decide +kernel)
theorem dX10_init_166 : decode cX10_init 166 = .ok (.newarray .int, 2) := by decide +kernel
theorem dX10_init_168 : decode cX10_init 168 = .ok (.putfield 90, 3) := dq_181 (dq_suf 8 dt09cX10_init_10 rfl rfl) rfl
theorem dX10_init_171 : decode cX10_init 171 = .ok (.aload_n 0, 1) := dq_42 (dq_suf 11 dt09cX10_init_10 rfl rfl)
theorem dX10_init_172 : decode cX10_init 172 = .ok (.bipush 8, 2) := dq_16 (dq_suf 12 dt09cX10_init_10 rfl rfl) (by decide +kernel)
theorem dX10_init_174 : decode cX10_init 174 = .ok (.newarray .int, 2) := by decide +kernel
theorem dX10_init_176 : decode cX10_init 176 = .ok (.putfield 94, 3) := dq_181 (dq_suf 0 dt09cX10_init_11 rfl rfl) rfl
theorem dX10_init_179 : decode cX10_init 179 = .ok (.iconst 0, 1) := dq_3 (dq_suf 3 dt09cX10_init_11 rfl rfl)
theorem dX10_init_180 : decode cX10_init 180 = .ok (.istore_n 2, 1) := dq_61 (dq_suf 4 dt09cX10_init_11 rfl rfl)
theorem dX10_init_181 : decode cX10_init 181 = .ok (.iload_n 2, 1) := dq_28 (dq_suf 5 dt09cX10_init_11 rfl rfl)
theorem dX10_init_182 : decode cX10_init 182 = .ok (.bipush 8, 2) := dq_16 (dq_suf 6 dt09cX10_init_11 rfl rfl) (by decide +kernel)
theorem dX10_init_184 : decode cX10_init 184 = .ok (.if_icmp .ge 23, 3) := dq_162 (dq_suf 8 dt09cX10_init_11 rfl rfl) (by decide +kernel)
theorem dX10_init_187 : decode cX10_init 187 = .ok (.aload_n 0, 1) := dq_42 (dq_suf 11 dt09cX10_init_11 rfl rfl)
theorem dX10_init_188 : decode cX10_init 188 = .ok (.getfield 90, 3) := dq_180 (dq_suf 12 dt09cX10_init_11 rfl rfl) rfl
theorem dX10_init_191 : decode cX10_init 191 = .ok (.iload_n 2, 1) := dq_28 (dq_suf 15 dt09cX10_init_11 rfl rfl)
theorem dX10_init_192 : decode cX10_init 192 = .ok (.iconst (-1), 1) := dq_2 (dq_suf 0 dt09cX10_init_12 rfl rfl)
theorem dX10_init_193 : decode cX10_init 193 = .ok (.iastore, 1) := dq_79 (dq_suf 1 dt09cX10_init_12 rfl rfl)
theorem dX10_init_194 : decode cX10_init 194 = .ok (.aload_n 0, 1) := dq_42 (dq_suf 2 dt09cX10_init_12 rfl rfl)
theorem dX10_init_195 : decode cX10_init 195 = .ok (.getfield 94, 3) := dq_180 (dq_suf 3 dt09cX10_init_12 rfl rfl) rfl
theorem dX10_init_198 : decode cX10_init 198 = .ok (.iload_n 2, 1) := dq_28 (dq_suf 6 dt09cX10_init_12 rfl rfl)
theorem dX10_init_199 : decode cX10_init 199 = .ok (.iconst (-1), 1) := dq_2 (dq_suf 7 dt09cX10_init_12 rfl rfl)
theorem dX10_init_200 : decode cX10_init 200 = .ok (.iastore, 1) := dq_79 (dq_suf 8 dt09cX10_init_12 rfl rfl)
theorem dX10_init_201 : decode cX10_init 201 = .ok (.iinc 2 1, 3) := dq_132 (dq_suf 9 dt09cX10_init_12 rfl rfl) rfl (by decide +kernel)
theorem dX10_init_204 : decode cX10_init 204 = .ok (.goto (-23), 3) := dq_167 (dq_suf 12 dt09cX10_init_12 rfl rfl) (by decide +kernel)
theorem dX10_init_207 : decode cX10_init 207 = .ok (.return_, 1) := dq_177 (dq_suf 15 dt09cX10_init_12 rfl rfl)
noncomputable def ds09cX10_feed_4 : List UInt8 := 182 :: 0 :: 97 :: 172 :: []
noncomputable def ds09cX10_feed_3 : List UInt8 := 182 :: 0 :: 101 :: 42 :: 180 :: 0 :: 10 :: 21 :: 5 :: 182 :: 0 :: 101 :: 42 :: 180 :: 0 :: 10 :: ds09cX10_feed_4
noncomputable def ds09cX10_feed_2 : List UInt8 := 0 :: 101 :: 42 :: 180 :: 0 :: 10 :: 29 :: 182 :: 0 :: 101 :: 42 :: 180 :: 0 :: 10 :: 21 :: 4 :: ds09cX10_feed_3
noncomputable def ds09cX10_feed_1 : List UInt8 := 2 :: 172 :: 42 :: 180 :: 0 :: 10 :: 27 :: 182 :: 0 :: 101 :: 42 :: 180 :: 0 :: 10 :: 28 :: 182 :: ds09cX10_feed_2
noncomputable def ds09cX10_feed_0 : List UInt8 := 42 :: 180 :: 0 :: 10 :: 182 :: 0 :: 97 :: 16 :: 20 :: 96 :: 17 :: 15 :: 160 :: 164 :: 0 :: 5 :: ds09cX10_feed_1
theorem dt09cX10_feed_0 : cX10_feed.data.toList.drop 0 = ds09cX10_feed_0 := by decide +kernel
theorem dt09cX10_feed_1 : cX10_feed.data.toList.drop 16 = ds09cX10_feed_1 := dq_suf 16 dt09cX10_feed_0 rfl rfl
theorem dt09cX10_feed_2 : cX10_feed.data.toList.drop 32 = ds09cX10_feed_2 := dq_suf 16 dt09cX10_feed_1 rfl rfl
theorem dt09cX10_feed_3 : cX10_feed.data.toList.drop 48 = ds09cX10_feed_3 := dq_suf 16 dt09cX10_feed_2 rfl rfl
theorem dt09cX10_feed_4 : cX10_feed.data.toList.drop 64 = ds09cX10_feed_4 := dq_suf 16 dt09cX10_feed_3 rfl rfl
theorem dX10_feed_0 : decode cX10_feed 0 = .ok (.aload_n 0, 1) := dq_42 (dq_suf 0 dt09cX10_feed_0 rfl rfl)
theorem dX10_feed_1 : decode cX10_feed 1 = .ok (.getfield 10, 3) := dq_180 (dq_suf 1 dt09cX10_feed_0 rfl rfl) rfl
theorem dX10_feed_4 : decode cX10_feed 4 = .ok (.invokevirtual 97, 3) := dq_182 (dq_suf 4 dt09cX10_feed_0 rfl rfl) rfl
theorem dX10_feed_7 : decode cX10_feed 7 = .ok (.bipush 20, 2) := dq_16 (dq_suf 7 dt09cX10_feed_0 rfl rfl) (by decide +kernel)
theorem dX10_feed_9 : decode cX10_feed 9 = .ok (.iadd, 1) := dq_96 (dq_suf 9 dt09cX10_feed_0 rfl rfl)
theorem dX10_feed_10 : decode cX10_feed 10 = .ok (.sipush 4000, 3) := dq_17 (dq_suf 10 dt09cX10_feed_0 rfl rfl) (by decide +kernel)
theorem dX10_feed_13 : decode cX10_feed 13 = .ok (.if_icmp .le 5, 3) := dq_164 (dq_suf 13 dt09cX10_feed_0 rfl rfl) (by decide +kernel)
theorem dX10_feed_16 : decode cX10_feed 16 = .ok (.iconst (-1), 1) := dq_2 (dq_suf 0 dt09cX10_feed_1 rfl rfl)
theorem dX10_feed_17 : decode cX10_feed 17 = .ok (.ireturn, 1) := dq_172 (dq_suf 1 dt09cX10_feed_1 rfl rfl)
theorem dX10_feed_18 : decode cX10_feed 18 = .ok (.aload_n 0, 1) := dq_42 (dq_suf 2 dt09cX10_feed_1 rfl rfl)
theorem dX10_feed_19 : decode cX10_feed 19 = .ok (.getfield 10, 3) := dq_180 (dq_suf 3 dt09cX10_feed_1 rfl rfl) rfl
theorem dX10_feed_22 : decode cX10_feed 22 = .ok (.iload_n 1, 1) := dq_27 (dq_suf 6 dt09cX10_feed_1 rfl rfl)
theorem dX10_feed_23 : decode cX10_feed 23 = .ok (.invokevirtual 101, 3) := dq_182 (dq_suf 7 dt09cX10_feed_1 rfl rfl) rfl
theorem dX10_feed_26 : decode cX10_feed 26 = .ok (.aload_n 0, 1) := dq_42 (dq_suf 10 dt09cX10_feed_1 rfl rfl)
theorem dX10_feed_27 : decode cX10_feed 27 = .ok (.getfield 10, 3) := dq_180 (dq_suf 11 dt09cX10_feed_1 rfl rfl) rfl
theorem dX10_feed_30 : decode cX10_feed 30 = .ok (.iload_n 2, 1) := dq_28 (dq_suf 14 dt09cX10_feed_1 rfl rfl)
theorem dX10_feed_31 : decode cX10_feed 31 = .ok (.invokevirtual 101, 3) := dq_182 (dq_suf 15 dt09cX10_feed_1 rfl rfl) rfl
theorem dX10_feed_34 : decode cX10_feed 34 = .ok (.aload_n 0, 1) := dq_42 (dq_suf 2 dt09cX10_feed_2 rfl rfl)
theorem dX10_feed_35 : decode cX10_feed 35 = .ok (.getfield 10, 3) := dq_180 (dq_suf 3 dt09cX10_feed_2 rfl rfl) rfl
theorem dX10_feed_38 : decode cX10_feed 38 = .ok (.iload_n 3, 1) := dq_29 (dq_suf 6 dt09cX10_feed_2 rfl rfl)
theorem dX10_feed_39 : decode cX10_feed 39 = .ok (.invokevirtual 101, 3) := dq_182 (dq_suf 7 dt09cX10_feed_2 rfl rfl) rfl
theorem dX10_feed_42 : decode cX10_feed 42 = .ok (.aload_n 0, 1) := dq_42 (dq_suf 10 dt09cX10_feed_2 rfl rfl)
theorem dX10_feed_43 : decode cX10_feed 43 = .ok (.getfield 10, 3) := dq_180 (dq_suf 11 dt09cX10_feed_2 rfl rfl) rfl
theorem dX10_feed_46 : decode cX10_feed 46 = .ok (.iload 4, 2) := dq_21 (dq_suf 14 dt09cX10_feed_2 rfl rfl) rfl
theorem dX10_feed_48 : decode cX10_feed 48 = .ok (.invokevirtual 101, 3) := dq_182 (dq_suf 0 dt09cX10_feed_3 rfl rfl) rfl
theorem dX10_feed_51 : decode cX10_feed 51 = .ok (.aload_n 0, 1) := dq_42 (dq_suf 3 dt09cX10_feed_3 rfl rfl)
theorem dX10_feed_52 : decode cX10_feed 52 = .ok (.getfield 10, 3) := dq_180 (dq_suf 4 dt09cX10_feed_3 rfl rfl) rfl
theorem dX10_feed_55 : decode cX10_feed 55 = .ok (.iload 5, 2) := dq_21 (dq_suf 7 dt09cX10_feed_3 rfl rfl) rfl
theorem dX10_feed_57 : decode cX10_feed 57 = .ok (.invokevirtual 101, 3) := dq_182 (dq_suf 9 dt09cX10_feed_3 rfl rfl) rfl
theorem dX10_feed_60 : decode cX10_feed 60 = .ok (.aload_n 0, 1) := dq_42 (dq_suf 12 dt09cX10_feed_3 rfl rfl)
theorem dX10_feed_61 : decode cX10_feed 61 = .ok (.getfield 10, 3) := dq_180 (dq_suf 13 dt09cX10_feed_3 rfl rfl) rfl
theorem dX10_feed_64 : decode cX10_feed 64 = .ok (.invokevirtual 97, 3) := dq_182 (dq_suf 0 dt09cX10_feed_4 rfl rfl) rfl
theorem dX10_feed_67 : decode cX10_feed 67 = .ok (.ireturn, 1) := dq_172 (dq_suf 3 dt09cX10_feed_4 rfl rfl)
noncomputable def ds09cX10_end_1 : List UInt8 := 172 :: []
noncomputable def ds09cX10_end_0 : List UInt8 := 42 :: 180 :: 0 :: 10 :: 27 :: 182 :: 0 :: 104 :: 153 :: 0 :: 7 :: 27 :: 167 :: 0 :: 4 :: 2 :: ds09cX10_end_1
theorem dt09cX10_end_0 : cX10_end.data.toList.drop 0 = ds09cX10_end_0 := by decide +kernel
theorem dt09cX10_end_1 : cX10_end.data.toList.drop 16 = ds09cX10_end_1 := dq_suf 16 dt09cX10_end_0 rfl rfl
theorem dX10_end_0 : decode cX10_end 0 = .ok (.aload_n 0, 1) := dq_42 (dq_suf 0 dt09cX10_end_0 rfl rfl)
theorem dX10_end_1 : decode cX10_end 1 = .ok (.getfield 10, 3) := dq_180 (dq_suf 1 dt09cX10_end_0 rfl rfl) rfl
theorem dX10_end_4 : decode cX10_end 4 = .ok (.iload_n 1, 1) := dq_27 (dq_suf 4 dt09cX10_end_0 rfl rfl)
theorem dX10_end_5 : decode cX10_end 5 = .ok (.invokevirtual 104, 3) := dq_182 (dq_suf 5 dt09cX10_end_0 rfl rfl) rfl
theorem dX10_end_8 : decode cX10_end 8 = .ok (.ifCond .eq 7, 3) := dq_153 (dq_suf 8 dt09cX10_end_0 rfl rfl) (by decide +kernel)
theorem dX10_end_11 : decode cX10_end 11 = .ok (.iload_n 1, 1) := dq_27 (dq_suf 11 dt09cX10_end_0 rfl rfl)
theorem dX10_end_12 : decode cX10_end 12 = .ok (.goto 4, 3) := dq_167 (dq_suf 12 dt09cX10_end_0 rfl rfl) (by decide +kernel)
theorem dX10_end_15 : decode cX10_end 15 = .ok (.iconst (-1), 1) := dq_2 (dq_suf 15 dt09cX10_end_0 rfl rfl)
theorem dX10_end_16 : decode cX10_end 16 = .ok (.ireturn, 1) := dq_172 (dq_suf 0 dt09cX10_end_1 rfl rfl)
noncomputable def ds09cX10_take_1 : List UInt8 := 0 :: 97 :: 172 :: []
noncomputable def ds09cX10_take_0 : List UInt8 := 42 :: 180 :: 0 :: 10 :: 42 :: 180 :: 0 :: 16 :: 182 :: 0 :: 108 :: 42 :: 180 :: 0 :: 10 :: 182 :: ds09cX10_take_1
theorem dt09cX10_take_0 : cX10_take.data.toList.drop 0 = ds09cX10_take_0 := by decide +kernel
theorem dt09cX10_take_1 : cX10_take.data.toList.drop 16 = ds09cX10_take_1 := dq_suf 16 dt09cX10_take_0 rfl rfl
theorem dX10_take_0 : decode cX10_take 0 = .ok (.aload_n 0, 1) := dq_42 (dq_suf 0 dt09cX10_take_0 rfl rfl)
theorem dX10_take_1 : decode cX10_take 1 = .ok (.getfield 10, 3) := dq_180 (dq_suf 1 dt09cX10_take_0 rfl rfl) rfl
theorem dX10_take_4 : decode cX10_take 4 = .ok (.aload_n 0, 1) := dq_42 (dq_suf 4 dt09cX10_take_0 rfl rfl)
theorem dX10_take_5 : decode cX10_take 5 = .ok (.getfield 16, 3) := dq_180 (dq_suf 5 dt09cX10_take_0 rfl rfl) rfl
theorem dX10_take_8 : decode cX10_take 8 = .ok (.invokevirtual 108, 3) := dq_182 (dq_suf 8 dt09cX10_take_0 rfl rfl) rfl
theorem dX10_take_11 : decode cX10_take 11 = .ok (.aload_n 0, 1) := dq_42 (dq_suf 11 dt09cX10_take_0 rfl rfl)
theorem dX10_take_12 : decode cX10_take 12 = .ok (.getfield 10, 3) := dq_180 (dq_suf 12 dt09cX10_take_0 rfl rfl) rfl
theorem dX10_take_15 : decode cX10_take 15 = .ok (.invokevirtual 97, 3) := dq_182 (dq_suf 15 dt09cX10_take_0 rfl rfl) rfl
theorem dX10_take_18 : decode cX10_take 18 = .ok (.ireturn, 1) := dq_172 (dq_suf 2 dt09cX10_take_1 rfl rfl)
noncomputable def ds09cX10_alter_0 : List UInt8 := 42 :: 180 :: 0 :: 10 :: 27 :: 28 :: 182 :: 0 :: 112 :: 172 :: []
theorem dt09cX10_alter_0 : cX10_alter.data.toList.drop 0 = ds09cX10_alter_0 := by decide +kernel
theorem dX10_alter_0 : decode cX10_alter 0 = .ok (.aload_n 0, 1) := dq_42 (dq_suf 0 dt09cX10_alter_0 rfl rfl)
theorem dX10_alter_1 : decode cX10_alter 1 = .ok (.getfield 10, 3) := dq_180 (dq_suf 1 dt09cX10_alter_0 rfl rfl) rfl
theorem dX10_alter_4 : decode cX10_alter 4 = .ok (.iload_n 1, 1) := dq_27 (dq_suf 4 dt09cX10_alter_0 rfl rfl)
theorem dX10_alter_5 : decode cX10_alter 5 = .ok (.iload_n 2, 1) := dq_28 (dq_suf 5 dt09cX10_alter_0 rfl rfl)
theorem dX10_alter_6 : decode cX10_alter 6 = .ok (.invokevirtual 112, 3) := dq_182 (dq_suf 6 dt09cX10_alter_0 rfl rfl) rfl
theorem dX10_alter_9 : decode cX10_alter 9 = .ok (.ireturn, 1) := dq_172 (dq_suf 9 dt09cX10_alter_0 rfl rfl)
noncomputable def ds09cX10_out_0 : List UInt8 := 42 :: 180 :: 0 :: 16 :: 27 :: 182 :: 0 :: 116 :: 172 :: []
theorem dt09cX10_out_0 : cX10_out.data.toList.drop 0 = ds09cX10_out_0 := by decide +kernel
theorem dX10_out_0 : decode cX10_out 0 = .ok (.aload_n 0, 1) := dq_42 (dq_suf 0 dt09cX10_out_0 rfl rfl)
theorem dX10_out_1 : decode cX10_out 1 = .ok (.getfield 16, 3) := dq_180 (dq_suf 1 dt09cX10_out_0 rfl rfl) rfl
theorem dX10_out_4 : decode cX10_out 4 = .ok (.iload_n 1, 1) := dq_27 (dq_suf 4 dt09cX10_out_0 rfl rfl)
theorem dX10_out_5 : decode cX10_out 5 = .ok (.invokevirtual 116, 3) := dq_182 (dq_suf 5 dt09cX10_out_0 rfl rfl) rfl
theorem dX10_out_8 : decode cX10_out 8 = .ok (.ireturn, 1) := dq_172 (dq_suf 8 dt09cX10_out_0 rfl rfl)
noncomputable def ds09cX10_read_3 : List UInt8 := 7 :: 2 :: 182 :: 0 :: 130 :: 16 :: 254 :: 172 :: 42 :: 180 :: 0 :: 90 :: 27 :: 46 :: 172 :: []
noncomputable def ds09cX10_read_2 : List UInt8 := 16 :: 254 :: 172 :: 42 :: 27 :: 29 :: 182 :: 0 :: 127 :: 154 :: 0 :: 15 :: 42 :: 180 :: 0 :: 40 :: ds09cX10_read_3
noncomputable def ds09cX10_read_1 : List UInt8 := 123 :: 62 :: 42 :: 180 :: 0 :: 10 :: 3 :: 182 :: 0 :: 104 :: 87 :: 29 :: 2 :: 160 :: 0 :: 6 :: ds09cX10_read_2
noncomputable def ds09cX10_read_0 : List UInt8 := 27 :: 184 :: 0 :: 120 :: 154 :: 0 :: 5 :: 2 :: 172 :: 42 :: 180 :: 0 :: 40 :: 28 :: 182 :: 0 :: ds09cX10_read_1
theorem dt09cX10_read_0 : cX10_read.data.toList.drop 0 = ds09cX10_read_0 := by decide +kernel
theorem dt09cX10_read_1 : cX10_read.data.toList.drop 16 = ds09cX10_read_1 := dq_suf 16 dt09cX10_read_0 rfl rfl
theorem dt09cX10_read_2 : cX10_read.data.toList.drop 32 = ds09cX10_read_2 := dq_suf 16 dt09cX10_read_1 rfl rfl
theorem dt09cX10_read_3 : cX10_read.data.toList.drop 48 = ds09cX10_read_3 := dq_suf 16 dt09cX10_read_2 rfl rfl
theorem dX10_read_0 : decode cX10_read 0 = .ok (.iload_n 1, 1) := dq_27 (dq_suf 0 dt09cX10_read_0 rfl rfl)
theorem dX10_read_1 : decode cX10_read 1 = .ok (.invokestatic 120, 3) := dq_184 (dq_suf 1 dt09cX10_read_0 rfl rfl) rfl
theorem dX10_read_4 : decode cX10_read 4 = .ok (.ifCond .ne 5, 3) := dq_154 (dq_suf 4 dt09cX10_read_0 rfl rfl) (by decide +kernel)
theorem dX10_read_7 : decode cX10_read 7 = .ok (.iconst (-1), 1) := dq_2 (dq_suf 7 dt09cX10_read_0 rfl rfl)
theorem dX10_read_8 : decode cX10_read 8 = .ok (.ireturn, 1) := dq_172 (dq_suf 8 dt09cX10_read_0 rfl rfl)
theorem dX10_read_9 : decode cX10_read 9 = .ok (.aload_n 0, 1) := dq_42 (dq_suf 9 dt09cX10_read_0 rfl rfl)
theorem dX10_read_10 : decode cX10_read 10 = .ok (.getfield 40, 3) := dq_180 (dq_suf 10 dt09cX10_read_0 rfl rfl) rfl
theorem dX10_read_13 : decode cX10_read 13 = .ok (.iload_n 2, 1) := dq_28 (dq_suf 13 dt09cX10_read_0 rfl rfl)
theorem dX10_read_14 : decode cX10_read 14 = .ok (.invokevirtual 123, 3) := dq_182 (dq_suf 14 dt09cX10_read_0 rfl rfl) rfl
theorem dX10_read_17 : decode cX10_read 17 = .ok (.istore_n 3, 1) := dq_62 (dq_suf 1 dt09cX10_read_1 rfl rfl)
theorem dX10_read_18 : decode cX10_read 18 = .ok (.aload_n 0, 1) := dq_42 (dq_suf 2 dt09cX10_read_1 rfl rfl)
theorem dX10_read_19 : decode cX10_read 19 = .ok (.getfield 10, 3) := dq_180 (dq_suf 3 dt09cX10_read_1 rfl rfl) rfl
theorem dX10_read_22 : decode cX10_read 22 = .ok (.iconst 0, 1) := dq_3 (dq_suf 6 dt09cX10_read_1 rfl rfl)
theorem dX10_read_23 : decode cX10_read 23 = .ok (.invokevirtual 104, 3) := dq_182 (dq_suf 7 dt09cX10_read_1 rfl rfl) rfl
theorem dX10_read_26 : decode cX10_read 26 = .ok (.pop, 1) := dq_87 (dq_suf 10 dt09cX10_read_1 rfl rfl)
theorem dX10_read_27 : decode cX10_read 27 = .ok (.iload_n 3, 1) := dq_29 (dq_suf 11 dt09cX10_read_1 rfl rfl)
theorem dX10_read_28 : decode cX10_read 28 = .ok (.iconst (-1), 1) := dq_2 (dq_suf 12 dt09cX10_read_1 rfl rfl)
theorem dX10_read_29 : decode cX10_read 29 = .ok (.if_icmp .ne 6, 3) := dq_160 (dq_suf 13 dt09cX10_read_1 rfl rfl) (by decide +kernel)
theorem dX10_read_32 : decode cX10_read 32 = .ok (.bipush (-2), 2) := dq_16 (dq_suf 0 dt09cX10_read_2 rfl rfl) (by decide +kernel)
theorem dX10_read_34 : decode cX10_read 34 = .ok (.ireturn, 1) := dq_172 (dq_suf 2 dt09cX10_read_2 rfl rfl)
theorem dX10_read_35 : decode cX10_read 35 = .ok (.aload_n 0, 1) := dq_42 (dq_suf 3 dt09cX10_read_2 rfl rfl)
theorem dX10_read_36 : decode cX10_read 36 = .ok (.iload_n 1, 1) := dq_27 (dq_suf 4 dt09cX10_read_2 rfl rfl)
theorem dX10_read_37 : decode cX10_read 37 = .ok (.iload_n 3, 1) := dq_29 (dq_suf 5 dt09cX10_read_2 rfl rfl)
theorem dX10_read_38 : decode cX10_read 38 = .ok (.invokevirtual 127, 3) := dq_182 (dq_suf 6 dt09cX10_read_2 rfl rfl) rfl
theorem dX10_read_41 : decode cX10_read 41 = .ok (.ifCond .ne 15, 3) := dq_154 (dq_suf 9 dt09cX10_read_2 rfl rfl) (by decide +kernel)
theorem dX10_read_44 : decode cX10_read 44 = .ok (.aload_n 0, 1) := dq_42 (dq_suf 12 dt09cX10_read_2 rfl rfl)
theorem dX10_read_45 : decode cX10_read 45 = .ok (.getfield 40, 3) := dq_180 (dq_suf 13 dt09cX10_read_2 rfl rfl) rfl
theorem dX10_read_48 : decode cX10_read 48 = .ok (.iconst 4, 1) := dq_7 (dq_suf 0 dt09cX10_read_3 rfl rfl)
theorem dX10_read_49 : decode cX10_read 49 = .ok (.iconst (-1), 1) := dq_2 (dq_suf 1 dt09cX10_read_3 rfl rfl)
theorem dX10_read_50 : decode cX10_read 50 = .ok (.invokevirtual 130, 3) := dq_182 (dq_suf 2 dt09cX10_read_3 rfl rfl) rfl
theorem dX10_read_53 : decode cX10_read 53 = .ok (.bipush (-2), 2) := dq_16 (dq_suf 5 dt09cX10_read_3 rfl rfl) (by decide +kernel)
theorem dX10_read_55 : decode cX10_read 55 = .ok (.ireturn, 1) := dq_172 (dq_suf 7 dt09cX10_read_3 rfl rfl)
theorem dX10_read_56 : decode cX10_read 56 = .ok (.aload_n 0, 1) := dq_42 (dq_suf 8 dt09cX10_read_3 rfl rfl)
theorem dX10_read_57 : decode cX10_read 57 = .ok (.getfield 90, 3) := dq_180 (dq_suf 9 dt09cX10_read_3 rfl rfl) rfl
theorem dX10_read_60 : decode cX10_read 60 = .ok (.iload_n 1, 1) := dq_27 (dq_suf 12 dt09cX10_read_3 rfl rfl)
theorem dX10_read_61 : decode cX10_read 61 = .ok (.iaload, 1) := dq_46 (dq_suf 13 dt09cX10_read_3 rfl rfl)
theorem dX10_read_62 : decode cX10_read 62 = .ok (.ireturn, 1) := dq_172 (dq_suf 14 dt09cX10_read_3 rfl rfl)
noncomputable def ds09cX10_fault_1 : List UInt8 := 13 :: 42 :: 180 :: 0 :: 40 :: 182 :: 0 :: 137 :: 167 :: 0 :: 4 :: 2 :: 172 :: []
noncomputable def ds09cX10_fault_0 : List UInt8 := 27 :: 154 :: 0 :: 11 :: 42 :: 180 :: 0 :: 40 :: 182 :: 0 :: 134 :: 172 :: 27 :: 4 :: 160 :: 0 :: ds09cX10_fault_1
theorem dt09cX10_fault_0 : cX10_fault.data.toList.drop 0 = ds09cX10_fault_0 := by decide +kernel
theorem dt09cX10_fault_1 : cX10_fault.data.toList.drop 16 = ds09cX10_fault_1 := dq_suf 16 dt09cX10_fault_0 rfl rfl
theorem dX10_fault_0 : decode cX10_fault 0 = .ok (.iload_n 1, 1) := dq_27 (dq_suf 0 dt09cX10_fault_0 rfl rfl)
theorem dX10_fault_1 : decode cX10_fault 1 = .ok (.ifCond .ne 11, 3) := dq_154 (dq_suf 1 dt09cX10_fault_0 rfl rfl) (by decide +kernel)
theorem dX10_fault_4 : decode cX10_fault 4 = .ok (.aload_n 0, 1) := dq_42 (dq_suf 4 dt09cX10_fault_0 rfl rfl)
theorem dX10_fault_5 : decode cX10_fault 5 = .ok (.getfield 40, 3) := dq_180 (dq_suf 5 dt09cX10_fault_0 rfl rfl) rfl
theorem dX10_fault_8 : decode cX10_fault 8 = .ok (.invokevirtual 134, 3) := dq_182 (dq_suf 8 dt09cX10_fault_0 rfl rfl) rfl
theorem dX10_fault_11 : decode cX10_fault 11 = .ok (.ireturn, 1) := dq_172 (dq_suf 11 dt09cX10_fault_0 rfl rfl)
theorem dX10_fault_12 : decode cX10_fault 12 = .ok (.iload_n 1, 1) := dq_27 (dq_suf 12 dt09cX10_fault_0 rfl rfl)
theorem dX10_fault_13 : decode cX10_fault 13 = .ok (.iconst 1, 1) := dq_4 (dq_suf 13 dt09cX10_fault_0 rfl rfl)
theorem dX10_fault_14 : decode cX10_fault 14 = .ok (.if_icmp .ne 13, 3) := dq_160 (dq_suf 14 dt09cX10_fault_0 rfl rfl) (by decide +kernel)
theorem dX10_fault_17 : decode cX10_fault 17 = .ok (.aload_n 0, 1) := dq_42 (dq_suf 1 dt09cX10_fault_1 rfl rfl)
theorem dX10_fault_18 : decode cX10_fault 18 = .ok (.getfield 40, 3) := dq_180 (dq_suf 2 dt09cX10_fault_1 rfl rfl) rfl
theorem dX10_fault_21 : decode cX10_fault 21 = .ok (.invokevirtual 137, 3) := dq_182 (dq_suf 5 dt09cX10_fault_1 rfl rfl) rfl
theorem dX10_fault_24 : decode cX10_fault 24 = .ok (.goto 4, 3) := dq_167 (dq_suf 8 dt09cX10_fault_1 rfl rfl) (by decide +kernel)
theorem dX10_fault_27 : decode cX10_fault 27 = .ok (.iconst (-1), 1) := dq_2 (dq_suf 11 dt09cX10_fault_1 rfl rfl)
theorem dX10_fault_28 : decode cX10_fault 28 = .ok (.ireturn, 1) := dq_172 (dq_suf 12 dt09cX10_fault_1 rfl rfl)
noncomputable def ds09cX10_set_2 : List UInt8 := 42 :: 180 :: 0 :: 22 :: 28 :: 182 :: 0 :: 143 :: 79 :: 42 :: 180 :: 0 :: 94 :: 27 :: 46 :: 172 :: []
noncomputable def ds09cX10_set_1 : List UInt8 := 0 :: 5 :: 2 :: 172 :: 42 :: 180 :: 0 :: 90 :: 27 :: 28 :: 79 :: 42 :: 180 :: 0 :: 94 :: 27 :: ds09cX10_set_2
noncomputable def ds09cX10_set_0 : List UInt8 := 27 :: 184 :: 0 :: 120 :: 153 :: 0 :: 14 :: 42 :: 180 :: 0 :: 22 :: 28 :: 182 :: 0 :: 140 :: 154 :: ds09cX10_set_1
theorem dt09cX10_set_0 : cX10_set.data.toList.drop 0 = ds09cX10_set_0 := by decide +kernel
theorem dt09cX10_set_1 : cX10_set.data.toList.drop 16 = ds09cX10_set_1 := dq_suf 16 dt09cX10_set_0 rfl rfl
theorem dt09cX10_set_2 : cX10_set.data.toList.drop 32 = ds09cX10_set_2 := dq_suf 16 dt09cX10_set_1 rfl rfl
theorem dX10_set_0 : decode cX10_set 0 = .ok (.iload_n 1, 1) := dq_27 (dq_suf 0 dt09cX10_set_0 rfl rfl)
theorem dX10_set_1 : decode cX10_set 1 = .ok (.invokestatic 120, 3) := dq_184 (dq_suf 1 dt09cX10_set_0 rfl rfl) rfl
theorem dX10_set_4 : decode cX10_set 4 = .ok (.ifCond .eq 14, 3) := dq_153 (dq_suf 4 dt09cX10_set_0 rfl rfl) (by decide +kernel)
theorem dX10_set_7 : decode cX10_set 7 = .ok (.aload_n 0, 1) := dq_42 (dq_suf 7 dt09cX10_set_0 rfl rfl)
theorem dX10_set_8 : decode cX10_set 8 = .ok (.getfield 22, 3) := dq_180 (dq_suf 8 dt09cX10_set_0 rfl rfl) rfl
theorem dX10_set_11 : decode cX10_set 11 = .ok (.iload_n 2, 1) := dq_28 (dq_suf 11 dt09cX10_set_0 rfl rfl)
theorem dX10_set_12 : decode cX10_set 12 = .ok (.invokevirtual 140, 3) := dq_182 (dq_suf 12 dt09cX10_set_0 rfl rfl) rfl
theorem dX10_set_15 : decode cX10_set 15 = .ok (.ifCond .ne 5, 3) := dq_154 (dq_suf 15 dt09cX10_set_0 rfl rfl) (by decide +kernel)
theorem dX10_set_18 : decode cX10_set 18 = .ok (.iconst (-1), 1) := dq_2 (dq_suf 2 dt09cX10_set_1 rfl rfl)
theorem dX10_set_19 : decode cX10_set 19 = .ok (.ireturn, 1) := dq_172 (dq_suf 3 dt09cX10_set_1 rfl rfl)
theorem dX10_set_20 : decode cX10_set 20 = .ok (.aload_n 0, 1) := dq_42 (dq_suf 4 dt09cX10_set_1 rfl rfl)
theorem dX10_set_21 : decode cX10_set 21 = .ok (.getfield 90, 3) := dq_180 (dq_suf 5 dt09cX10_set_1 rfl rfl) rfl
theorem dX10_set_24 : decode cX10_set 24 = .ok (.iload_n 1, 1) := dq_27 (dq_suf 8 dt09cX10_set_1 rfl rfl)
theorem dX10_set_25 : decode cX10_set 25 = .ok (.iload_n 2, 1) := dq_28 (dq_suf 9 dt09cX10_set_1 rfl rfl)
theorem dX10_set_26 : decode cX10_set 26 = .ok (.iastore, 1) := dq_79 (dq_suf 10 dt09cX10_set_1 rfl rfl)
theorem dX10_set_27 : decode cX10_set 27 = .ok (.aload_n 0, 1) := dq_42 (dq_suf 11 dt09cX10_set_1 rfl rfl)
theorem dX10_set_28 : decode cX10_set 28 = .ok (.getfield 94, 3) := dq_180 (dq_suf 12 dt09cX10_set_1 rfl rfl) rfl
theorem dX10_set_31 : decode cX10_set 31 = .ok (.iload_n 1, 1) := dq_27 (dq_suf 15 dt09cX10_set_1 rfl rfl)
theorem dX10_set_32 : decode cX10_set 32 = .ok (.aload_n 0, 1) := dq_42 (dq_suf 0 dt09cX10_set_2 rfl rfl)
theorem dX10_set_33 : decode cX10_set 33 = .ok (.getfield 22, 3) := dq_180 (dq_suf 1 dt09cX10_set_2 rfl rfl) rfl
theorem dX10_set_36 : decode cX10_set 36 = .ok (.iload_n 2, 1) := dq_28 (dq_suf 4 dt09cX10_set_2 rfl rfl)
theorem dX10_set_37 : decode cX10_set 37 = .ok (.invokevirtual 143, 3) := dq_182 (dq_suf 5 dt09cX10_set_2 rfl rfl) rfl
theorem dX10_set_40 : decode cX10_set 40 = .ok (.iastore, 1) := dq_79 (dq_suf 8 dt09cX10_set_2 rfl rfl)
theorem dX10_set_41 : decode cX10_set 41 = .ok (.aload_n 0, 1) := dq_42 (dq_suf 9 dt09cX10_set_2 rfl rfl)
theorem dX10_set_42 : decode cX10_set 42 = .ok (.getfield 94, 3) := dq_180 (dq_suf 10 dt09cX10_set_2 rfl rfl) rfl
theorem dX10_set_45 : decode cX10_set 45 = .ok (.iload_n 1, 1) := dq_27 (dq_suf 13 dt09cX10_set_2 rfl rfl)
theorem dX10_set_46 : decode cX10_set 46 = .ok (.iaload, 1) := dq_46 (dq_suf 14 dt09cX10_set_2 rfl rfl)
theorem dX10_set_47 : decode cX10_set 47 = .ok (.ireturn, 1) := dq_172 (dq_suf 15 dt09cX10_set_2 rfl rfl)
noncomputable def ds09cX10_slot_2 : List UInt8 := 0 :: 4 :: 2 :: 172 :: []
noncomputable def ds09cX10_slot_1 : List UInt8 := 90 :: 27 :: 46 :: 172 :: 28 :: 4 :: 160 :: 0 :: 12 :: 42 :: 180 :: 0 :: 94 :: 27 :: 46 :: 167 :: ds09cX10_slot_2
noncomputable def ds09cX10_slot_0 : List UInt8 := 27 :: 184 :: 0 :: 120 :: 154 :: 0 :: 5 :: 2 :: 172 :: 28 :: 154 :: 0 :: 10 :: 42 :: 180 :: 0 :: ds09cX10_slot_1
theorem dt09cX10_slot_0 : cX10_slot.data.toList.drop 0 = ds09cX10_slot_0 := by decide +kernel
theorem dt09cX10_slot_1 : cX10_slot.data.toList.drop 16 = ds09cX10_slot_1 := dq_suf 16 dt09cX10_slot_0 rfl rfl
theorem dt09cX10_slot_2 : cX10_slot.data.toList.drop 32 = ds09cX10_slot_2 := dq_suf 16 dt09cX10_slot_1 rfl rfl
theorem dX10_slot_0 : decode cX10_slot 0 = .ok (.iload_n 1, 1) := dq_27 (dq_suf 0 dt09cX10_slot_0 rfl rfl)
theorem dX10_slot_1 : decode cX10_slot 1 = .ok (.invokestatic 120, 3) := dq_184 (dq_suf 1 dt09cX10_slot_0 rfl rfl) rfl
theorem dX10_slot_4 : decode cX10_slot 4 = .ok (.ifCond .ne 5, 3) := dq_154 (dq_suf 4 dt09cX10_slot_0 rfl rfl) (by decide +kernel)
theorem dX10_slot_7 : decode cX10_slot 7 = .ok (.iconst (-1), 1) := dq_2 (dq_suf 7 dt09cX10_slot_0 rfl rfl)
theorem dX10_slot_8 : decode cX10_slot 8 = .ok (.ireturn, 1) := dq_172 (dq_suf 8 dt09cX10_slot_0 rfl rfl)
theorem dX10_slot_9 : decode cX10_slot 9 = .ok (.iload_n 2, 1) := dq_28 (dq_suf 9 dt09cX10_slot_0 rfl rfl)
theorem dX10_slot_10 : decode cX10_slot 10 = .ok (.ifCond .ne 10, 3) := dq_154 (dq_suf 10 dt09cX10_slot_0 rfl rfl) (by decide +kernel)
theorem dX10_slot_13 : decode cX10_slot 13 = .ok (.aload_n 0, 1) := dq_42 (dq_suf 13 dt09cX10_slot_0 rfl rfl)
theorem dX10_slot_14 : decode cX10_slot 14 = .ok (.getfield 90, 3) := dq_180 (dq_suf 14 dt09cX10_slot_0 rfl rfl) rfl
theorem dX10_slot_17 : decode cX10_slot 17 = .ok (.iload_n 1, 1) := dq_27 (dq_suf 1 dt09cX10_slot_1 rfl rfl)
theorem dX10_slot_18 : decode cX10_slot 18 = .ok (.iaload, 1) := dq_46 (dq_suf 2 dt09cX10_slot_1 rfl rfl)
theorem dX10_slot_19 : decode cX10_slot 19 = .ok (.ireturn, 1) := dq_172 (dq_suf 3 dt09cX10_slot_1 rfl rfl)
theorem dX10_slot_20 : decode cX10_slot 20 = .ok (.iload_n 2, 1) := dq_28 (dq_suf 4 dt09cX10_slot_1 rfl rfl)
theorem dX10_slot_21 : decode cX10_slot 21 = .ok (.iconst 1, 1) := dq_4 (dq_suf 5 dt09cX10_slot_1 rfl rfl)
theorem dX10_slot_22 : decode cX10_slot 22 = .ok (.if_icmp .ne 12, 3) := dq_160 (dq_suf 6 dt09cX10_slot_1 rfl rfl) (by decide +kernel)
theorem dX10_slot_25 : decode cX10_slot 25 = .ok (.aload_n 0, 1) := dq_42 (dq_suf 9 dt09cX10_slot_1 rfl rfl)
theorem dX10_slot_26 : decode cX10_slot 26 = .ok (.getfield 94, 3) := dq_180 (dq_suf 10 dt09cX10_slot_1 rfl rfl) rfl
theorem dX10_slot_29 : decode cX10_slot 29 = .ok (.iload_n 1, 1) := dq_27 (dq_suf 13 dt09cX10_slot_1 rfl rfl)
theorem dX10_slot_30 : decode cX10_slot 30 = .ok (.iaload, 1) := dq_46 (dq_suf 14 dt09cX10_slot_1 rfl rfl)
theorem dX10_slot_31 : decode cX10_slot 31 = .ok (.goto 4, 3) := dq_167 (dq_suf 15 dt09cX10_slot_1 rfl rfl) (by decide +kernel)
theorem dX10_slot_34 : decode cX10_slot 34 = .ok (.iconst (-1), 1) := dq_2 (dq_suf 2 dt09cX10_slot_2 rfl rfl)
theorem dX10_slot_35 : decode cX10_slot 35 = .ok (.ireturn, 1) := dq_172 (dq_suf 3 dt09cX10_slot_2 rfl rfl)
noncomputable def ds09cX10_formulas_0 : List UInt8 := 42 :: 180 :: 0 :: 22 :: 182 :: 0 :: 146 :: 172 :: []
theorem dt09cX10_formulas_0 : cX10_formulas.data.toList.drop 0 = ds09cX10_formulas_0 := by decide +kernel
theorem dX10_formulas_0 : decode cX10_formulas 0 = .ok (.aload_n 0, 1) := dq_42 (dq_suf 0 dt09cX10_formulas_0 rfl rfl)
theorem dX10_formulas_1 : decode cX10_formulas 1 = .ok (.getfield 22, 3) := dq_180 (dq_suf 1 dt09cX10_formulas_0 rfl rfl) rfl
theorem dX10_formulas_4 : decode cX10_formulas 4 = .ok (.invokevirtual 146, 3) := dq_182 (dq_suf 4 dt09cX10_formulas_0 rfl rfl) rfl
theorem dX10_formulas_7 : decode cX10_formulas 7 = .ok (.ireturn, 1) := dq_172 (dq_suf 7 dt09cX10_formulas_0 rfl rfl)
noncomputable def ds09cX10_formula_2 : List UInt8 := 42 :: 180 :: 0 :: 22 :: 27 :: 182 :: 0 :: 153 :: 167 :: 0 :: 4 :: 2 :: 172 :: []
noncomputable def ds09cX10_formula_1 : List UInt8 := 0 :: 12 :: 42 :: 180 :: 0 :: 22 :: 27 :: 182 :: 0 :: 150 :: 172 :: 28 :: 5 :: 160 :: 0 :: 14 :: ds09cX10_formula_2
noncomputable def ds09cX10_formula_0 : List UInt8 := 28 :: 154 :: 0 :: 12 :: 42 :: 180 :: 0 :: 22 :: 27 :: 182 :: 0 :: 147 :: 172 :: 28 :: 4 :: 160 :: ds09cX10_formula_1
theorem dt09cX10_formula_0 : cX10_formula.data.toList.drop 0 = ds09cX10_formula_0 := by decide +kernel
theorem dt09cX10_formula_1 : cX10_formula.data.toList.drop 16 = ds09cX10_formula_1 := dq_suf 16 dt09cX10_formula_0 rfl rfl
theorem dt09cX10_formula_2 : cX10_formula.data.toList.drop 32 = ds09cX10_formula_2 := dq_suf 16 dt09cX10_formula_1 rfl rfl
theorem dX10_formula_0 : decode cX10_formula 0 = .ok (.iload_n 2, 1) := dq_28 (dq_suf 0 dt09cX10_formula_0 rfl rfl)
theorem dX10_formula_1 : decode cX10_formula 1 = .ok (.ifCond .ne 12, 3) := dq_154 (dq_suf 1 dt09cX10_formula_0 rfl rfl) (by decide +kernel)
theorem dX10_formula_4 : decode cX10_formula 4 = .ok (.aload_n 0, 1) := dq_42 (dq_suf 4 dt09cX10_formula_0 rfl rfl)
theorem dX10_formula_5 : decode cX10_formula 5 = .ok (.getfield 22, 3) := dq_180 (dq_suf 5 dt09cX10_formula_0 rfl rfl) rfl
theorem dX10_formula_8 : decode cX10_formula 8 = .ok (.iload_n 1, 1) := dq_27 (dq_suf 8 dt09cX10_formula_0 rfl rfl)
theorem dX10_formula_9 : decode cX10_formula 9 = .ok (.invokevirtual 147, 3) := dq_182 (dq_suf 9 dt09cX10_formula_0 rfl rfl) rfl
theorem dX10_formula_12 : decode cX10_formula 12 = .ok (.ireturn, 1) := dq_172 (dq_suf 12 dt09cX10_formula_0 rfl rfl)
theorem dX10_formula_13 : decode cX10_formula 13 = .ok (.iload_n 2, 1) := dq_28 (dq_suf 13 dt09cX10_formula_0 rfl rfl)
theorem dX10_formula_14 : decode cX10_formula 14 = .ok (.iconst 1, 1) := dq_4 (dq_suf 14 dt09cX10_formula_0 rfl rfl)
theorem dX10_formula_15 : decode cX10_formula 15 = .ok (.if_icmp .ne 12, 3) := dq_160 (dq_suf 15 dt09cX10_formula_0 rfl rfl) (by decide +kernel)
theorem dX10_formula_18 : decode cX10_formula 18 = .ok (.aload_n 0, 1) := dq_42 (dq_suf 2 dt09cX10_formula_1 rfl rfl)
theorem dX10_formula_19 : decode cX10_formula 19 = .ok (.getfield 22, 3) := dq_180 (dq_suf 3 dt09cX10_formula_1 rfl rfl) rfl
theorem dX10_formula_22 : decode cX10_formula 22 = .ok (.iload_n 1, 1) := dq_27 (dq_suf 6 dt09cX10_formula_1 rfl rfl)
theorem dX10_formula_23 : decode cX10_formula 23 = .ok (.invokevirtual 150, 3) := dq_182 (dq_suf 7 dt09cX10_formula_1 rfl rfl) rfl
theorem dX10_formula_26 : decode cX10_formula 26 = .ok (.ireturn, 1) := dq_172 (dq_suf 10 dt09cX10_formula_1 rfl rfl)
theorem dX10_formula_27 : decode cX10_formula 27 = .ok (.iload_n 2, 1) := dq_28 (dq_suf 11 dt09cX10_formula_1 rfl rfl)
theorem dX10_formula_28 : decode cX10_formula 28 = .ok (.iconst 2, 1) := dq_5 (dq_suf 12 dt09cX10_formula_1 rfl rfl)
theorem dX10_formula_29 : decode cX10_formula 29 = .ok (.if_icmp .ne 14, 3) := dq_160 (dq_suf 13 dt09cX10_formula_1 rfl rfl) (by decide +kernel)
theorem dX10_formula_32 : decode cX10_formula 32 = .ok (.aload_n 0, 1) := dq_42 (dq_suf 0 dt09cX10_formula_2 rfl rfl)
theorem dX10_formula_33 : decode cX10_formula 33 = .ok (.getfield 22, 3) := dq_180 (dq_suf 1 dt09cX10_formula_2 rfl rfl) rfl
theorem dX10_formula_36 : decode cX10_formula 36 = .ok (.iload_n 1, 1) := dq_27 (dq_suf 4 dt09cX10_formula_2 rfl rfl)
theorem dX10_formula_37 : decode cX10_formula 37 = .ok (.invokevirtual 153, 3) := dq_182 (dq_suf 5 dt09cX10_formula_2 rfl rfl) rfl
theorem dX10_formula_40 : decode cX10_formula 40 = .ok (.goto 4, 3) := dq_167 (dq_suf 8 dt09cX10_formula_2 rfl rfl) (by decide +kernel)
theorem dX10_formula_43 : decode cX10_formula 43 = .ok (.iconst (-1), 1) := dq_2 (dq_suf 11 dt09cX10_formula_2 rfl rfl)
theorem dX10_formula_44 : decode cX10_formula 44 = .ok (.ireturn, 1) := dq_172 (dq_suf 12 dt09cX10_formula_2 rfl rfl)
noncomputable def ds09cX10_tell_1 : List UInt8 := 49 :: 27 :: 182 :: 0 :: 156 :: 42 :: 180 :: 0 :: 16 :: 182 :: 0 :: 97 :: 172 :: []
noncomputable def ds09cX10_tell_0 : List UInt8 := 42 :: 180 :: 0 :: 22 :: 27 :: 182 :: 0 :: 140 :: 154 :: 0 :: 5 :: 2 :: 172 :: 42 :: 180 :: 0 :: ds09cX10_tell_1
theorem dt09cX10_tell_0 : cX10_tell.data.toList.drop 0 = ds09cX10_tell_0 := by decide +kernel
theorem dt09cX10_tell_1 : cX10_tell.data.toList.drop 16 = ds09cX10_tell_1 := dq_suf 16 dt09cX10_tell_0 rfl rfl
theorem dX10_tell_0 : decode cX10_tell 0 = .ok (.aload_n 0, 1) := dq_42 (dq_suf 0 dt09cX10_tell_0 rfl rfl)
theorem dX10_tell_1 : decode cX10_tell 1 = .ok (.getfield 22, 3) := dq_180 (dq_suf 1 dt09cX10_tell_0 rfl rfl) rfl
theorem dX10_tell_4 : decode cX10_tell 4 = .ok (.iload_n 1, 1) := dq_27 (dq_suf 4 dt09cX10_tell_0 rfl rfl)
theorem dX10_tell_5 : decode cX10_tell 5 = .ok (.invokevirtual 140, 3) := dq_182 (dq_suf 5 dt09cX10_tell_0 rfl rfl) rfl
theorem dX10_tell_8 : decode cX10_tell 8 = .ok (.ifCond .ne 5, 3) := dq_154 (dq_suf 8 dt09cX10_tell_0 rfl rfl) (by decide +kernel)
theorem dX10_tell_11 : decode cX10_tell 11 = .ok (.iconst (-1), 1) := dq_2 (dq_suf 11 dt09cX10_tell_0 rfl rfl)
theorem dX10_tell_12 : decode cX10_tell 12 = .ok (.ireturn, 1) := dq_172 (dq_suf 12 dt09cX10_tell_0 rfl rfl)
theorem dX10_tell_13 : decode cX10_tell 13 = .ok (.aload_n 0, 1) := dq_42 (dq_suf 13 dt09cX10_tell_0 rfl rfl)
theorem dX10_tell_14 : decode cX10_tell 14 = .ok (.getfield 49, 3) := dq_180 (dq_suf 14 dt09cX10_tell_0 rfl rfl) rfl
theorem dX10_tell_17 : decode cX10_tell 17 = .ok (.iload_n 1, 1) := dq_27 (dq_suf 1 dt09cX10_tell_1 rfl rfl)
theorem dX10_tell_18 : decode cX10_tell 18 = .ok (.invokevirtual 156, 3) := dq_182 (dq_suf 2 dt09cX10_tell_1 rfl rfl) rfl
theorem dX10_tell_21 : decode cX10_tell 21 = .ok (.aload_n 0, 1) := dq_42 (dq_suf 5 dt09cX10_tell_1 rfl rfl)
theorem dX10_tell_22 : decode cX10_tell 22 = .ok (.getfield 16, 3) := dq_180 (dq_suf 6 dt09cX10_tell_1 rfl rfl) rfl
theorem dX10_tell_25 : decode cX10_tell 25 = .ok (.invokevirtual 97, 3) := dq_182 (dq_suf 9 dt09cX10_tell_1 rfl rfl) rfl
theorem dX10_tell_28 : decode cX10_tell 28 = .ok (.ireturn, 1) := dq_172 (dq_suf 12 dt09cX10_tell_1 rfl rfl)
noncomputable def ds09cX10_prove_5 : List UInt8 := 65 :: 42 :: 180 :: 0 :: 79 :: 182 :: 0 :: 180 :: 29 :: 172 :: []
noncomputable def ds09cX10_prove_4 : List UInt8 := 26 :: 29 :: 154 :: 0 :: 22 :: 42 :: 180 :: 0 :: 86 :: 3 :: 182 :: 0 :: 177 :: 42 :: 180 :: 0 :: ds09cX10_prove_5
noncomputable def ds09cX10_prove_3 : List UInt8 := 65 :: 182 :: 0 :: 167 :: 182 :: 0 :: 171 :: 42 :: 180 :: 0 :: 79 :: 182 :: 0 :: 174 :: 167 :: 0 :: ds09cX10_prove_4
noncomputable def ds09cX10_prove_2 : List UInt8 := 182 :: 0 :: 163 :: 62 :: 29 :: 4 :: 160 :: 0 :: 27 :: 42 :: 180 :: 0 :: 86 :: 42 :: 180 :: 0 :: ds09cX10_prove_3
noncomputable def ds09cX10_prove_1 : List UInt8 := 164 :: 0 :: 5 :: 2 :: 172 :: 42 :: 180 :: 0 :: 65 :: 42 :: 180 :: 0 :: 94 :: 27 :: 46 :: 28 :: ds09cX10_prove_2
noncomputable def ds09cX10_prove_0 : List UInt8 := 42 :: 27 :: 182 :: 0 :: 159 :: 153 :: 0 :: 14 :: 28 :: 4 :: 161 :: 0 :: 9 :: 28 :: 18 :: 162 :: ds09cX10_prove_1
theorem dt09cX10_prove_0 : cX10_prove.data.toList.drop 0 = ds09cX10_prove_0 := by decide +kernel
theorem dt09cX10_prove_1 : cX10_prove.data.toList.drop 16 = ds09cX10_prove_1 := dq_suf 16 dt09cX10_prove_0 rfl rfl
theorem dt09cX10_prove_2 : cX10_prove.data.toList.drop 32 = ds09cX10_prove_2 := dq_suf 16 dt09cX10_prove_1 rfl rfl
theorem dt09cX10_prove_3 : cX10_prove.data.toList.drop 48 = ds09cX10_prove_3 := dq_suf 16 dt09cX10_prove_2 rfl rfl
theorem dt09cX10_prove_4 : cX10_prove.data.toList.drop 64 = ds09cX10_prove_4 := dq_suf 16 dt09cX10_prove_3 rfl rfl
theorem dt09cX10_prove_5 : cX10_prove.data.toList.drop 80 = ds09cX10_prove_5 := dq_suf 16 dt09cX10_prove_4 rfl rfl
theorem dX10_prove_0 : decode cX10_prove 0 = .ok (.aload_n 0, 1) := dq_42 (dq_suf 0 dt09cX10_prove_0 rfl rfl)
theorem dX10_prove_1 : decode cX10_prove 1 = .ok (.iload_n 1, 1) := dq_27 (dq_suf 1 dt09cX10_prove_0 rfl rfl)
theorem dX10_prove_2 : decode cX10_prove 2 = .ok (.invokevirtual 159, 3) := dq_182 (dq_suf 2 dt09cX10_prove_0 rfl rfl) rfl
theorem dX10_prove_5 : decode cX10_prove 5 = .ok (.ifCond .eq 14, 3) := dq_153 (dq_suf 5 dt09cX10_prove_0 rfl rfl) (by decide +kernel)
theorem dX10_prove_8 : decode cX10_prove 8 = .ok (.iload_n 2, 1) := dq_28 (dq_suf 8 dt09cX10_prove_0 rfl rfl)
theorem dX10_prove_9 : decode cX10_prove 9 = .ok (.iconst 1, 1) := dq_4 (dq_suf 9 dt09cX10_prove_0 rfl rfl)
theorem dX10_prove_10 : decode cX10_prove 10 = .ok (.if_icmp .lt 9, 3) := dq_161 (dq_suf 10 dt09cX10_prove_0 rfl rfl) (by decide +kernel)
theorem dX10_prove_13 : decode cX10_prove 13 = .ok (.iload_n 2, 1) := dq_28 (dq_suf 13 dt09cX10_prove_0 rfl rfl)
theorem dX10_prove_14 : decode cX10_prove 14 = .ok (.ldc 162, 2) := dq_18 (dq_suf 14 dt09cX10_prove_0 rfl rfl) rfl
theorem dX10_prove_16 : decode cX10_prove 16 = .ok (.if_icmp .le 5, 3) := dq_164 (dq_suf 0 dt09cX10_prove_1 rfl rfl) (by decide +kernel)
theorem dX10_prove_19 : decode cX10_prove 19 = .ok (.iconst (-1), 1) := dq_2 (dq_suf 3 dt09cX10_prove_1 rfl rfl)
theorem dX10_prove_20 : decode cX10_prove 20 = .ok (.ireturn, 1) := dq_172 (dq_suf 4 dt09cX10_prove_1 rfl rfl)
theorem dX10_prove_21 : decode cX10_prove 21 = .ok (.aload_n 0, 1) := dq_42 (dq_suf 5 dt09cX10_prove_1 rfl rfl)
theorem dX10_prove_22 : decode cX10_prove 22 = .ok (.getfield 65, 3) := dq_180 (dq_suf 6 dt09cX10_prove_1 rfl rfl) rfl
theorem dX10_prove_25 : decode cX10_prove 25 = .ok (.aload_n 0, 1) := dq_42 (dq_suf 9 dt09cX10_prove_1 rfl rfl)
theorem dX10_prove_26 : decode cX10_prove 26 = .ok (.getfield 94, 3) := dq_180 (dq_suf 10 dt09cX10_prove_1 rfl rfl) rfl
theorem dX10_prove_29 : decode cX10_prove 29 = .ok (.iload_n 1, 1) := dq_27 (dq_suf 13 dt09cX10_prove_1 rfl rfl)
theorem dX10_prove_30 : decode cX10_prove 30 = .ok (.iaload, 1) := dq_46 (dq_suf 14 dt09cX10_prove_1 rfl rfl)
theorem dX10_prove_31 : decode cX10_prove 31 = .ok (.iload_n 2, 1) := dq_28 (dq_suf 15 dt09cX10_prove_1 rfl rfl)
theorem dX10_prove_32 : decode cX10_prove 32 = .ok (.invokevirtual 163, 3) := dq_182 (dq_suf 0 dt09cX10_prove_2 rfl rfl) rfl
theorem dX10_prove_35 : decode cX10_prove 35 = .ok (.istore_n 3, 1) := dq_62 (dq_suf 3 dt09cX10_prove_2 rfl rfl)
theorem dX10_prove_36 : decode cX10_prove 36 = .ok (.iload_n 3, 1) := dq_29 (dq_suf 4 dt09cX10_prove_2 rfl rfl)
theorem dX10_prove_37 : decode cX10_prove 37 = .ok (.iconst 1, 1) := dq_4 (dq_suf 5 dt09cX10_prove_2 rfl rfl)
theorem dX10_prove_38 : decode cX10_prove 38 = .ok (.if_icmp .ne 27, 3) := dq_160 (dq_suf 6 dt09cX10_prove_2 rfl rfl) (by decide +kernel)
theorem dX10_prove_41 : decode cX10_prove 41 = .ok (.aload_n 0, 1) := dq_42 (dq_suf 9 dt09cX10_prove_2 rfl rfl)
theorem dX10_prove_42 : decode cX10_prove 42 = .ok (.getfield 86, 3) := dq_180 (dq_suf 10 dt09cX10_prove_2 rfl rfl) rfl
theorem dX10_prove_45 : decode cX10_prove 45 = .ok (.aload_n 0, 1) := dq_42 (dq_suf 13 dt09cX10_prove_2 rfl rfl)
theorem dX10_prove_46 : decode cX10_prove 46 = .ok (.getfield 65, 3) := dq_180 (dq_suf 14 dt09cX10_prove_2 rfl rfl) rfl
theorem dX10_prove_49 : decode cX10_prove 49 = .ok (.invokevirtual 167, 3) := dq_182 (dq_suf 1 dt09cX10_prove_3 rfl rfl) rfl
theorem dX10_prove_52 : decode cX10_prove 52 = .ok (.invokevirtual 171, 3) := dq_182 (dq_suf 4 dt09cX10_prove_3 rfl rfl) rfl
theorem dX10_prove_55 : decode cX10_prove 55 = .ok (.aload_n 0, 1) := dq_42 (dq_suf 7 dt09cX10_prove_3 rfl rfl)
theorem dX10_prove_56 : decode cX10_prove 56 = .ok (.getfield 79, 3) := dq_180 (dq_suf 8 dt09cX10_prove_3 rfl rfl) rfl
theorem dX10_prove_59 : decode cX10_prove 59 = .ok (.invokevirtual 174, 3) := dq_182 (dq_suf 11 dt09cX10_prove_3 rfl rfl) rfl
theorem dX10_prove_62 : decode cX10_prove 62 = .ok (.goto 26, 3) := dq_167 (dq_suf 14 dt09cX10_prove_3 rfl rfl) (by decide +kernel)
theorem dX10_prove_65 : decode cX10_prove 65 = .ok (.iload_n 3, 1) := dq_29 (dq_suf 1 dt09cX10_prove_4 rfl rfl)
theorem dX10_prove_66 : decode cX10_prove 66 = .ok (.ifCond .ne 22, 3) := dq_154 (dq_suf 2 dt09cX10_prove_4 rfl rfl) (by decide +kernel)
theorem dX10_prove_69 : decode cX10_prove 69 = .ok (.aload_n 0, 1) := dq_42 (dq_suf 5 dt09cX10_prove_4 rfl rfl)
theorem dX10_prove_70 : decode cX10_prove 70 = .ok (.getfield 86, 3) := dq_180 (dq_suf 6 dt09cX10_prove_4 rfl rfl) rfl
theorem dX10_prove_73 : decode cX10_prove 73 = .ok (.iconst 0, 1) := dq_3 (dq_suf 9 dt09cX10_prove_4 rfl rfl)
theorem dX10_prove_74 : decode cX10_prove 74 = .ok (.invokevirtual 177, 3) := dq_182 (dq_suf 10 dt09cX10_prove_4 rfl rfl) rfl
theorem dX10_prove_77 : decode cX10_prove 77 = .ok (.aload_n 0, 1) := dq_42 (dq_suf 13 dt09cX10_prove_4 rfl rfl)
theorem dX10_prove_78 : decode cX10_prove 78 = .ok (.getfield 65, 3) := dq_180 (dq_suf 14 dt09cX10_prove_4 rfl rfl) rfl
theorem dX10_prove_81 : decode cX10_prove 81 = .ok (.aload_n 0, 1) := dq_42 (dq_suf 1 dt09cX10_prove_5 rfl rfl)
theorem dX10_prove_82 : decode cX10_prove 82 = .ok (.getfield 79, 3) := dq_180 (dq_suf 2 dt09cX10_prove_5 rfl rfl) rfl
theorem dX10_prove_85 : decode cX10_prove 85 = .ok (.invokevirtual 180, 3) := dq_182 (dq_suf 5 dt09cX10_prove_5 rfl rfl) rfl
theorem dX10_prove_88 : decode cX10_prove 88 = .ok (.iload_n 3, 1) := dq_29 (dq_suf 8 dt09cX10_prove_5 rfl rfl)
theorem dX10_prove_89 : decode cX10_prove 89 = .ok (.ireturn, 1) := dq_172 (dq_suf 9 dt09cX10_prove_5 rfl rfl)
noncomputable def ds09cX10_count_0 : List UInt8 := 42 :: 180 :: 0 :: 65 :: 27 :: 182 :: 0 :: 184 :: 172 :: []
theorem dt09cX10_count_0 : cX10_count.data.toList.drop 0 = ds09cX10_count_0 := by decide +kernel
theorem dX10_count_0 : decode cX10_count 0 = .ok (.aload_n 0, 1) := dq_42 (dq_suf 0 dt09cX10_count_0 rfl rfl)
theorem dX10_count_1 : decode cX10_count 1 = .ok (.getfield 65, 3) := dq_180 (dq_suf 1 dt09cX10_count_0 rfl rfl) rfl
theorem dX10_count_4 : decode cX10_count 4 = .ok (.iload_n 1, 1) := dq_27 (dq_suf 4 dt09cX10_count_0 rfl rfl)
theorem dX10_count_5 : decode cX10_count 5 = .ok (.invokevirtual 184, 3) := dq_182 (dq_suf 5 dt09cX10_count_0 rfl rfl) rfl
theorem dX10_count_8 : decode cX10_count 8 = .ok (.ireturn, 1) := dq_172 (dq_suf 8 dt09cX10_count_0 rfl rfl)
noncomputable def ds09cX10_proof_1 : List UInt8 := 42 :: 180 :: 0 :: 16 :: 182 :: 0 :: 188 :: 42 :: 180 :: 0 :: 16 :: 182 :: 0 :: 97 :: 172 :: []
noncomputable def ds09cX10_proof_0 : List UInt8 := 42 :: 180 :: 0 :: 86 :: 182 :: 0 :: 187 :: 154 :: 0 :: 5 :: 2 :: 172 :: 42 :: 180 :: 0 :: 86 :: ds09cX10_proof_1
theorem dt09cX10_proof_0 : cX10_proof.data.toList.drop 0 = ds09cX10_proof_0 := by decide +kernel
theorem dt09cX10_proof_1 : cX10_proof.data.toList.drop 16 = ds09cX10_proof_1 := dq_suf 16 dt09cX10_proof_0 rfl rfl
theorem dX10_proof_0 : decode cX10_proof 0 = .ok (.aload_n 0, 1) := dq_42 (dq_suf 0 dt09cX10_proof_0 rfl rfl)
theorem dX10_proof_1 : decode cX10_proof 1 = .ok (.getfield 86, 3) := dq_180 (dq_suf 1 dt09cX10_proof_0 rfl rfl) rfl
theorem dX10_proof_4 : decode cX10_proof 4 = .ok (.invokevirtual 187, 3) := dq_182 (dq_suf 4 dt09cX10_proof_0 rfl rfl) rfl
theorem dX10_proof_7 : decode cX10_proof 7 = .ok (.ifCond .ne 5, 3) := dq_154 (dq_suf 7 dt09cX10_proof_0 rfl rfl) (by decide +kernel)
theorem dX10_proof_10 : decode cX10_proof 10 = .ok (.iconst (-1), 1) := dq_2 (dq_suf 10 dt09cX10_proof_0 rfl rfl)
theorem dX10_proof_11 : decode cX10_proof 11 = .ok (.ireturn, 1) := dq_172 (dq_suf 11 dt09cX10_proof_0 rfl rfl)
theorem dX10_proof_12 : decode cX10_proof 12 = .ok (.aload_n 0, 1) := dq_42 (dq_suf 12 dt09cX10_proof_0 rfl rfl)
theorem dX10_proof_13 : decode cX10_proof 13 = .ok (.getfield 86, 3) := dq_180 (dq_suf 13 dt09cX10_proof_0 rfl rfl) rfl
theorem dX10_proof_16 : decode cX10_proof 16 = .ok (.aload_n 0, 1) := dq_42 (dq_suf 0 dt09cX10_proof_1 rfl rfl)
theorem dX10_proof_17 : decode cX10_proof 17 = .ok (.getfield 16, 3) := dq_180 (dq_suf 1 dt09cX10_proof_1 rfl rfl) rfl
theorem dX10_proof_20 : decode cX10_proof 20 = .ok (.invokevirtual 188, 3) := dq_182 (dq_suf 4 dt09cX10_proof_1 rfl rfl) rfl
theorem dX10_proof_23 : decode cX10_proof 23 = .ok (.aload_n 0, 1) := dq_42 (dq_suf 7 dt09cX10_proof_1 rfl rfl)
theorem dX10_proof_24 : decode cX10_proof 24 = .ok (.getfield 16, 3) := dq_180 (dq_suf 8 dt09cX10_proof_1 rfl rfl) rfl
theorem dX10_proof_27 : decode cX10_proof 27 = .ok (.invokevirtual 97, 3) := dq_182 (dq_suf 11 dt09cX10_proof_1 rfl rfl) rfl
theorem dX10_proof_30 : decode cX10_proof 30 = .ok (.ireturn, 1) := dq_172 (dq_suf 14 dt09cX10_proof_1 rfl rfl)
noncomputable def ds09cX10_verify_2 : List UInt8 := 87 :: 28 :: 153 :: 0 :: 7 :: 4 :: 167 :: 0 :: 4 :: 3 :: 172 :: []
noncomputable def ds09cX10_verify_1 : List UInt8 := 0 :: 94 :: 27 :: 46 :: 182 :: 0 :: 191 :: 61 :: 42 :: 180 :: 0 :: 10 :: 3 :: 182 :: 0 :: 104 :: ds09cX10_verify_2
noncomputable def ds09cX10_verify_0 : List UInt8 := 42 :: 27 :: 182 :: 0 :: 159 :: 154 :: 0 :: 5 :: 2 :: 172 :: 42 :: 180 :: 0 :: 72 :: 42 :: 180 :: ds09cX10_verify_1
theorem dt09cX10_verify_0 : cX10_verify.data.toList.drop 0 = ds09cX10_verify_0 := by decide +kernel
theorem dt09cX10_verify_1 : cX10_verify.data.toList.drop 16 = ds09cX10_verify_1 := dq_suf 16 dt09cX10_verify_0 rfl rfl
theorem dt09cX10_verify_2 : cX10_verify.data.toList.drop 32 = ds09cX10_verify_2 := dq_suf 16 dt09cX10_verify_1 rfl rfl
theorem dX10_verify_0 : decode cX10_verify 0 = .ok (.aload_n 0, 1) := dq_42 (dq_suf 0 dt09cX10_verify_0 rfl rfl)
theorem dX10_verify_1 : decode cX10_verify 1 = .ok (.iload_n 1, 1) := dq_27 (dq_suf 1 dt09cX10_verify_0 rfl rfl)
theorem dX10_verify_2 : decode cX10_verify 2 = .ok (.invokevirtual 159, 3) := dq_182 (dq_suf 2 dt09cX10_verify_0 rfl rfl) rfl
theorem dX10_verify_5 : decode cX10_verify 5 = .ok (.ifCond .ne 5, 3) := dq_154 (dq_suf 5 dt09cX10_verify_0 rfl rfl) (by decide +kernel)
theorem dX10_verify_8 : decode cX10_verify 8 = .ok (.iconst (-1), 1) := dq_2 (dq_suf 8 dt09cX10_verify_0 rfl rfl)
theorem dX10_verify_9 : decode cX10_verify 9 = .ok (.ireturn, 1) := dq_172 (dq_suf 9 dt09cX10_verify_0 rfl rfl)
theorem dX10_verify_10 : decode cX10_verify 10 = .ok (.aload_n 0, 1) := dq_42 (dq_suf 10 dt09cX10_verify_0 rfl rfl)
theorem dX10_verify_11 : decode cX10_verify 11 = .ok (.getfield 72, 3) := dq_180 (dq_suf 11 dt09cX10_verify_0 rfl rfl) rfl
theorem dX10_verify_14 : decode cX10_verify 14 = .ok (.aload_n 0, 1) := dq_42 (dq_suf 14 dt09cX10_verify_0 rfl rfl)
theorem dX10_verify_15 : decode cX10_verify 15 = .ok (.getfield 94, 3) := dq_180 (dq_suf 15 dt09cX10_verify_0 rfl rfl) rfl
theorem dX10_verify_18 : decode cX10_verify 18 = .ok (.iload_n 1, 1) := dq_27 (dq_suf 2 dt09cX10_verify_1 rfl rfl)
theorem dX10_verify_19 : decode cX10_verify 19 = .ok (.iaload, 1) := dq_46 (dq_suf 3 dt09cX10_verify_1 rfl rfl)
theorem dX10_verify_20 : decode cX10_verify 20 = .ok (.invokevirtual 191, 3) := dq_182 (dq_suf 4 dt09cX10_verify_1 rfl rfl) rfl
theorem dX10_verify_23 : decode cX10_verify 23 = .ok (.istore_n 2, 1) := dq_61 (dq_suf 7 dt09cX10_verify_1 rfl rfl)
theorem dX10_verify_24 : decode cX10_verify 24 = .ok (.aload_n 0, 1) := dq_42 (dq_suf 8 dt09cX10_verify_1 rfl rfl)
theorem dX10_verify_25 : decode cX10_verify 25 = .ok (.getfield 10, 3) := dq_180 (dq_suf 9 dt09cX10_verify_1 rfl rfl) rfl
theorem dX10_verify_28 : decode cX10_verify 28 = .ok (.iconst 0, 1) := dq_3 (dq_suf 12 dt09cX10_verify_1 rfl rfl)
theorem dX10_verify_29 : decode cX10_verify 29 = .ok (.invokevirtual 104, 3) := dq_182 (dq_suf 13 dt09cX10_verify_1 rfl rfl) rfl
theorem dX10_verify_32 : decode cX10_verify 32 = .ok (.pop, 1) := dq_87 (dq_suf 0 dt09cX10_verify_2 rfl rfl)
theorem dX10_verify_33 : decode cX10_verify 33 = .ok (.iload_n 2, 1) := dq_28 (dq_suf 1 dt09cX10_verify_2 rfl rfl)
theorem dX10_verify_34 : decode cX10_verify 34 = .ok (.ifCond .eq 7, 3) := dq_153 (dq_suf 2 dt09cX10_verify_2 rfl rfl) (by decide +kernel)
theorem dX10_verify_37 : decode cX10_verify 37 = .ok (.iconst 1, 1) := dq_4 (dq_suf 5 dt09cX10_verify_2 rfl rfl)
theorem dX10_verify_38 : decode cX10_verify 38 = .ok (.goto 4, 3) := dq_167 (dq_suf 6 dt09cX10_verify_2 rfl rfl) (by decide +kernel)
theorem dX10_verify_41 : decode cX10_verify 41 = .ok (.iconst 0, 1) := dq_3 (dq_suf 9 dt09cX10_verify_2 rfl rfl)
theorem dX10_verify_42 : decode cX10_verify 42 = .ok (.ireturn, 1) := dq_172 (dq_suf 10 dt09cX10_verify_2 rfl rfl)
noncomputable def ds09cX10_worlds_0 : List UInt8 := 42 :: 180 :: 0 :: 79 :: 182 :: 0 :: 194 :: 172 :: []
theorem dt09cX10_worlds_0 : cX10_worlds.data.toList.drop 0 = ds09cX10_worlds_0 := by decide +kernel
theorem dX10_worlds_0 : decode cX10_worlds 0 = .ok (.aload_n 0, 1) := dq_42 (dq_suf 0 dt09cX10_worlds_0 rfl rfl)
theorem dX10_worlds_1 : decode cX10_worlds 1 = .ok (.getfield 79, 3) := dq_180 (dq_suf 1 dt09cX10_worlds_0 rfl rfl) rfl
theorem dX10_worlds_4 : decode cX10_worlds 4 = .ok (.invokevirtual 194, 3) := dq_182 (dq_suf 4 dt09cX10_worlds_0 rfl rfl) rfl
theorem dX10_worlds_7 : decode cX10_worlds 7 = .ok (.ireturn, 1) := dq_172 (dq_suf 7 dt09cX10_worlds_0 rfl rfl)
noncomputable def ds09cX10_sees_2 : List UInt8 := 42 :: 180 :: 0 :: 79 :: 27 :: 28 :: 182 :: 0 :: 203 :: 172 :: []
noncomputable def ds09cX10_sees_1 : List UInt8 := 182 :: 0 :: 195 :: 154 :: 0 :: 13 :: 187 :: 0 :: 196 :: 89 :: 18 :: 198 :: 183 :: 0 :: 200 :: 191 :: ds09cX10_sees_2
noncomputable def ds09cX10_sees_0 : List UInt8 := 42 :: 180 :: 0 :: 79 :: 27 :: 182 :: 0 :: 195 :: 153 :: 0 :: 14 :: 42 :: 180 :: 0 :: 79 :: 28 :: ds09cX10_sees_1
theorem dt09cX10_sees_0 : cX10_sees.data.toList.drop 0 = ds09cX10_sees_0 := by decide +kernel
theorem dt09cX10_sees_1 : cX10_sees.data.toList.drop 16 = ds09cX10_sees_1 := dq_suf 16 dt09cX10_sees_0 rfl rfl
theorem dt09cX10_sees_2 : cX10_sees.data.toList.drop 32 = ds09cX10_sees_2 := dq_suf 16 dt09cX10_sees_1 rfl rfl
theorem dX10_sees_0 : decode cX10_sees 0 = .ok (.aload_n 0, 1) := dq_42 (dq_suf 0 dt09cX10_sees_0 rfl rfl)
theorem dX10_sees_1 : decode cX10_sees 1 = .ok (.getfield 79, 3) := dq_180 (dq_suf 1 dt09cX10_sees_0 rfl rfl) rfl
theorem dX10_sees_4 : decode cX10_sees 4 = .ok (.iload_n 1, 1) := dq_27 (dq_suf 4 dt09cX10_sees_0 rfl rfl)
theorem dX10_sees_5 : decode cX10_sees 5 = .ok (.invokevirtual 195, 3) := dq_182 (dq_suf 5 dt09cX10_sees_0 rfl rfl) rfl
theorem dX10_sees_8 : decode cX10_sees 8 = .ok (.ifCond .eq 14, 3) := dq_153 (dq_suf 8 dt09cX10_sees_0 rfl rfl) (by decide +kernel)
theorem dX10_sees_11 : decode cX10_sees 11 = .ok (.aload_n 0, 1) := dq_42 (dq_suf 11 dt09cX10_sees_0 rfl rfl)
theorem dX10_sees_12 : decode cX10_sees 12 = .ok (.getfield 79, 3) := dq_180 (dq_suf 12 dt09cX10_sees_0 rfl rfl) rfl
theorem dX10_sees_15 : decode cX10_sees 15 = .ok (.iload_n 2, 1) := dq_28 (dq_suf 15 dt09cX10_sees_0 rfl rfl)
theorem dX10_sees_16 : decode cX10_sees 16 = .ok (.invokevirtual 195, 3) := dq_182 (dq_suf 0 dt09cX10_sees_1 rfl rfl) rfl
theorem dX10_sees_19 : decode cX10_sees 19 = .ok (.ifCond .ne 13, 3) := dq_154 (dq_suf 3 dt09cX10_sees_1 rfl rfl) (by decide +kernel)
theorem dX10_sees_22 : decode cX10_sees 22 = .ok (.new 196, 3) := dq_187 (dq_suf 6 dt09cX10_sees_1 rfl rfl) rfl
theorem dX10_sees_25 : decode cX10_sees 25 = .ok (.dup, 1) := dq_89 (dq_suf 9 dt09cX10_sees_1 rfl rfl)
theorem dX10_sees_26 : decode cX10_sees 26 = .ok (.ldc 198, 2) := dq_18 (dq_suf 10 dt09cX10_sees_1 rfl rfl) rfl
theorem dX10_sees_28 : decode cX10_sees 28 = .ok (.invokespecial 200, 3) := dq_183 (dq_suf 12 dt09cX10_sees_1 rfl rfl) rfl
theorem dX10_sees_31 : decode cX10_sees 31 = .ok (.athrow, 1) := dq_191 (dq_suf 15 dt09cX10_sees_1 rfl rfl)
theorem dX10_sees_32 : decode cX10_sees 32 = .ok (.aload_n 0, 1) := dq_42 (dq_suf 0 dt09cX10_sees_2 rfl rfl)
theorem dX10_sees_33 : decode cX10_sees 33 = .ok (.getfield 79, 3) := dq_180 (dq_suf 1 dt09cX10_sees_2 rfl rfl) rfl
theorem dX10_sees_36 : decode cX10_sees 36 = .ok (.iload_n 1, 1) := dq_27 (dq_suf 4 dt09cX10_sees_2 rfl rfl)
theorem dX10_sees_37 : decode cX10_sees 37 = .ok (.iload_n 2, 1) := dq_28 (dq_suf 5 dt09cX10_sees_2 rfl rfl)
theorem dX10_sees_38 : decode cX10_sees 38 = .ok (.invokevirtual 203, 3) := dq_182 (dq_suf 6 dt09cX10_sees_2 rfl rfl) rfl
theorem dX10_sees_41 : decode cX10_sees 41 = .ok (.ireturn, 1) := dq_172 (dq_suf 9 dt09cX10_sees_2 rfl rfl)
noncomputable def ds09cX10_holds_2 : List UInt8 := 42 :: 180 :: 0 :: 79 :: 27 :: 28 :: 182 :: 0 :: 208 :: 172 :: []
noncomputable def ds09cX10_holds_1 : List UInt8 := 182 :: 0 :: 140 :: 154 :: 0 :: 13 :: 187 :: 0 :: 196 :: 89 :: 18 :: 206 :: 183 :: 0 :: 200 :: 191 :: ds09cX10_holds_2
noncomputable def ds09cX10_holds_0 : List UInt8 := 42 :: 180 :: 0 :: 79 :: 27 :: 182 :: 0 :: 195 :: 153 :: 0 :: 14 :: 42 :: 180 :: 0 :: 22 :: 28 :: ds09cX10_holds_1
theorem dt09cX10_holds_0 : cX10_holds.data.toList.drop 0 = ds09cX10_holds_0 := by decide +kernel
theorem dt09cX10_holds_1 : cX10_holds.data.toList.drop 16 = ds09cX10_holds_1 := dq_suf 16 dt09cX10_holds_0 rfl rfl
theorem dt09cX10_holds_2 : cX10_holds.data.toList.drop 32 = ds09cX10_holds_2 := dq_suf 16 dt09cX10_holds_1 rfl rfl
theorem dX10_holds_0 : decode cX10_holds 0 = .ok (.aload_n 0, 1) := dq_42 (dq_suf 0 dt09cX10_holds_0 rfl rfl)
theorem dX10_holds_1 : decode cX10_holds 1 = .ok (.getfield 79, 3) := dq_180 (dq_suf 1 dt09cX10_holds_0 rfl rfl) rfl
theorem dX10_holds_4 : decode cX10_holds 4 = .ok (.iload_n 1, 1) := dq_27 (dq_suf 4 dt09cX10_holds_0 rfl rfl)
theorem dX10_holds_5 : decode cX10_holds 5 = .ok (.invokevirtual 195, 3) := dq_182 (dq_suf 5 dt09cX10_holds_0 rfl rfl) rfl
theorem dX10_holds_8 : decode cX10_holds 8 = .ok (.ifCond .eq 14, 3) := dq_153 (dq_suf 8 dt09cX10_holds_0 rfl rfl) (by decide +kernel)
theorem dX10_holds_11 : decode cX10_holds 11 = .ok (.aload_n 0, 1) := dq_42 (dq_suf 11 dt09cX10_holds_0 rfl rfl)
theorem dX10_holds_12 : decode cX10_holds 12 = .ok (.getfield 22, 3) := dq_180 (dq_suf 12 dt09cX10_holds_0 rfl rfl) rfl
theorem dX10_holds_15 : decode cX10_holds 15 = .ok (.iload_n 2, 1) := dq_28 (dq_suf 15 dt09cX10_holds_0 rfl rfl)
theorem dX10_holds_16 : decode cX10_holds 16 = .ok (.invokevirtual 140, 3) := dq_182 (dq_suf 0 dt09cX10_holds_1 rfl rfl) rfl
theorem dX10_holds_19 : decode cX10_holds 19 = .ok (.ifCond .ne 13, 3) := dq_154 (dq_suf 3 dt09cX10_holds_1 rfl rfl) (by decide +kernel)
theorem dX10_holds_22 : decode cX10_holds 22 = .ok (.new 196, 3) := dq_187 (dq_suf 6 dt09cX10_holds_1 rfl rfl) rfl
theorem dX10_holds_25 : decode cX10_holds 25 = .ok (.dup, 1) := dq_89 (dq_suf 9 dt09cX10_holds_1 rfl rfl)
theorem dX10_holds_26 : decode cX10_holds 26 = .ok (.ldc 206, 2) := dq_18 (dq_suf 10 dt09cX10_holds_1 rfl rfl) rfl
theorem dX10_holds_28 : decode cX10_holds 28 = .ok (.invokespecial 200, 3) := dq_183 (dq_suf 12 dt09cX10_holds_1 rfl rfl) rfl
theorem dX10_holds_31 : decode cX10_holds 31 = .ok (.athrow, 1) := dq_191 (dq_suf 15 dt09cX10_holds_1 rfl rfl)
theorem dX10_holds_32 : decode cX10_holds 32 = .ok (.aload_n 0, 1) := dq_42 (dq_suf 0 dt09cX10_holds_2 rfl rfl)
theorem dX10_holds_33 : decode cX10_holds 33 = .ok (.getfield 79, 3) := dq_180 (dq_suf 1 dt09cX10_holds_2 rfl rfl) rfl
theorem dX10_holds_36 : decode cX10_holds 36 = .ok (.iload_n 1, 1) := dq_27 (dq_suf 4 dt09cX10_holds_2 rfl rfl)
theorem dX10_holds_37 : decode cX10_holds 37 = .ok (.iload_n 2, 1) := dq_28 (dq_suf 5 dt09cX10_holds_2 rfl rfl)
theorem dX10_holds_38 : decode cX10_holds 38 = .ok (.invokevirtual 208, 3) := dq_182 (dq_suf 6 dt09cX10_holds_2 rfl rfl) rfl
theorem dX10_holds_41 : decode cX10_holds 41 = .ok (.ireturn, 1) := dq_172 (dq_suf 9 dt09cX10_holds_2 rfl rfl)
noncomputable def ds09cX10_world_5 : List UInt8 := 182 :: 0 :: 220 :: 172 :: []
noncomputable def ds09cX10_world_4 : List UInt8 := 42 :: 180 :: 0 :: 79 :: 27 :: 182 :: 0 :: 217 :: 167 :: 0 :: 11 :: 42 :: 180 :: 0 :: 79 :: 27 :: ds09cX10_world_5
noncomputable def ds09cX10_world_3 : List UInt8 := 0 :: 12 :: 42 :: 180 :: 0 :: 79 :: 27 :: 182 :: 0 :: 214 :: 172 :: 28 :: 5 :: 160 :: 0 :: 14 :: ds09cX10_world_4
noncomputable def ds09cX10_world_2 : List UInt8 := 28 :: 154 :: 0 :: 12 :: 42 :: 180 :: 0 :: 79 :: 27 :: 182 :: 0 :: 211 :: 172 :: 28 :: 4 :: 160 :: ds09cX10_world_3
noncomputable def ds09cX10_world_1 : List UInt8 := 182 :: 0 :: 195 :: 154 :: 0 :: 13 :: 187 :: 0 :: 196 :: 89 :: 18 :: 198 :: 183 :: 0 :: 200 :: 191 :: ds09cX10_world_2
noncomputable def ds09cX10_world_0 : List UInt8 := 28 :: 155 :: 0 :: 8 :: 28 :: 6 :: 164 :: 0 :: 5 :: 2 :: 172 :: 42 :: 180 :: 0 :: 79 :: 27 :: ds09cX10_world_1
theorem dt09cX10_world_0 : cX10_world.data.toList.drop 0 = ds09cX10_world_0 := by decide +kernel
theorem dt09cX10_world_1 : cX10_world.data.toList.drop 16 = ds09cX10_world_1 := dq_suf 16 dt09cX10_world_0 rfl rfl
theorem dt09cX10_world_2 : cX10_world.data.toList.drop 32 = ds09cX10_world_2 := dq_suf 16 dt09cX10_world_1 rfl rfl
theorem dt09cX10_world_3 : cX10_world.data.toList.drop 48 = ds09cX10_world_3 := dq_suf 16 dt09cX10_world_2 rfl rfl
theorem dt09cX10_world_4 : cX10_world.data.toList.drop 64 = ds09cX10_world_4 := dq_suf 16 dt09cX10_world_3 rfl rfl
theorem dt09cX10_world_5 : cX10_world.data.toList.drop 80 = ds09cX10_world_5 := dq_suf 16 dt09cX10_world_4 rfl rfl
theorem dX10_world_0 : decode cX10_world 0 = .ok (.iload_n 2, 1) := dq_28 (dq_suf 0 dt09cX10_world_0 rfl rfl)
theorem dX10_world_1 : decode cX10_world 1 = .ok (.ifCond .lt 8, 3) := dq_155 (dq_suf 1 dt09cX10_world_0 rfl rfl) (by decide +kernel)
theorem dX10_world_4 : decode cX10_world 4 = .ok (.iload_n 2, 1) := dq_28 (dq_suf 4 dt09cX10_world_0 rfl rfl)
theorem dX10_world_5 : decode cX10_world 5 = .ok (.iconst 3, 1) := dq_6 (dq_suf 5 dt09cX10_world_0 rfl rfl)
theorem dX10_world_6 : decode cX10_world 6 = .ok (.if_icmp .le 5, 3) := dq_164 (dq_suf 6 dt09cX10_world_0 rfl rfl) (by decide +kernel)
theorem dX10_world_9 : decode cX10_world 9 = .ok (.iconst (-1), 1) := dq_2 (dq_suf 9 dt09cX10_world_0 rfl rfl)
theorem dX10_world_10 : decode cX10_world 10 = .ok (.ireturn, 1) := dq_172 (dq_suf 10 dt09cX10_world_0 rfl rfl)
theorem dX10_world_11 : decode cX10_world 11 = .ok (.aload_n 0, 1) := dq_42 (dq_suf 11 dt09cX10_world_0 rfl rfl)
theorem dX10_world_12 : decode cX10_world 12 = .ok (.getfield 79, 3) := dq_180 (dq_suf 12 dt09cX10_world_0 rfl rfl) rfl
theorem dX10_world_15 : decode cX10_world 15 = .ok (.iload_n 1, 1) := dq_27 (dq_suf 15 dt09cX10_world_0 rfl rfl)
theorem dX10_world_16 : decode cX10_world 16 = .ok (.invokevirtual 195, 3) := dq_182 (dq_suf 0 dt09cX10_world_1 rfl rfl) rfl
theorem dX10_world_19 : decode cX10_world 19 = .ok (.ifCond .ne 13, 3) := dq_154 (dq_suf 3 dt09cX10_world_1 rfl rfl) (by decide +kernel)
theorem dX10_world_22 : decode cX10_world 22 = .ok (.new 196, 3) := dq_187 (dq_suf 6 dt09cX10_world_1 rfl rfl) rfl
theorem dX10_world_25 : decode cX10_world 25 = .ok (.dup, 1) := dq_89 (dq_suf 9 dt09cX10_world_1 rfl rfl)
theorem dX10_world_26 : decode cX10_world 26 = .ok (.ldc 198, 2) := dq_18 (dq_suf 10 dt09cX10_world_1 rfl rfl) rfl
theorem dX10_world_28 : decode cX10_world 28 = .ok (.invokespecial 200, 3) := dq_183 (dq_suf 12 dt09cX10_world_1 rfl rfl) rfl
theorem dX10_world_31 : decode cX10_world 31 = .ok (.athrow, 1) := dq_191 (dq_suf 15 dt09cX10_world_1 rfl rfl)
theorem dX10_world_32 : decode cX10_world 32 = .ok (.iload_n 2, 1) := dq_28 (dq_suf 0 dt09cX10_world_2 rfl rfl)
theorem dX10_world_33 : decode cX10_world 33 = .ok (.ifCond .ne 12, 3) := dq_154 (dq_suf 1 dt09cX10_world_2 rfl rfl) (by decide +kernel)
theorem dX10_world_36 : decode cX10_world 36 = .ok (.aload_n 0, 1) := dq_42 (dq_suf 4 dt09cX10_world_2 rfl rfl)
theorem dX10_world_37 : decode cX10_world 37 = .ok (.getfield 79, 3) := dq_180 (dq_suf 5 dt09cX10_world_2 rfl rfl) rfl
theorem dX10_world_40 : decode cX10_world 40 = .ok (.iload_n 1, 1) := dq_27 (dq_suf 8 dt09cX10_world_2 rfl rfl)
theorem dX10_world_41 : decode cX10_world 41 = .ok (.invokevirtual 211, 3) := dq_182 (dq_suf 9 dt09cX10_world_2 rfl rfl) rfl
theorem dX10_world_44 : decode cX10_world 44 = .ok (.ireturn, 1) := dq_172 (dq_suf 12 dt09cX10_world_2 rfl rfl)
theorem dX10_world_45 : decode cX10_world 45 = .ok (.iload_n 2, 1) := dq_28 (dq_suf 13 dt09cX10_world_2 rfl rfl)
theorem dX10_world_46 : decode cX10_world 46 = .ok (.iconst 1, 1) := dq_4 (dq_suf 14 dt09cX10_world_2 rfl rfl)
theorem dX10_world_47 : decode cX10_world 47 = .ok (.if_icmp .ne 12, 3) := dq_160 (dq_suf 15 dt09cX10_world_2 rfl rfl) (by decide +kernel)
theorem dX10_world_50 : decode cX10_world 50 = .ok (.aload_n 0, 1) := dq_42 (dq_suf 2 dt09cX10_world_3 rfl rfl)
theorem dX10_world_51 : decode cX10_world 51 = .ok (.getfield 79, 3) := dq_180 (dq_suf 3 dt09cX10_world_3 rfl rfl) rfl
theorem dX10_world_54 : decode cX10_world 54 = .ok (.iload_n 1, 1) := dq_27 (dq_suf 6 dt09cX10_world_3 rfl rfl)
theorem dX10_world_55 : decode cX10_world 55 = .ok (.invokevirtual 214, 3) := dq_182 (dq_suf 7 dt09cX10_world_3 rfl rfl) rfl
theorem dX10_world_58 : decode cX10_world 58 = .ok (.ireturn, 1) := dq_172 (dq_suf 10 dt09cX10_world_3 rfl rfl)
theorem dX10_world_59 : decode cX10_world 59 = .ok (.iload_n 2, 1) := dq_28 (dq_suf 11 dt09cX10_world_3 rfl rfl)
theorem dX10_world_60 : decode cX10_world 60 = .ok (.iconst 2, 1) := dq_5 (dq_suf 12 dt09cX10_world_3 rfl rfl)
theorem dX10_world_61 : decode cX10_world 61 = .ok (.if_icmp .ne 14, 3) := dq_160 (dq_suf 13 dt09cX10_world_3 rfl rfl) (by decide +kernel)
theorem dX10_world_64 : decode cX10_world 64 = .ok (.aload_n 0, 1) := dq_42 (dq_suf 0 dt09cX10_world_4 rfl rfl)
theorem dX10_world_65 : decode cX10_world 65 = .ok (.getfield 79, 3) := dq_180 (dq_suf 1 dt09cX10_world_4 rfl rfl) rfl
theorem dX10_world_68 : decode cX10_world 68 = .ok (.iload_n 1, 1) := dq_27 (dq_suf 4 dt09cX10_world_4 rfl rfl)
theorem dX10_world_69 : decode cX10_world 69 = .ok (.invokevirtual 217, 3) := dq_182 (dq_suf 5 dt09cX10_world_4 rfl rfl) rfl
theorem dX10_world_72 : decode cX10_world 72 = .ok (.goto 11, 3) := dq_167 (dq_suf 8 dt09cX10_world_4 rfl rfl) (by decide +kernel)
theorem dX10_world_75 : decode cX10_world 75 = .ok (.aload_n 0, 1) := dq_42 (dq_suf 11 dt09cX10_world_4 rfl rfl)
theorem dX10_world_76 : decode cX10_world 76 = .ok (.getfield 79, 3) := dq_180 (dq_suf 12 dt09cX10_world_4 rfl rfl) rfl
theorem dX10_world_79 : decode cX10_world 79 = .ok (.iload_n 1, 1) := dq_27 (dq_suf 15 dt09cX10_world_4 rfl rfl)
theorem dX10_world_80 : decode cX10_world 80 = .ok (.invokevirtual 220, 3) := dq_182 (dq_suf 0 dt09cX10_world_5 rfl rfl) rfl
theorem dX10_world_83 : decode cX10_world 83 = .ok (.ireturn, 1) := dq_172 (dq_suf 3 dt09cX10_world_5 rfl rfl)
noncomputable def ds09cX10_fold_0 : List UInt8 := 42 :: 180 :: 0 :: 79 :: 182 :: 0 :: 223 :: 42 :: 180 :: 0 :: 79 :: 182 :: 0 :: 194 :: 172 :: []
theorem dt09cX10_fold_0 : cX10_fold.data.toList.drop 0 = ds09cX10_fold_0 := by decide +kernel
theorem dX10_fold_0 : decode cX10_fold 0 = .ok (.aload_n 0, 1) := dq_42 (dq_suf 0 dt09cX10_fold_0 rfl rfl)
theorem dX10_fold_1 : decode cX10_fold 1 = .ok (.getfield 79, 3) := dq_180 (dq_suf 1 dt09cX10_fold_0 rfl rfl) rfl
theorem dX10_fold_4 : decode cX10_fold 4 = .ok (.invokevirtual 223, 3) := dq_182 (dq_suf 4 dt09cX10_fold_0 rfl rfl) rfl
theorem dX10_fold_7 : decode cX10_fold 7 = .ok (.aload_n 0, 1) := dq_42 (dq_suf 7 dt09cX10_fold_0 rfl rfl)
theorem dX10_fold_8 : decode cX10_fold 8 = .ok (.getfield 79, 3) := dq_180 (dq_suf 8 dt09cX10_fold_0 rfl rfl) rfl
theorem dX10_fold_11 : decode cX10_fold 11 = .ok (.invokevirtual 194, 3) := dq_182 (dq_suf 11 dt09cX10_fold_0 rfl rfl) rfl
theorem dX10_fold_14 : decode cX10_fold 14 = .ok (.ireturn, 1) := dq_172 (dq_suf 14 dt09cX10_fold_0 rfl rfl)
noncomputable def ds09cX10_cut_2 : List UInt8 := 79 :: 182 :: 0 :: 194 :: 172 :: []
noncomputable def ds09cX10_cut_1 : List UInt8 := 198 :: 183 :: 0 :: 200 :: 191 :: 42 :: 180 :: 0 :: 79 :: 27 :: 182 :: 0 :: 226 :: 42 :: 180 :: 0 :: ds09cX10_cut_2
noncomputable def ds09cX10_cut_0 : List UInt8 := 42 :: 180 :: 0 :: 79 :: 27 :: 182 :: 0 :: 195 :: 154 :: 0 :: 13 :: 187 :: 0 :: 196 :: 89 :: 18 :: ds09cX10_cut_1
theorem dt09cX10_cut_0 : cX10_cut.data.toList.drop 0 = ds09cX10_cut_0 := by decide +kernel
theorem dt09cX10_cut_1 : cX10_cut.data.toList.drop 16 = ds09cX10_cut_1 := dq_suf 16 dt09cX10_cut_0 rfl rfl
theorem dt09cX10_cut_2 : cX10_cut.data.toList.drop 32 = ds09cX10_cut_2 := dq_suf 16 dt09cX10_cut_1 rfl rfl
theorem dX10_cut_0 : decode cX10_cut 0 = .ok (.aload_n 0, 1) := dq_42 (dq_suf 0 dt09cX10_cut_0 rfl rfl)
theorem dX10_cut_1 : decode cX10_cut 1 = .ok (.getfield 79, 3) := dq_180 (dq_suf 1 dt09cX10_cut_0 rfl rfl) rfl
theorem dX10_cut_4 : decode cX10_cut 4 = .ok (.iload_n 1, 1) := dq_27 (dq_suf 4 dt09cX10_cut_0 rfl rfl)
theorem dX10_cut_5 : decode cX10_cut 5 = .ok (.invokevirtual 195, 3) := dq_182 (dq_suf 5 dt09cX10_cut_0 rfl rfl) rfl
theorem dX10_cut_8 : decode cX10_cut 8 = .ok (.ifCond .ne 13, 3) := dq_154 (dq_suf 8 dt09cX10_cut_0 rfl rfl) (by decide +kernel)
theorem dX10_cut_11 : decode cX10_cut 11 = .ok (.new 196, 3) := dq_187 (dq_suf 11 dt09cX10_cut_0 rfl rfl) rfl
theorem dX10_cut_14 : decode cX10_cut 14 = .ok (.dup, 1) := dq_89 (dq_suf 14 dt09cX10_cut_0 rfl rfl)
theorem dX10_cut_15 : decode cX10_cut 15 = .ok (.ldc 198, 2) := dq_18 (dq_suf 15 dt09cX10_cut_0 rfl rfl) rfl
theorem dX10_cut_17 : decode cX10_cut 17 = .ok (.invokespecial 200, 3) := dq_183 (dq_suf 1 dt09cX10_cut_1 rfl rfl) rfl
theorem dX10_cut_20 : decode cX10_cut 20 = .ok (.athrow, 1) := dq_191 (dq_suf 4 dt09cX10_cut_1 rfl rfl)
theorem dX10_cut_21 : decode cX10_cut 21 = .ok (.aload_n 0, 1) := dq_42 (dq_suf 5 dt09cX10_cut_1 rfl rfl)
theorem dX10_cut_22 : decode cX10_cut 22 = .ok (.getfield 79, 3) := dq_180 (dq_suf 6 dt09cX10_cut_1 rfl rfl) rfl
theorem dX10_cut_25 : decode cX10_cut 25 = .ok (.iload_n 1, 1) := dq_27 (dq_suf 9 dt09cX10_cut_1 rfl rfl)
theorem dX10_cut_26 : decode cX10_cut 26 = .ok (.invokevirtual 226, 3) := dq_182 (dq_suf 10 dt09cX10_cut_1 rfl rfl) rfl
theorem dX10_cut_29 : decode cX10_cut 29 = .ok (.aload_n 0, 1) := dq_42 (dq_suf 13 dt09cX10_cut_1 rfl rfl)
theorem dX10_cut_30 : decode cX10_cut 30 = .ok (.getfield 79, 3) := dq_180 (dq_suf 14 dt09cX10_cut_1 rfl rfl) rfl
theorem dX10_cut_33 : decode cX10_cut 33 = .ok (.invokevirtual 194, 3) := dq_182 (dq_suf 1 dt09cX10_cut_2 rfl rfl) rfl
theorem dX10_cut_36 : decode cX10_cut 36 = .ok (.ireturn, 1) := dq_172 (dq_suf 4 dt09cX10_cut_2 rfl rfl)
noncomputable def ds09cX10_isSlot_0 : List UInt8 := 26 :: 155 :: 0 :: 13 :: 26 :: 16 :: 8 :: 162 :: 0 :: 7 :: 4 :: 167 :: 0 :: 4 :: 3 :: 172 :: []
theorem dt09cX10_isSlot_0 : cX10_isSlot.data.toList.drop 0 = ds09cX10_isSlot_0 := by decide +kernel
theorem dX10_isSlot_0 : decode cX10_isSlot 0 = .ok (.iload_n 0, 1) := dq_26 (dq_suf 0 dt09cX10_isSlot_0 rfl rfl)
theorem dX10_isSlot_1 : decode cX10_isSlot 1 = .ok (.ifCond .lt 13, 3) := dq_155 (dq_suf 1 dt09cX10_isSlot_0 rfl rfl) (by decide +kernel)
theorem dX10_isSlot_4 : decode cX10_isSlot 4 = .ok (.iload_n 0, 1) := dq_26 (dq_suf 4 dt09cX10_isSlot_0 rfl rfl)
theorem dX10_isSlot_5 : decode cX10_isSlot 5 = .ok (.bipush 8, 2) := dq_16 (dq_suf 5 dt09cX10_isSlot_0 rfl rfl) (by decide +kernel)
theorem dX10_isSlot_7 : decode cX10_isSlot 7 = .ok (.if_icmp .ge 7, 3) := dq_162 (dq_suf 7 dt09cX10_isSlot_0 rfl rfl) (by decide +kernel)
theorem dX10_isSlot_10 : decode cX10_isSlot 10 = .ok (.iconst 1, 1) := dq_4 (dq_suf 10 dt09cX10_isSlot_0 rfl rfl)
theorem dX10_isSlot_11 : decode cX10_isSlot 11 = .ok (.goto 4, 3) := dq_167 (dq_suf 11 dt09cX10_isSlot_0 rfl rfl) (by decide +kernel)
theorem dX10_isSlot_14 : decode cX10_isSlot 14 = .ok (.iconst 0, 1) := dq_3 (dq_suf 14 dt09cX10_isSlot_0 rfl rfl)
theorem dX10_isSlot_15 : decode cX10_isSlot 15 = .ok (.ireturn, 1) := dq_172 (dq_suf 15 dt09cX10_isSlot_0 rfl rfl)
noncomputable def ds09cX10_isFilled_1 : List UInt8 := 7 :: 4 :: 167 :: 0 :: 4 :: 3 :: 172 :: []
noncomputable def ds09cX10_isFilled_0 : List UInt8 := 27 :: 184 :: 0 :: 120 :: 153 :: 0 :: 17 :: 42 :: 180 :: 0 :: 94 :: 27 :: 46 :: 2 :: 159 :: 0 :: ds09cX10_isFilled_1
theorem dt09cX10_isFilled_0 : cX10_isFilled.data.toList.drop 0 = ds09cX10_isFilled_0 := by decide +kernel
theorem dt09cX10_isFilled_1 : cX10_isFilled.data.toList.drop 16 = ds09cX10_isFilled_1 := dq_suf 16 dt09cX10_isFilled_0 rfl rfl
theorem dX10_isFilled_0 : decode cX10_isFilled 0 = .ok (.iload_n 1, 1) := dq_27 (dq_suf 0 dt09cX10_isFilled_0 rfl rfl)
theorem dX10_isFilled_1 : decode cX10_isFilled 1 = .ok (.invokestatic 120, 3) := dq_184 (dq_suf 1 dt09cX10_isFilled_0 rfl rfl) rfl
theorem dX10_isFilled_4 : decode cX10_isFilled 4 = .ok (.ifCond .eq 17, 3) := dq_153 (dq_suf 4 dt09cX10_isFilled_0 rfl rfl) (by decide +kernel)
theorem dX10_isFilled_7 : decode cX10_isFilled 7 = .ok (.aload_n 0, 1) := dq_42 (dq_suf 7 dt09cX10_isFilled_0 rfl rfl)
theorem dX10_isFilled_8 : decode cX10_isFilled 8 = .ok (.getfield 94, 3) := dq_180 (dq_suf 8 dt09cX10_isFilled_0 rfl rfl) rfl
theorem dX10_isFilled_11 : decode cX10_isFilled 11 = .ok (.iload_n 1, 1) := dq_27 (dq_suf 11 dt09cX10_isFilled_0 rfl rfl)
theorem dX10_isFilled_12 : decode cX10_isFilled 12 = .ok (.iaload, 1) := dq_46 (dq_suf 12 dt09cX10_isFilled_0 rfl rfl)
theorem dX10_isFilled_13 : decode cX10_isFilled 13 = .ok (.iconst (-1), 1) := dq_2 (dq_suf 13 dt09cX10_isFilled_0 rfl rfl)
theorem dX10_isFilled_14 : decode cX10_isFilled 14 = .ok (.if_icmp .eq 7, 3) := dq_159 (dq_suf 14 dt09cX10_isFilled_0 rfl rfl) (by decide +kernel)
theorem dX10_isFilled_17 : decode cX10_isFilled 17 = .ok (.iconst 1, 1) := dq_4 (dq_suf 1 dt09cX10_isFilled_1 rfl rfl)
theorem dX10_isFilled_18 : decode cX10_isFilled 18 = .ok (.goto 4, 3) := dq_167 (dq_suf 2 dt09cX10_isFilled_1 rfl rfl) (by decide +kernel)
theorem dX10_isFilled_21 : decode cX10_isFilled 21 = .ok (.iconst 0, 1) := dq_3 (dq_suf 5 dt09cX10_isFilled_1 rfl rfl)
theorem dX10_isFilled_22 : decode cX10_isFilled 22 = .ok (.ireturn, 1) := dq_172 (dq_suf 6 dt09cX10_isFilled_1 rfl rfl)
noncomputable def ds09cX10_fill_5 : List UInt8 := 0 :: 90 :: 27 :: 21 :: 4 :: 79 :: 42 :: 180 :: 0 :: 94 :: 27 :: 21 :: 5 :: 79 :: 4 :: 172 :: []
noncomputable def ds09cX10_fill_4 : List UInt8 := 22 :: 29 :: 182 :: 0 :: 239 :: 3 :: 172 :: 42 :: 180 :: 0 :: 31 :: 182 :: 0 :: 242 :: 42 :: 180 :: ds09cX10_fill_5
noncomputable def ds09cX10_fill_3 : List UInt8 := 0 :: 236 :: 182 :: 0 :: 233 :: 54 :: 5 :: 21 :: 5 :: 2 :: 160 :: 0 :: 13 :: 42 :: 180 :: 0 :: ds09cX10_fill_4
noncomputable def ds09cX10_fill_2 : List UInt8 := 21 :: 4 :: 2 :: 160 :: 0 :: 7 :: 2 :: 167 :: 0 :: 14 :: 42 :: 180 :: 0 :: 31 :: 28 :: 184 :: ds09cX10_fill_3
noncomputable def ds09cX10_fill_1 : List UInt8 := 0 :: 7 :: 2 :: 167 :: 0 :: 11 :: 42 :: 180 :: 0 :: 31 :: 28 :: 182 :: 0 :: 233 :: 54 :: 4 :: ds09cX10_fill_2
noncomputable def ds09cX10_fill_0 : List UInt8 := 42 :: 180 :: 0 :: 22 :: 182 :: 0 :: 146 :: 62 :: 42 :: 180 :: 0 :: 31 :: 182 :: 0 :: 229 :: 153 :: ds09cX10_fill_1
theorem dt09cX10_fill_0 : cX10_fill.data.toList.drop 0 = ds09cX10_fill_0 := by decide +kernel
theorem dt09cX10_fill_1 : cX10_fill.data.toList.drop 16 = ds09cX10_fill_1 := dq_suf 16 dt09cX10_fill_0 rfl rfl
theorem dt09cX10_fill_2 : cX10_fill.data.toList.drop 32 = ds09cX10_fill_2 := dq_suf 16 dt09cX10_fill_1 rfl rfl
theorem dt09cX10_fill_3 : cX10_fill.data.toList.drop 48 = ds09cX10_fill_3 := dq_suf 16 dt09cX10_fill_2 rfl rfl
theorem dt09cX10_fill_4 : cX10_fill.data.toList.drop 64 = ds09cX10_fill_4 := dq_suf 16 dt09cX10_fill_3 rfl rfl
theorem dt09cX10_fill_5 : cX10_fill.data.toList.drop 80 = ds09cX10_fill_5 := dq_suf 16 dt09cX10_fill_4 rfl rfl
theorem dX10_fill_0 : decode cX10_fill 0 = .ok (.aload_n 0, 1) := dq_42 (dq_suf 0 dt09cX10_fill_0 rfl rfl)
theorem dX10_fill_1 : decode cX10_fill 1 = .ok (.getfield 22, 3) := dq_180 (dq_suf 1 dt09cX10_fill_0 rfl rfl) rfl
theorem dX10_fill_4 : decode cX10_fill 4 = .ok (.invokevirtual 146, 3) := dq_182 (dq_suf 4 dt09cX10_fill_0 rfl rfl) rfl
theorem dX10_fill_7 : decode cX10_fill 7 = .ok (.istore_n 3, 1) := dq_62 (dq_suf 7 dt09cX10_fill_0 rfl rfl)
theorem dX10_fill_8 : decode cX10_fill 8 = .ok (.aload_n 0, 1) := dq_42 (dq_suf 8 dt09cX10_fill_0 rfl rfl)
theorem dX10_fill_9 : decode cX10_fill 9 = .ok (.getfield 31, 3) := dq_180 (dq_suf 9 dt09cX10_fill_0 rfl rfl) rfl
theorem dX10_fill_12 : decode cX10_fill 12 = .ok (.invokevirtual 229, 3) := dq_182 (dq_suf 12 dt09cX10_fill_0 rfl rfl) rfl
theorem dX10_fill_15 : decode cX10_fill 15 = .ok (.ifCond .eq 7, 3) := dq_153 (dq_suf 15 dt09cX10_fill_0 rfl rfl) (by decide +kernel)
theorem dX10_fill_18 : decode cX10_fill 18 = .ok (.iconst (-1), 1) := dq_2 (dq_suf 2 dt09cX10_fill_1 rfl rfl)
theorem dX10_fill_19 : decode cX10_fill 19 = .ok (.goto 11, 3) := dq_167 (dq_suf 3 dt09cX10_fill_1 rfl rfl) (by decide +kernel)
theorem dX10_fill_22 : decode cX10_fill 22 = .ok (.aload_n 0, 1) := dq_42 (dq_suf 6 dt09cX10_fill_1 rfl rfl)
theorem dX10_fill_23 : decode cX10_fill 23 = .ok (.getfield 31, 3) := dq_180 (dq_suf 7 dt09cX10_fill_1 rfl rfl) rfl
theorem dX10_fill_26 : decode cX10_fill 26 = .ok (.iload_n 2, 1) := dq_28 (dq_suf 10 dt09cX10_fill_1 rfl rfl)
theorem dX10_fill_27 : decode cX10_fill 27 = .ok (.invokevirtual 233, 3) := dq_182 (dq_suf 11 dt09cX10_fill_1 rfl rfl) rfl
theorem dX10_fill_30 : decode cX10_fill 30 = .ok (.istore 4, 2) := dq_54 (dq_suf 14 dt09cX10_fill_1 rfl rfl) rfl
theorem dX10_fill_32 : decode cX10_fill 32 = .ok (.iload 4, 2) := dq_21 (dq_suf 0 dt09cX10_fill_2 rfl rfl) rfl
theorem dX10_fill_34 : decode cX10_fill 34 = .ok (.iconst (-1), 1) := dq_2 (dq_suf 2 dt09cX10_fill_2 rfl rfl)
theorem dX10_fill_35 : decode cX10_fill 35 = .ok (.if_icmp .ne 7, 3) := dq_160 (dq_suf 3 dt09cX10_fill_2 rfl rfl) (by decide +kernel)
theorem dX10_fill_38 : decode cX10_fill 38 = .ok (.iconst (-1), 1) := dq_2 (dq_suf 6 dt09cX10_fill_2 rfl rfl)
theorem dX10_fill_39 : decode cX10_fill 39 = .ok (.goto 14, 3) := dq_167 (dq_suf 7 dt09cX10_fill_2 rfl rfl) (by decide +kernel)
theorem dX10_fill_42 : decode cX10_fill 42 = .ok (.aload_n 0, 1) := dq_42 (dq_suf 10 dt09cX10_fill_2 rfl rfl)
theorem dX10_fill_43 : decode cX10_fill 43 = .ok (.getfield 31, 3) := dq_180 (dq_suf 11 dt09cX10_fill_2 rfl rfl) rfl
theorem dX10_fill_46 : decode cX10_fill 46 = .ok (.iload_n 2, 1) := dq_28 (dq_suf 14 dt09cX10_fill_2 rfl rfl)
theorem dX10_fill_47 : decode cX10_fill 47 = .ok (.invokestatic 236, 3) := dq_184 (dq_suf 15 dt09cX10_fill_2 rfl rfl) rfl
theorem dX10_fill_50 : decode cX10_fill 50 = .ok (.invokevirtual 233, 3) := dq_182 (dq_suf 2 dt09cX10_fill_3 rfl rfl) rfl
theorem dX10_fill_53 : decode cX10_fill 53 = .ok (.istore 5, 2) := dq_54 (dq_suf 5 dt09cX10_fill_3 rfl rfl) rfl
theorem dX10_fill_55 : decode cX10_fill 55 = .ok (.iload 5, 2) := dq_21 (dq_suf 7 dt09cX10_fill_3 rfl rfl) rfl
theorem dX10_fill_57 : decode cX10_fill 57 = .ok (.iconst (-1), 1) := dq_2 (dq_suf 9 dt09cX10_fill_3 rfl rfl)
theorem dX10_fill_58 : decode cX10_fill 58 = .ok (.if_icmp .ne 13, 3) := dq_160 (dq_suf 10 dt09cX10_fill_3 rfl rfl) (by decide +kernel)
theorem dX10_fill_61 : decode cX10_fill 61 = .ok (.aload_n 0, 1) := dq_42 (dq_suf 13 dt09cX10_fill_3 rfl rfl)
theorem dX10_fill_62 : decode cX10_fill 62 = .ok (.getfield 22, 3) := dq_180 (dq_suf 14 dt09cX10_fill_3 rfl rfl) rfl
theorem dX10_fill_65 : decode cX10_fill 65 = .ok (.iload_n 3, 1) := dq_29 (dq_suf 1 dt09cX10_fill_4 rfl rfl)
theorem dX10_fill_66 : decode cX10_fill 66 = .ok (.invokevirtual 239, 3) := dq_182 (dq_suf 2 dt09cX10_fill_4 rfl rfl) rfl
theorem dX10_fill_69 : decode cX10_fill 69 = .ok (.iconst 0, 1) := dq_3 (dq_suf 5 dt09cX10_fill_4 rfl rfl)
theorem dX10_fill_70 : decode cX10_fill 70 = .ok (.ireturn, 1) := dq_172 (dq_suf 6 dt09cX10_fill_4 rfl rfl)
theorem dX10_fill_71 : decode cX10_fill 71 = .ok (.aload_n 0, 1) := dq_42 (dq_suf 7 dt09cX10_fill_4 rfl rfl)
theorem dX10_fill_72 : decode cX10_fill 72 = .ok (.getfield 31, 3) := dq_180 (dq_suf 8 dt09cX10_fill_4 rfl rfl) rfl
theorem dX10_fill_75 : decode cX10_fill 75 = .ok (.invokevirtual 242, 3) := dq_182 (dq_suf 11 dt09cX10_fill_4 rfl rfl) rfl
theorem dX10_fill_78 : decode cX10_fill 78 = .ok (.aload_n 0, 1) := dq_42 (dq_suf 14 dt09cX10_fill_4 rfl rfl)
theorem dX10_fill_79 : decode cX10_fill 79 = .ok (.getfield 90, 3) := dq_180 (dq_suf 15 dt09cX10_fill_4 rfl rfl) rfl
theorem dX10_fill_82 : decode cX10_fill 82 = .ok (.iload_n 1, 1) := dq_27 (dq_suf 2 dt09cX10_fill_5 rfl rfl)
theorem dX10_fill_83 : decode cX10_fill 83 = .ok (.iload 4, 2) := dq_21 (dq_suf 3 dt09cX10_fill_5 rfl rfl) rfl
theorem dX10_fill_85 : decode cX10_fill 85 = .ok (.iastore, 1) := dq_79 (dq_suf 5 dt09cX10_fill_5 rfl rfl)
theorem dX10_fill_86 : decode cX10_fill 86 = .ok (.aload_n 0, 1) := dq_42 (dq_suf 6 dt09cX10_fill_5 rfl rfl)
theorem dX10_fill_87 : decode cX10_fill 87 = .ok (.getfield 94, 3) := dq_180 (dq_suf 7 dt09cX10_fill_5 rfl rfl) rfl
theorem dX10_fill_90 : decode cX10_fill 90 = .ok (.iload_n 1, 1) := dq_27 (dq_suf 10 dt09cX10_fill_5 rfl rfl)
theorem dX10_fill_91 : decode cX10_fill 91 = .ok (.iload 5, 2) := dq_21 (dq_suf 11 dt09cX10_fill_5 rfl rfl) rfl
theorem dX10_fill_93 : decode cX10_fill 93 = .ok (.iastore, 1) := dq_79 (dq_suf 13 dt09cX10_fill_5 rfl rfl)
theorem dX10_fill_94 : decode cX10_fill 94 = .ok (.iconst 1, 1) := dq_4 (dq_suf 14 dt09cX10_fill_5 rfl rfl)
theorem dX10_fill_95 : decode cX10_fill 95 = .ok (.ireturn, 1) := dq_172 (dq_suf 15 dt09cX10_fill_5 rfl rfl)
noncomputable def ds09cL_sees_1 : List UInt8 := 80 :: 167 :: 0 :: 7 :: 58 :: 4 :: 4 :: 172 :: 3 :: 172 :: []
noncomputable def ds09cL_sees_0 : List UInt8 := 45 :: 3 :: 42 :: 27 :: 28 :: 182 :: 0 :: 7 :: 153 :: 0 :: 7 :: 10 :: 167 :: 0 :: 4 :: 9 :: ds09cL_sees_1
theorem dt09cL_sees_0 : cL_sees.data.toList.drop 0 = ds09cL_sees_0 := by decide +kernel
theorem dt09cL_sees_1 : cL_sees.data.toList.drop 16 = ds09cL_sees_1 := dq_suf 16 dt09cL_sees_0 rfl rfl
theorem dL_sees_0 : decode cL_sees 0 = .ok (.aload_n 3, 1) := dq_45 (dq_suf 0 dt09cL_sees_0 rfl rfl)
theorem dL_sees_1 : decode cL_sees 1 = .ok (.iconst 0, 1) := dq_3 (dq_suf 1 dt09cL_sees_0 rfl rfl)
theorem dL_sees_2 : decode cL_sees 2 = .ok (.aload_n 0, 1) := dq_42 (dq_suf 2 dt09cL_sees_0 rfl rfl)
theorem dL_sees_3 : decode cL_sees 3 = .ok (.iload_n 1, 1) := dq_27 (dq_suf 3 dt09cL_sees_0 rfl rfl)
theorem dL_sees_4 : decode cL_sees 4 = .ok (.iload_n 2, 1) := dq_28 (dq_suf 4 dt09cL_sees_0 rfl rfl)
theorem dL_sees_5 : decode cL_sees 5 = .ok (.invokevirtual 7, 3) := dq_182 (dq_suf 5 dt09cL_sees_0 rfl rfl) rfl
theorem dL_sees_8 : decode cL_sees 8 = .ok (.ifCond .eq 7, 3) := dq_153 (dq_suf 8 dt09cL_sees_0 rfl rfl) (by decide +kernel)
theorem dL_sees_11 : decode cL_sees 11 = .ok (.lconst 1, 1) := dq_10 (dq_suf 11 dt09cL_sees_0 rfl rfl)
theorem dL_sees_12 : decode cL_sees 12 = .ok (.goto 4, 3) := dq_167 (dq_suf 12 dt09cL_sees_0 rfl rfl) (by decide +kernel)
theorem dL_sees_15 : decode cL_sees 15 = .ok (.lconst 0, 1) := dq_9 (dq_suf 15 dt09cL_sees_0 rfl rfl)
theorem dL_sees_16 : decode cL_sees 16 = .ok (.lastore, 1) := dq_80 (dq_suf 0 dt09cL_sees_1 rfl rfl)
theorem dL_sees_17 : decode cL_sees 17 = .ok (.goto 7, 3) := dq_167 (dq_suf 1 dt09cL_sees_1 rfl rfl) (by decide +kernel)
theorem dL_sees_20 : decode cL_sees 20 = .ok (.astore 4, 2) := dq_58 (dq_suf 4 dt09cL_sees_1 rfl rfl) rfl
theorem dL_sees_22 : decode cL_sees 22 = .ok (.iconst 1, 1) := dq_4 (dq_suf 6 dt09cL_sees_1 rfl rfl)
theorem dL_sees_23 : decode cL_sees 23 = .ok (.ireturn, 1) := dq_172 (dq_suf 7 dt09cL_sees_1 rfl rfl)
theorem dL_sees_24 : decode cL_sees 24 = .ok (.iconst 0, 1) := dq_3 (dq_suf 8 dt09cL_sees_1 rfl rfl)
theorem dL_sees_25 : decode cL_sees 25 = .ok (.ireturn, 1) := dq_172 (dq_suf 9 dt09cL_sees_1 rfl rfl)
noncomputable def ds09cL_holds_1 : List UInt8 := 80 :: 167 :: 0 :: 7 :: 58 :: 4 :: 4 :: 172 :: 3 :: 172 :: []
noncomputable def ds09cL_holds_0 : List UInt8 := 45 :: 3 :: 42 :: 27 :: 28 :: 182 :: 0 :: 15 :: 153 :: 0 :: 7 :: 10 :: 167 :: 0 :: 4 :: 9 :: ds09cL_holds_1
theorem dt09cL_holds_0 : cL_holds.data.toList.drop 0 = ds09cL_holds_0 := by decide +kernel
theorem dt09cL_holds_1 : cL_holds.data.toList.drop 16 = ds09cL_holds_1 := dq_suf 16 dt09cL_holds_0 rfl rfl
theorem dL_holds_0 : decode cL_holds 0 = .ok (.aload_n 3, 1) := dq_45 (dq_suf 0 dt09cL_holds_0 rfl rfl)
theorem dL_holds_1 : decode cL_holds 1 = .ok (.iconst 0, 1) := dq_3 (dq_suf 1 dt09cL_holds_0 rfl rfl)
theorem dL_holds_2 : decode cL_holds 2 = .ok (.aload_n 0, 1) := dq_42 (dq_suf 2 dt09cL_holds_0 rfl rfl)
theorem dL_holds_3 : decode cL_holds 3 = .ok (.iload_n 1, 1) := dq_27 (dq_suf 3 dt09cL_holds_0 rfl rfl)
theorem dL_holds_4 : decode cL_holds 4 = .ok (.iload_n 2, 1) := dq_28 (dq_suf 4 dt09cL_holds_0 rfl rfl)
theorem dL_holds_5 : decode cL_holds 5 = .ok (.invokevirtual 15, 3) := dq_182 (dq_suf 5 dt09cL_holds_0 rfl rfl) rfl
theorem dL_holds_8 : decode cL_holds 8 = .ok (.ifCond .eq 7, 3) := dq_153 (dq_suf 8 dt09cL_holds_0 rfl rfl) (by decide +kernel)
theorem dL_holds_11 : decode cL_holds 11 = .ok (.lconst 1, 1) := dq_10 (dq_suf 11 dt09cL_holds_0 rfl rfl)
theorem dL_holds_12 : decode cL_holds 12 = .ok (.goto 4, 3) := dq_167 (dq_suf 12 dt09cL_holds_0 rfl rfl) (by decide +kernel)
theorem dL_holds_15 : decode cL_holds 15 = .ok (.lconst 0, 1) := dq_9 (dq_suf 15 dt09cL_holds_0 rfl rfl)
theorem dL_holds_16 : decode cL_holds 16 = .ok (.lastore, 1) := dq_80 (dq_suf 0 dt09cL_holds_1 rfl rfl)
theorem dL_holds_17 : decode cL_holds 17 = .ok (.goto 7, 3) := dq_167 (dq_suf 1 dt09cL_holds_1 rfl rfl) (by decide +kernel)
theorem dL_holds_20 : decode cL_holds 20 = .ok (.astore 4, 2) := dq_58 (dq_suf 4 dt09cL_holds_1 rfl rfl) rfl
theorem dL_holds_22 : decode cL_holds 22 = .ok (.iconst 1, 1) := dq_4 (dq_suf 6 dt09cL_holds_1 rfl rfl)
theorem dL_holds_23 : decode cL_holds 23 = .ok (.ireturn, 1) := dq_172 (dq_suf 7 dt09cL_holds_1 rfl rfl)
theorem dL_holds_24 : decode cL_holds 24 = .ok (.iconst 0, 1) := dq_3 (dq_suf 8 dt09cL_holds_1 rfl rfl)
theorem dL_holds_25 : decode cL_holds 25 = .ok (.ireturn, 1) := dq_172 (dq_suf 9 dt09cL_holds_1 rfl rfl)
noncomputable def ds09cL_world_1 : List UInt8 := 172 :: 3 :: 172 :: []
noncomputable def ds09cL_world_0 : List UInt8 := 45 :: 3 :: 42 :: 27 :: 28 :: 182 :: 0 :: 18 :: 133 :: 80 :: 167 :: 0 :: 7 :: 58 :: 4 :: 4 :: ds09cL_world_1
theorem dt09cL_world_0 : cL_world.data.toList.drop 0 = ds09cL_world_0 := by decide +kernel
theorem dt09cL_world_1 : cL_world.data.toList.drop 16 = ds09cL_world_1 := dq_suf 16 dt09cL_world_0 rfl rfl
theorem dL_world_0 : decode cL_world 0 = .ok (.aload_n 3, 1) := dq_45 (dq_suf 0 dt09cL_world_0 rfl rfl)
theorem dL_world_1 : decode cL_world 1 = .ok (.iconst 0, 1) := dq_3 (dq_suf 1 dt09cL_world_0 rfl rfl)
theorem dL_world_2 : decode cL_world 2 = .ok (.aload_n 0, 1) := dq_42 (dq_suf 2 dt09cL_world_0 rfl rfl)
theorem dL_world_3 : decode cL_world 3 = .ok (.iload_n 1, 1) := dq_27 (dq_suf 3 dt09cL_world_0 rfl rfl)
theorem dL_world_4 : decode cL_world 4 = .ok (.iload_n 2, 1) := dq_28 (dq_suf 4 dt09cL_world_0 rfl rfl)
theorem dL_world_5 : decode cL_world 5 = .ok (.invokevirtual 18, 3) := dq_182 (dq_suf 5 dt09cL_world_0 rfl rfl) rfl
theorem dL_world_8 : decode cL_world 8 = .ok (.i2l, 1) := dq_133 (dq_suf 8 dt09cL_world_0 rfl rfl)
theorem dL_world_9 : decode cL_world 9 = .ok (.lastore, 1) := dq_80 (dq_suf 9 dt09cL_world_0 rfl rfl)
theorem dL_world_10 : decode cL_world 10 = .ok (.goto 7, 3) := dq_167 (dq_suf 10 dt09cL_world_0 rfl rfl) (by decide +kernel)
theorem dL_world_13 : decode cL_world 13 = .ok (.astore 4, 2) := dq_58 (dq_suf 13 dt09cL_world_0 rfl rfl) rfl
theorem dL_world_15 : decode cL_world 15 = .ok (.iconst 1, 1) := dq_4 (dq_suf 15 dt09cL_world_0 rfl rfl)
theorem dL_world_16 : decode cL_world 16 = .ok (.ireturn, 1) := dq_172 (dq_suf 0 dt09cL_world_1 rfl rfl)
theorem dL_world_17 : decode cL_world 17 = .ok (.iconst 0, 1) := dq_3 (dq_suf 1 dt09cL_world_1 rfl rfl)
theorem dL_world_18 : decode cL_world 18 = .ok (.ireturn, 1) := dq_172 (dq_suf 2 dt09cL_world_1 rfl rfl)
noncomputable def ds09cL_cut_1 : List UInt8 := 172 :: []
noncomputable def ds09cL_cut_0 : List UInt8 := 44 :: 3 :: 42 :: 27 :: 182 :: 0 :: 22 :: 133 :: 80 :: 167 :: 0 :: 6 :: 78 :: 4 :: 172 :: 3 :: ds09cL_cut_1
theorem dt09cL_cut_0 : cL_cut.data.toList.drop 0 = ds09cL_cut_0 := by decide +kernel
theorem dt09cL_cut_1 : cL_cut.data.toList.drop 16 = ds09cL_cut_1 := dq_suf 16 dt09cL_cut_0 rfl rfl
theorem dL_cut_0 : decode cL_cut 0 = .ok (.aload_n 2, 1) := dq_44 (dq_suf 0 dt09cL_cut_0 rfl rfl)
theorem dL_cut_1 : decode cL_cut 1 = .ok (.iconst 0, 1) := dq_3 (dq_suf 1 dt09cL_cut_0 rfl rfl)
theorem dL_cut_2 : decode cL_cut 2 = .ok (.aload_n 0, 1) := dq_42 (dq_suf 2 dt09cL_cut_0 rfl rfl)
theorem dL_cut_3 : decode cL_cut 3 = .ok (.iload_n 1, 1) := dq_27 (dq_suf 3 dt09cL_cut_0 rfl rfl)
theorem dL_cut_4 : decode cL_cut 4 = .ok (.invokevirtual 22, 3) := dq_182 (dq_suf 4 dt09cL_cut_0 rfl rfl) rfl
theorem dL_cut_7 : decode cL_cut 7 = .ok (.i2l, 1) := dq_133 (dq_suf 7 dt09cL_cut_0 rfl rfl)
theorem dL_cut_8 : decode cL_cut 8 = .ok (.lastore, 1) := dq_80 (dq_suf 8 dt09cL_cut_0 rfl rfl)
theorem dL_cut_9 : decode cL_cut 9 = .ok (.goto 6, 3) := dq_167 (dq_suf 9 dt09cL_cut_0 rfl rfl) (by decide +kernel)
theorem dL_cut_12 : decode cL_cut 12 = .ok (.astore_n 3, 1) := dq_78 (dq_suf 12 dt09cL_cut_0 rfl rfl)
theorem dL_cut_13 : decode cL_cut 13 = .ok (.iconst 1, 1) := dq_4 (dq_suf 13 dt09cL_cut_0 rfl rfl)
theorem dL_cut_14 : decode cL_cut 14 = .ok (.ireturn, 1) := dq_172 (dq_suf 14 dt09cL_cut_0 rfl rfl)
theorem dL_cut_15 : decode cL_cut 15 = .ok (.iconst 0, 1) := dq_3 (dq_suf 15 dt09cL_cut_0 rfl rfl)
theorem dL_cut_16 : decode cL_cut 16 = .ok (.ireturn, 1) := dq_172 (dq_suf 0 dt09cL_cut_1 rfl rfl)
noncomputable def ds09cL_law_51 : List UInt8 := 0 :: 3 :: 132 :: 4 :: 6 :: 167 :: 252 :: 226 :: 4 :: 172 :: []
noncomputable def ds09cL_law_50 : List UInt8 := 117 :: 54 :: 5 :: 44 :: 42 :: 21 :: 4 :: 4 :: 96 :: 46 :: 182 :: 0 :: 120 :: 54 :: 6 :: 167 :: ds09cL_law_51
noncomputable def ds09cL_law_49 : List UInt8 := 116 :: 159 :: 0 :: 33 :: 3 :: 172 :: 43 :: 42 :: 21 :: 4 :: 4 :: 96 :: 46 :: 45 :: 184 :: 0 :: ds09cL_law_50
noncomputable def ds09cL_law_48 : List UInt8 := 46 :: 182 :: 0 :: 112 :: 54 :: 6 :: 167 :: 0 :: 44 :: 43 :: 182 :: 0 :: 113 :: 44 :: 182 :: 0 :: ds09cL_law_49
noncomputable def ds09cL_law_47 : List UInt8 := 0 :: 110 :: 54 :: 5 :: 44 :: 42 :: 21 :: 4 :: 4 :: 96 :: 46 :: 42 :: 21 :: 4 :: 5 :: 96 :: ds09cL_law_48
noncomputable def ds09cL_law_46 : List UInt8 := 84 :: 43 :: 42 :: 21 :: 4 :: 4 :: 96 :: 46 :: 42 :: 21 :: 4 :: 5 :: 96 :: 46 :: 45 :: 184 :: ds09cL_law_47
noncomputable def ds09cL_law_45 : List UInt8 := 4 :: 96 :: 46 :: 42 :: 21 :: 4 :: 5 :: 96 :: 46 :: 182 :: 0 :: 109 :: 54 :: 6 :: 167 :: 0 :: ds09cL_law_46
noncomputable def ds09cL_law_44 : List UInt8 := 42 :: 21 :: 4 :: 5 :: 96 :: 46 :: 45 :: 184 :: 0 :: 107 :: 54 :: 5 :: 44 :: 42 :: 21 :: 4 :: ds09cL_law_45
noncomputable def ds09cL_law_43 : List UInt8 := 46 :: 182 :: 0 :: 106 :: 54 :: 6 :: 167 :: 0 :: 124 :: 43 :: 42 :: 21 :: 4 :: 4 :: 96 :: 46 :: ds09cL_law_44
noncomputable def ds09cL_law_42 : List UInt8 := 0 :: 101 :: 54 :: 5 :: 44 :: 42 :: 21 :: 4 :: 4 :: 96 :: 46 :: 42 :: 21 :: 4 :: 5 :: 96 :: ds09cL_law_43
noncomputable def ds09cL_law_41 : List UInt8 := 164 :: 43 :: 42 :: 21 :: 4 :: 4 :: 96 :: 46 :: 42 :: 21 :: 4 :: 5 :: 96 :: 46 :: 45 :: 184 :: ds09cL_law_42
noncomputable def ds09cL_law_40 : List UInt8 := 87 :: 167 :: 0 :: 177 :: 43 :: 182 :: 0 :: 97 :: 87 :: 44 :: 182 :: 0 :: 100 :: 87 :: 167 :: 0 :: ds09cL_law_41
noncomputable def ds09cL_law_39 : List UInt8 := 96 :: 46 :: 182 :: 0 :: 93 :: 87 :: 44 :: 42 :: 21 :: 4 :: 4 :: 96 :: 46 :: 182 :: 0 :: 96 :: ds09cL_law_40
noncomputable def ds09cL_law_38 : List UInt8 := 0 :: 89 :: 87 :: 44 :: 182 :: 0 :: 92 :: 87 :: 167 :: 0 :: 202 :: 43 :: 42 :: 21 :: 4 :: 4 :: ds09cL_law_39
noncomputable def ds09cL_law_37 : List UInt8 := 44 :: 42 :: 21 :: 4 :: 4 :: 96 :: 46 :: 182 :: 0 :: 88 :: 87 :: 167 :: 0 :: 215 :: 43 :: 182 :: ds09cL_law_38
noncomputable def ds09cL_law_36 : List UInt8 := 84 :: 87 :: 167 :: 0 :: 240 :: 43 :: 42 :: 21 :: 4 :: 4 :: 96 :: 46 :: 182 :: 0 :: 85 :: 87 :: ds09cL_law_37
noncomputable def ds09cL_law_35 : List UInt8 := 87 :: 44 :: 42 :: 21 :: 4 :: 4 :: 96 :: 46 :: 42 :: 21 :: 4 :: 5 :: 96 :: 46 :: 182 :: 0 :: ds09cL_law_36
noncomputable def ds09cL_law_34 : List UInt8 := 43 :: 42 :: 21 :: 4 :: 4 :: 96 :: 46 :: 42 :: 21 :: 4 :: 5 :: 96 :: 46 :: 182 :: 0 :: 81 :: ds09cL_law_35
noncomputable def ds09cL_law_33 : List UInt8 := 77 :: 87 :: 44 :: 42 :: 21 :: 4 :: 4 :: 96 :: 46 :: 182 :: 0 :: 80 :: 87 :: 167 :: 1 :: 21 :: ds09cL_law_34
noncomputable def ds09cL_law_32 : List UInt8 := 182 :: 0 :: 76 :: 87 :: 167 :: 1 :: 46 :: 43 :: 42 :: 21 :: 4 :: 4 :: 96 :: 46 :: 182 :: 0 :: ds09cL_law_33
noncomputable def ds09cL_law_31 : List UInt8 := 0 :: 73 :: 87 :: 44 :: 42 :: 21 :: 4 :: 4 :: 96 :: 46 :: 42 :: 21 :: 4 :: 5 :: 96 :: 46 :: ds09cL_law_32
noncomputable def ds09cL_law_30 : List UInt8 := 1 :: 83 :: 43 :: 42 :: 21 :: 4 :: 4 :: 96 :: 46 :: 42 :: 21 :: 4 :: 5 :: 96 :: 46 :: 182 :: ds09cL_law_31
noncomputable def ds09cL_law_29 : List UInt8 := 68 :: 87 :: 167 :: 1 :: 96 :: 43 :: 182 :: 0 :: 69 :: 87 :: 44 :: 182 :: 0 :: 72 :: 87 :: 167 :: ds09cL_law_30
noncomputable def ds09cL_law_28 : List UInt8 := 87 :: 44 :: 42 :: 21 :: 4 :: 4 :: 96 :: 46 :: 42 :: 21 :: 4 :: 5 :: 96 :: 46 :: 182 :: 0 :: ds09cL_law_29
noncomputable def ds09cL_law_27 : List UInt8 := 43 :: 42 :: 21 :: 4 :: 4 :: 96 :: 46 :: 42 :: 21 :: 4 :: 5 :: 96 :: 46 :: 182 :: 0 :: 65 :: ds09cL_law_28
noncomputable def ds09cL_law_26 : List UInt8 := 4 :: 96 :: 46 :: 42 :: 21 :: 4 :: 5 :: 96 :: 46 :: 182 :: 0 :: 64 :: 87 :: 167 :: 1 :: 133 :: ds09cL_law_27
noncomputable def ds09cL_law_25 : List UInt8 := 96 :: 46 :: 42 :: 21 :: 4 :: 5 :: 96 :: 46 :: 182 :: 0 :: 61 :: 87 :: 44 :: 42 :: 21 :: 4 :: ds09cL_law_26
noncomputable def ds09cL_law_24 : List UInt8 := 4 :: 4 :: 96 :: 46 :: 182 :: 0 :: 60 :: 87 :: 167 :: 1 :: 170 :: 43 :: 42 :: 21 :: 4 :: 4 :: ds09cL_law_25
noncomputable def ds09cL_law_23 : List UInt8 := 1 :: 195 :: 43 :: 42 :: 21 :: 4 :: 4 :: 96 :: 46 :: 182 :: 0 :: 57 :: 87 :: 44 :: 42 :: 21 :: ds09cL_law_24
noncomputable def ds09cL_law_22 : List UInt8 := 5 :: 96 :: 46 :: 153 :: 0 :: 7 :: 4 :: 167 :: 0 :: 4 :: 3 :: 182 :: 0 :: 56 :: 87 :: 167 :: ds09cL_law_23
noncomputable def ds09cL_law_21 : List UInt8 := 4 :: 3 :: 182 :: 0 :: 52 :: 87 :: 44 :: 42 :: 21 :: 4 :: 4 :: 96 :: 46 :: 42 :: 21 :: 4 :: ds09cL_law_22
noncomputable def ds09cL_law_20 : List UInt8 := 4 :: 4 :: 96 :: 46 :: 42 :: 21 :: 4 :: 5 :: 96 :: 46 :: 153 :: 0 :: 7 :: 4 :: 167 :: 0 :: ds09cL_law_21
noncomputable def ds09cL_law_19 : List UInt8 := 42 :: 21 :: 4 :: 4 :: 96 :: 46 :: 182 :: 0 :: 51 :: 87 :: 167 :: 1 :: 248 :: 43 :: 42 :: 21 :: ds09cL_law_20
noncomputable def ds09cL_law_18 : List UInt8 := 87 :: 167 :: 2 :: 17 :: 43 :: 42 :: 21 :: 4 :: 4 :: 96 :: 46 :: 182 :: 0 :: 48 :: 87 :: 44 :: ds09cL_law_19
noncomputable def ds09cL_law_17 : List UInt8 := 44 :: 42 :: 21 :: 4 :: 4 :: 96 :: 46 :: 42 :: 21 :: 4 :: 5 :: 96 :: 46 :: 182 :: 0 :: 47 :: ds09cL_law_18
noncomputable def ds09cL_law_16 : List UInt8 := 42 :: 21 :: 4 :: 4 :: 96 :: 46 :: 42 :: 21 :: 4 :: 5 :: 96 :: 46 :: 182 :: 0 :: 44 :: 87 :: ds09cL_law_17
noncomputable def ds09cL_law_15 : List UInt8 := 2 :: 67 :: 43 :: 182 :: 0 :: 39 :: 87 :: 44 :: 182 :: 0 :: 43 :: 87 :: 167 :: 2 :: 54 :: 43 :: ds09cL_law_16
noncomputable def ds09cL_law_14 : List UInt8 := 182 :: 0 :: 35 :: 87 :: 44 :: 42 :: 21 :: 4 :: 4 :: 96 :: 46 :: 182 :: 0 :: 38 :: 87 :: 167 :: ds09cL_law_15
noncomputable def ds09cL_law_13 : List UInt8 := 96 :: 46 :: 182 :: 0 :: 34 :: 87 :: 167 :: 2 :: 92 :: 43 :: 42 :: 21 :: 4 :: 4 :: 96 :: 46 :: ds09cL_law_14
noncomputable def ds09cL_law_12 : List UInt8 := 42 :: 21 :: 4 :: 6 :: 96 :: 46 :: 42 :: 21 :: 4 :: 7 :: 96 :: 46 :: 42 :: 21 :: 4 :: 8 :: ds09cL_law_13
noncomputable def ds09cL_law_11 : List UInt8 := 0 :: 30 :: 87 :: 44 :: 42 :: 21 :: 4 :: 4 :: 96 :: 46 :: 42 :: 21 :: 4 :: 5 :: 96 :: 46 :: ds09cL_law_12
noncomputable def ds09cL_law_10 : List UInt8 := 6 :: 96 :: 46 :: 42 :: 21 :: 4 :: 7 :: 96 :: 46 :: 42 :: 21 :: 4 :: 8 :: 96 :: 46 :: 182 :: ds09cL_law_11
noncomputable def ds09cL_law_9 : List UInt8 := 43 :: 42 :: 21 :: 4 :: 4 :: 96 :: 46 :: 42 :: 21 :: 4 :: 5 :: 96 :: 46 :: 42 :: 21 :: 4 :: ds09cL_law_10
noncomputable def ds09cL_law_8 : List UInt8 := 0 :: 0 :: 2 :: 145 :: 0 :: 0 :: 2 :: 185 :: 0 :: 0 :: 2 :: 225 :: 0 :: 0 :: 2 :: 238 :: ds09cL_law_9
noncomputable def ds09cL_law_7 : List UInt8 := 0 :: 0 :: 2 :: 54 :: 0 :: 0 :: 2 :: 67 :: 0 :: 0 :: 2 :: 92 :: 0 :: 0 :: 2 :: 105 :: ds09cL_law_8
noncomputable def ds09cL_law_6 : List UInt8 := 0 :: 0 :: 1 :: 186 :: 0 :: 0 :: 1 :: 223 :: 0 :: 0 :: 1 :: 248 :: 0 :: 0 :: 2 :: 29 :: ds09cL_law_7
noncomputable def ds09cL_law_5 : List UInt8 := 0 :: 0 :: 1 :: 74 :: 0 :: 0 :: 1 :: 99 :: 0 :: 0 :: 1 :: 136 :: 0 :: 0 :: 1 :: 173 :: ds09cL_law_6
noncomputable def ds09cL_law_4 : List UInt8 := 0 :: 0 :: 0 :: 202 :: 0 :: 0 :: 0 :: 215 :: 0 :: 0 :: 0 :: 252 :: 0 :: 0 :: 1 :: 21 :: ds09cL_law_5
noncomputable def ds09cL_law_3 : List UInt8 := 0 :: 0 :: 0 :: 0 :: 0 :: 0 :: 0 :: 21 :: 0 :: 0 :: 0 :: 104 :: 0 :: 0 :: 0 :: 177 :: ds09cL_law_4
noncomputable def ds09cL_law_2 : List UInt8 := 26 :: 42 :: 21 :: 4 :: 46 :: 16 :: 31 :: 126 :: 170 :: 0 :: 0 :: 0 :: 0 :: 0 :: 3 :: 10 :: ds09cL_law_3
noncomputable def ds09cL_law_1 : List UInt8 := 4 :: 188 :: 11 :: 78 :: 3 :: 54 :: 4 :: 21 :: 4 :: 42 :: 190 :: 16 :: 6 :: 100 :: 163 :: 3 :: ds09cL_law_2
noncomputable def ds09cL_law_0 : List UInt8 := 187 :: 0 :: 8 :: 89 :: 183 :: 0 :: 26 :: 76 :: 187 :: 0 :: 27 :: 89 :: 183 :: 0 :: 29 :: 77 :: ds09cL_law_1
theorem dt09cL_law_0 : cL_law.data.toList.drop 0 = ds09cL_law_0 := by decide +kernel
theorem dt09cL_law_1 : cL_law.data.toList.drop 16 = ds09cL_law_1 := dq_suf 16 dt09cL_law_0 rfl rfl
theorem dt09cL_law_2 : cL_law.data.toList.drop 32 = ds09cL_law_2 := dq_suf 16 dt09cL_law_1 rfl rfl
theorem dt09cL_law_3 : cL_law.data.toList.drop 48 = ds09cL_law_3 := dq_suf 16 dt09cL_law_2 rfl rfl
theorem dt09cL_law_4 : cL_law.data.toList.drop 64 = ds09cL_law_4 := dq_suf 16 dt09cL_law_3 rfl rfl
theorem dt09cL_law_5 : cL_law.data.toList.drop 80 = ds09cL_law_5 := dq_suf 16 dt09cL_law_4 rfl rfl
theorem dt09cL_law_6 : cL_law.data.toList.drop 96 = ds09cL_law_6 := dq_suf 16 dt09cL_law_5 rfl rfl
theorem dt09cL_law_7 : cL_law.data.toList.drop 112 = ds09cL_law_7 := dq_suf 16 dt09cL_law_6 rfl rfl
theorem dt09cL_law_8 : cL_law.data.toList.drop 128 = ds09cL_law_8 := dq_suf 16 dt09cL_law_7 rfl rfl
theorem dt09cL_law_9 : cL_law.data.toList.drop 144 = ds09cL_law_9 := dq_suf 16 dt09cL_law_8 rfl rfl
theorem dt09cL_law_10 : cL_law.data.toList.drop 160 = ds09cL_law_10 := dq_suf 16 dt09cL_law_9 rfl rfl
theorem dt09cL_law_11 : cL_law.data.toList.drop 176 = ds09cL_law_11 := dq_suf 16 dt09cL_law_10 rfl rfl
theorem dt09cL_law_12 : cL_law.data.toList.drop 192 = ds09cL_law_12 := dq_suf 16 dt09cL_law_11 rfl rfl
theorem dt09cL_law_13 : cL_law.data.toList.drop 208 = ds09cL_law_13 := dq_suf 16 dt09cL_law_12 rfl rfl
theorem dt09cL_law_14 : cL_law.data.toList.drop 224 = ds09cL_law_14 := dq_suf 16 dt09cL_law_13 rfl rfl
theorem dt09cL_law_15 : cL_law.data.toList.drop 240 = ds09cL_law_15 := dq_suf 16 dt09cL_law_14 rfl rfl
theorem dt09cL_law_16 : cL_law.data.toList.drop 256 = ds09cL_law_16 := dq_suf 16 dt09cL_law_15 rfl rfl
theorem dt09cL_law_17 : cL_law.data.toList.drop 272 = ds09cL_law_17 := dq_suf 16 dt09cL_law_16 rfl rfl
theorem dt09cL_law_18 : cL_law.data.toList.drop 288 = ds09cL_law_18 := dq_suf 16 dt09cL_law_17 rfl rfl
theorem dt09cL_law_19 : cL_law.data.toList.drop 304 = ds09cL_law_19 := dq_suf 16 dt09cL_law_18 rfl rfl
theorem dt09cL_law_20 : cL_law.data.toList.drop 320 = ds09cL_law_20 := dq_suf 16 dt09cL_law_19 rfl rfl
theorem dt09cL_law_21 : cL_law.data.toList.drop 336 = ds09cL_law_21 := dq_suf 16 dt09cL_law_20 rfl rfl
theorem dt09cL_law_22 : cL_law.data.toList.drop 352 = ds09cL_law_22 := dq_suf 16 dt09cL_law_21 rfl rfl
theorem dt09cL_law_23 : cL_law.data.toList.drop 368 = ds09cL_law_23 := dq_suf 16 dt09cL_law_22 rfl rfl
theorem dt09cL_law_24 : cL_law.data.toList.drop 384 = ds09cL_law_24 := dq_suf 16 dt09cL_law_23 rfl rfl
theorem dt09cL_law_25 : cL_law.data.toList.drop 400 = ds09cL_law_25 := dq_suf 16 dt09cL_law_24 rfl rfl
theorem dt09cL_law_26 : cL_law.data.toList.drop 416 = ds09cL_law_26 := dq_suf 16 dt09cL_law_25 rfl rfl
theorem dt09cL_law_27 : cL_law.data.toList.drop 432 = ds09cL_law_27 := dq_suf 16 dt09cL_law_26 rfl rfl
theorem dt09cL_law_28 : cL_law.data.toList.drop 448 = ds09cL_law_28 := dq_suf 16 dt09cL_law_27 rfl rfl
theorem dt09cL_law_29 : cL_law.data.toList.drop 464 = ds09cL_law_29 := dq_suf 16 dt09cL_law_28 rfl rfl
theorem dt09cL_law_30 : cL_law.data.toList.drop 480 = ds09cL_law_30 := dq_suf 16 dt09cL_law_29 rfl rfl
theorem dt09cL_law_31 : cL_law.data.toList.drop 496 = ds09cL_law_31 := dq_suf 16 dt09cL_law_30 rfl rfl
theorem dt09cL_law_32 : cL_law.data.toList.drop 512 = ds09cL_law_32 := dq_suf 16 dt09cL_law_31 rfl rfl
theorem dt09cL_law_33 : cL_law.data.toList.drop 528 = ds09cL_law_33 := dq_suf 16 dt09cL_law_32 rfl rfl
theorem dt09cL_law_34 : cL_law.data.toList.drop 544 = ds09cL_law_34 := dq_suf 16 dt09cL_law_33 rfl rfl
theorem dt09cL_law_35 : cL_law.data.toList.drop 560 = ds09cL_law_35 := dq_suf 16 dt09cL_law_34 rfl rfl
theorem dt09cL_law_36 : cL_law.data.toList.drop 576 = ds09cL_law_36 := dq_suf 16 dt09cL_law_35 rfl rfl
theorem dt09cL_law_37 : cL_law.data.toList.drop 592 = ds09cL_law_37 := dq_suf 16 dt09cL_law_36 rfl rfl
theorem dt09cL_law_38 : cL_law.data.toList.drop 608 = ds09cL_law_38 := dq_suf 16 dt09cL_law_37 rfl rfl
theorem dt09cL_law_39 : cL_law.data.toList.drop 624 = ds09cL_law_39 := dq_suf 16 dt09cL_law_38 rfl rfl
theorem dt09cL_law_40 : cL_law.data.toList.drop 640 = ds09cL_law_40 := dq_suf 16 dt09cL_law_39 rfl rfl
theorem dt09cL_law_41 : cL_law.data.toList.drop 656 = ds09cL_law_41 := dq_suf 16 dt09cL_law_40 rfl rfl
theorem dt09cL_law_42 : cL_law.data.toList.drop 672 = ds09cL_law_42 := dq_suf 16 dt09cL_law_41 rfl rfl
theorem dt09cL_law_43 : cL_law.data.toList.drop 688 = ds09cL_law_43 := dq_suf 16 dt09cL_law_42 rfl rfl
theorem dt09cL_law_44 : cL_law.data.toList.drop 704 = ds09cL_law_44 := dq_suf 16 dt09cL_law_43 rfl rfl
theorem dt09cL_law_45 : cL_law.data.toList.drop 720 = ds09cL_law_45 := dq_suf 16 dt09cL_law_44 rfl rfl
theorem dt09cL_law_46 : cL_law.data.toList.drop 736 = ds09cL_law_46 := dq_suf 16 dt09cL_law_45 rfl rfl
theorem dt09cL_law_47 : cL_law.data.toList.drop 752 = ds09cL_law_47 := dq_suf 16 dt09cL_law_46 rfl rfl
theorem dt09cL_law_48 : cL_law.data.toList.drop 768 = ds09cL_law_48 := dq_suf 16 dt09cL_law_47 rfl rfl
theorem dt09cL_law_49 : cL_law.data.toList.drop 784 = ds09cL_law_49 := dq_suf 16 dt09cL_law_48 rfl rfl
theorem dt09cL_law_50 : cL_law.data.toList.drop 800 = ds09cL_law_50 := dq_suf 16 dt09cL_law_49 rfl rfl
theorem dt09cL_law_51 : cL_law.data.toList.drop 816 = ds09cL_law_51 := dq_suf 16 dt09cL_law_50 rfl rfl
theorem dL_law_0 : decode cL_law 0 = .ok (.new 8, 3) := dq_187 (dq_suf 0 dt09cL_law_0 rfl rfl) rfl
theorem dL_law_3 : decode cL_law 3 = .ok (.dup, 1) := dq_89 (dq_suf 3 dt09cL_law_0 rfl rfl)
theorem dL_law_4 : decode cL_law 4 = .ok (.invokespecial 26, 3) := dq_183 (dq_suf 4 dt09cL_law_0 rfl rfl) rfl
theorem dL_law_7 : decode cL_law 7 = .ok (.astore_n 1, 1) := dq_76 (dq_suf 7 dt09cL_law_0 rfl rfl)
theorem dL_law_8 : decode cL_law 8 = .ok (.new 27, 3) := dq_187 (dq_suf 8 dt09cL_law_0 rfl rfl) rfl
theorem dL_law_11 : decode cL_law 11 = .ok (.dup, 1) := dq_89 (dq_suf 11 dt09cL_law_0 rfl rfl)
theorem dL_law_12 : decode cL_law 12 = .ok (.invokespecial 29, 3) := dq_183 (dq_suf 12 dt09cL_law_0 rfl rfl) rfl
theorem dL_law_15 : decode cL_law 15 = .ok (.astore_n 2, 1) := dq_77 (dq_suf 15 dt09cL_law_0 rfl rfl)
theorem dL_law_16 : decode cL_law 16 = .ok (.iconst 1, 1) := dq_4 (dq_suf 0 dt09cL_law_1 rfl rfl)
theorem dL_law_17 : decode cL_law 17 = .ok (.newarray .long, 2) := by decide +kernel
theorem dL_law_19 : decode cL_law 19 = .ok (.astore_n 3, 1) := dq_78 (dq_suf 3 dt09cL_law_1 rfl rfl)
theorem dL_law_20 : decode cL_law 20 = .ok (.iconst 0, 1) := dq_3 (dq_suf 4 dt09cL_law_1 rfl rfl)
theorem dL_law_21 : decode cL_law 21 = .ok (.istore 4, 2) := dq_54 (dq_suf 5 dt09cL_law_1 rfl rfl) rfl
theorem dL_law_23 : decode cL_law 23 = .ok (.iload 4, 2) := dq_21 (dq_suf 7 dt09cL_law_1 rfl rfl) rfl
theorem dL_law_25 : decode cL_law 25 = .ok (.aload_n 0, 1) := dq_42 (dq_suf 9 dt09cL_law_1 rfl rfl)
theorem dL_law_26 : decode cL_law 26 = .ok (.arraylength, 1) := dq_190 (dq_suf 10 dt09cL_law_1 rfl rfl)
theorem dL_law_27 : decode cL_law 27 = .ok (.bipush 6, 2) := dq_16 (dq_suf 11 dt09cL_law_1 rfl rfl) (by decide +kernel)
theorem dL_law_29 : decode cL_law 29 = .ok (.isub, 1) := dq_100 (dq_suf 13 dt09cL_law_1 rfl rfl)
theorem dL_law_30 : decode cL_law 30 = .ok (.if_icmp .gt 794, 3) := dq_163 (dq_suf 14 dt09cL_law_1 rfl rfl) (by decide +kernel)
theorem dL_law_33 : decode cL_law 33 = .ok (.aload_n 0, 1) := dq_42 (dq_suf 1 dt09cL_law_2 rfl rfl)
theorem dL_law_34 : decode cL_law 34 = .ok (.iload 4, 2) := dq_21 (dq_suf 2 dt09cL_law_2 rfl rfl) rfl
theorem dL_law_36 : decode cL_law 36 = .ok (.iaload, 1) := dq_46 (dq_suf 4 dt09cL_law_2 rfl rfl)
theorem dL_law_37 : decode cL_law 37 = .ok (.bipush 31, 2) := dq_16 (dq_suf 5 dt09cL_law_2 rfl rfl) (by decide +kernel)
theorem dL_law_39 : decode cL_law 39 = .ok (.iand, 1) := dq_126 (dq_suf 7 dt09cL_law_2 rfl rfl)
theorem dL_law_40 : decode cL_law 40 = .ok (.tableswitch 778 0 21 #[104, 177, 202, 215, 252, 277, 330, 355, 392, 429, 442, 479, 504, 541, 566, 579, 604, 617, 657, 697, 737, 750], 104) := by decide +kernel
theorem dL_law_144 : decode cL_law 144 = .ok (.aload_n 1, 1) := dq_43 (dq_suf 0 dt09cL_law_9 rfl rfl)
theorem dL_law_145 : decode cL_law 145 = .ok (.aload_n 0, 1) := dq_42 (dq_suf 1 dt09cL_law_9 rfl rfl)
theorem dL_law_146 : decode cL_law 146 = .ok (.iload 4, 2) := dq_21 (dq_suf 2 dt09cL_law_9 rfl rfl) rfl
theorem dL_law_148 : decode cL_law 148 = .ok (.iconst 1, 1) := dq_4 (dq_suf 4 dt09cL_law_9 rfl rfl)
theorem dL_law_149 : decode cL_law 149 = .ok (.iadd, 1) := dq_96 (dq_suf 5 dt09cL_law_9 rfl rfl)
theorem dL_law_150 : decode cL_law 150 = .ok (.iaload, 1) := dq_46 (dq_suf 6 dt09cL_law_9 rfl rfl)
theorem dL_law_151 : decode cL_law 151 = .ok (.aload_n 0, 1) := dq_42 (dq_suf 7 dt09cL_law_9 rfl rfl)
theorem dL_law_152 : decode cL_law 152 = .ok (.iload 4, 2) := dq_21 (dq_suf 8 dt09cL_law_9 rfl rfl) rfl
theorem dL_law_154 : decode cL_law 154 = .ok (.iconst 2, 1) := dq_5 (dq_suf 10 dt09cL_law_9 rfl rfl)
theorem dL_law_155 : decode cL_law 155 = .ok (.iadd, 1) := dq_96 (dq_suf 11 dt09cL_law_9 rfl rfl)
theorem dL_law_156 : decode cL_law 156 = .ok (.iaload, 1) := dq_46 (dq_suf 12 dt09cL_law_9 rfl rfl)
theorem dL_law_157 : decode cL_law 157 = .ok (.aload_n 0, 1) := dq_42 (dq_suf 13 dt09cL_law_9 rfl rfl)
theorem dL_law_158 : decode cL_law 158 = .ok (.iload 4, 2) := dq_21 (dq_suf 14 dt09cL_law_9 rfl rfl) rfl
theorem dL_law_160 : decode cL_law 160 = .ok (.iconst 3, 1) := dq_6 (dq_suf 0 dt09cL_law_10 rfl rfl)
theorem dL_law_161 : decode cL_law 161 = .ok (.iadd, 1) := dq_96 (dq_suf 1 dt09cL_law_10 rfl rfl)
theorem dL_law_162 : decode cL_law 162 = .ok (.iaload, 1) := dq_46 (dq_suf 2 dt09cL_law_10 rfl rfl)
theorem dL_law_163 : decode cL_law 163 = .ok (.aload_n 0, 1) := dq_42 (dq_suf 3 dt09cL_law_10 rfl rfl)
theorem dL_law_164 : decode cL_law 164 = .ok (.iload 4, 2) := dq_21 (dq_suf 4 dt09cL_law_10 rfl rfl) rfl
theorem dL_law_166 : decode cL_law 166 = .ok (.iconst 4, 1) := dq_7 (dq_suf 6 dt09cL_law_10 rfl rfl)
theorem dL_law_167 : decode cL_law 167 = .ok (.iadd, 1) := dq_96 (dq_suf 7 dt09cL_law_10 rfl rfl)
theorem dL_law_168 : decode cL_law 168 = .ok (.iaload, 1) := dq_46 (dq_suf 8 dt09cL_law_10 rfl rfl)
theorem dL_law_169 : decode cL_law 169 = .ok (.aload_n 0, 1) := dq_42 (dq_suf 9 dt09cL_law_10 rfl rfl)
theorem dL_law_170 : decode cL_law 170 = .ok (.iload 4, 2) := dq_21 (dq_suf 10 dt09cL_law_10 rfl rfl) rfl
theorem dL_law_172 : decode cL_law 172 = .ok (.iconst 5, 1) := dq_8 (dq_suf 12 dt09cL_law_10 rfl rfl)
theorem dL_law_173 : decode cL_law 173 = .ok (.iadd, 1) := dq_96 (dq_suf 13 dt09cL_law_10 rfl rfl)
theorem dL_law_174 : decode cL_law 174 = .ok (.iaload, 1) := dq_46 (dq_suf 14 dt09cL_law_10 rfl rfl)
theorem dL_law_175 : decode cL_law 175 = .ok (.invokevirtual 30, 3) := dq_182 (dq_suf 15 dt09cL_law_10 rfl rfl) rfl
theorem dL_law_178 : decode cL_law 178 = .ok (.pop, 1) := dq_87 (dq_suf 2 dt09cL_law_11 rfl rfl)
theorem dL_law_179 : decode cL_law 179 = .ok (.aload_n 2, 1) := dq_44 (dq_suf 3 dt09cL_law_11 rfl rfl)
theorem dL_law_180 : decode cL_law 180 = .ok (.aload_n 0, 1) := dq_42 (dq_suf 4 dt09cL_law_11 rfl rfl)
theorem dL_law_181 : decode cL_law 181 = .ok (.iload 4, 2) := dq_21 (dq_suf 5 dt09cL_law_11 rfl rfl) rfl
theorem dL_law_183 : decode cL_law 183 = .ok (.iconst 1, 1) := dq_4 (dq_suf 7 dt09cL_law_11 rfl rfl)
theorem dL_law_184 : decode cL_law 184 = .ok (.iadd, 1) := dq_96 (dq_suf 8 dt09cL_law_11 rfl rfl)
theorem dL_law_185 : decode cL_law 185 = .ok (.iaload, 1) := dq_46 (dq_suf 9 dt09cL_law_11 rfl rfl)
theorem dL_law_186 : decode cL_law 186 = .ok (.aload_n 0, 1) := dq_42 (dq_suf 10 dt09cL_law_11 rfl rfl)
theorem dL_law_187 : decode cL_law 187 = .ok (.iload 4, 2) := dq_21 (dq_suf 11 dt09cL_law_11 rfl rfl) rfl
theorem dL_law_189 : decode cL_law 189 = .ok (.iconst 2, 1) := dq_5 (dq_suf 13 dt09cL_law_11 rfl rfl)
theorem dL_law_190 : decode cL_law 190 = .ok (.iadd, 1) := dq_96 (dq_suf 14 dt09cL_law_11 rfl rfl)
theorem dL_law_191 : decode cL_law 191 = .ok (.iaload, 1) := dq_46 (dq_suf 15 dt09cL_law_11 rfl rfl)
theorem dL_law_192 : decode cL_law 192 = .ok (.aload_n 0, 1) := dq_42 (dq_suf 0 dt09cL_law_12 rfl rfl)
theorem dL_law_193 : decode cL_law 193 = .ok (.iload 4, 2) := dq_21 (dq_suf 1 dt09cL_law_12 rfl rfl) rfl
theorem dL_law_195 : decode cL_law 195 = .ok (.iconst 3, 1) := dq_6 (dq_suf 3 dt09cL_law_12 rfl rfl)
theorem dL_law_196 : decode cL_law 196 = .ok (.iadd, 1) := dq_96 (dq_suf 4 dt09cL_law_12 rfl rfl)
theorem dL_law_197 : decode cL_law 197 = .ok (.iaload, 1) := dq_46 (dq_suf 5 dt09cL_law_12 rfl rfl)
theorem dL_law_198 : decode cL_law 198 = .ok (.aload_n 0, 1) := dq_42 (dq_suf 6 dt09cL_law_12 rfl rfl)
theorem dL_law_199 : decode cL_law 199 = .ok (.iload 4, 2) := dq_21 (dq_suf 7 dt09cL_law_12 rfl rfl) rfl
theorem dL_law_201 : decode cL_law 201 = .ok (.iconst 4, 1) := dq_7 (dq_suf 9 dt09cL_law_12 rfl rfl)
theorem dL_law_202 : decode cL_law 202 = .ok (.iadd, 1) := dq_96 (dq_suf 10 dt09cL_law_12 rfl rfl)
theorem dL_law_203 : decode cL_law 203 = .ok (.iaload, 1) := dq_46 (dq_suf 11 dt09cL_law_12 rfl rfl)
theorem dL_law_204 : decode cL_law 204 = .ok (.aload_n 0, 1) := dq_42 (dq_suf 12 dt09cL_law_12 rfl rfl)
theorem dL_law_205 : decode cL_law 205 = .ok (.iload 4, 2) := dq_21 (dq_suf 13 dt09cL_law_12 rfl rfl) rfl
theorem dL_law_207 : decode cL_law 207 = .ok (.iconst 5, 1) := dq_8 (dq_suf 15 dt09cL_law_12 rfl rfl)
theorem dL_law_208 : decode cL_law 208 = .ok (.iadd, 1) := dq_96 (dq_suf 0 dt09cL_law_13 rfl rfl)
theorem dL_law_209 : decode cL_law 209 = .ok (.iaload, 1) := dq_46 (dq_suf 1 dt09cL_law_13 rfl rfl)
theorem dL_law_210 : decode cL_law 210 = .ok (.invokevirtual 34, 3) := dq_182 (dq_suf 2 dt09cL_law_13 rfl rfl) rfl
theorem dL_law_213 : decode cL_law 213 = .ok (.pop, 1) := dq_87 (dq_suf 5 dt09cL_law_13 rfl rfl)
theorem dL_law_214 : decode cL_law 214 = .ok (.goto 604, 3) := dq_167 (dq_suf 6 dt09cL_law_13 rfl rfl) (by decide +kernel)
theorem dL_law_217 : decode cL_law 217 = .ok (.aload_n 1, 1) := dq_43 (dq_suf 9 dt09cL_law_13 rfl rfl)
theorem dL_law_218 : decode cL_law 218 = .ok (.aload_n 0, 1) := dq_42 (dq_suf 10 dt09cL_law_13 rfl rfl)
theorem dL_law_219 : decode cL_law 219 = .ok (.iload 4, 2) := dq_21 (dq_suf 11 dt09cL_law_13 rfl rfl) rfl
theorem dL_law_221 : decode cL_law 221 = .ok (.iconst 1, 1) := dq_4 (dq_suf 13 dt09cL_law_13 rfl rfl)
theorem dL_law_222 : decode cL_law 222 = .ok (.iadd, 1) := dq_96 (dq_suf 14 dt09cL_law_13 rfl rfl)
theorem dL_law_223 : decode cL_law 223 = .ok (.iaload, 1) := dq_46 (dq_suf 15 dt09cL_law_13 rfl rfl)
theorem dL_law_224 : decode cL_law 224 = .ok (.invokevirtual 35, 3) := dq_182 (dq_suf 0 dt09cL_law_14 rfl rfl) rfl
theorem dL_law_227 : decode cL_law 227 = .ok (.pop, 1) := dq_87 (dq_suf 3 dt09cL_law_14 rfl rfl)
theorem dL_law_228 : decode cL_law 228 = .ok (.aload_n 2, 1) := dq_44 (dq_suf 4 dt09cL_law_14 rfl rfl)
theorem dL_law_229 : decode cL_law 229 = .ok (.aload_n 0, 1) := dq_42 (dq_suf 5 dt09cL_law_14 rfl rfl)
theorem dL_law_230 : decode cL_law 230 = .ok (.iload 4, 2) := dq_21 (dq_suf 6 dt09cL_law_14 rfl rfl) rfl
theorem dL_law_232 : decode cL_law 232 = .ok (.iconst 1, 1) := dq_4 (dq_suf 8 dt09cL_law_14 rfl rfl)
theorem dL_law_233 : decode cL_law 233 = .ok (.iadd, 1) := dq_96 (dq_suf 9 dt09cL_law_14 rfl rfl)
theorem dL_law_234 : decode cL_law 234 = .ok (.iaload, 1) := dq_46 (dq_suf 10 dt09cL_law_14 rfl rfl)
theorem dL_law_235 : decode cL_law 235 = .ok (.invokevirtual 38, 3) := dq_182 (dq_suf 11 dt09cL_law_14 rfl rfl) rfl
theorem dL_law_238 : decode cL_law 238 = .ok (.pop, 1) := dq_87 (dq_suf 14 dt09cL_law_14 rfl rfl)
theorem dL_law_239 : decode cL_law 239 = .ok (.goto 579, 3) := dq_167 (dq_suf 15 dt09cL_law_14 rfl rfl) (by decide +kernel)
theorem dL_law_242 : decode cL_law 242 = .ok (.aload_n 1, 1) := dq_43 (dq_suf 2 dt09cL_law_15 rfl rfl)
theorem dL_law_243 : decode cL_law 243 = .ok (.invokevirtual 39, 3) := dq_182 (dq_suf 3 dt09cL_law_15 rfl rfl) rfl
theorem dL_law_246 : decode cL_law 246 = .ok (.pop, 1) := dq_87 (dq_suf 6 dt09cL_law_15 rfl rfl)
theorem dL_law_247 : decode cL_law 247 = .ok (.aload_n 2, 1) := dq_44 (dq_suf 7 dt09cL_law_15 rfl rfl)
theorem dL_law_248 : decode cL_law 248 = .ok (.invokevirtual 43, 3) := dq_182 (dq_suf 8 dt09cL_law_15 rfl rfl) rfl
theorem dL_law_251 : decode cL_law 251 = .ok (.pop, 1) := dq_87 (dq_suf 11 dt09cL_law_15 rfl rfl)
theorem dL_law_252 : decode cL_law 252 = .ok (.goto 566, 3) := dq_167 (dq_suf 12 dt09cL_law_15 rfl rfl) (by decide +kernel)
theorem dL_law_255 : decode cL_law 255 = .ok (.aload_n 1, 1) := dq_43 (dq_suf 15 dt09cL_law_15 rfl rfl)
theorem dL_law_256 : decode cL_law 256 = .ok (.aload_n 0, 1) := dq_42 (dq_suf 0 dt09cL_law_16 rfl rfl)
theorem dL_law_257 : decode cL_law 257 = .ok (.iload 4, 2) := dq_21 (dq_suf 1 dt09cL_law_16 rfl rfl) rfl
theorem dL_law_259 : decode cL_law 259 = .ok (.iconst 1, 1) := dq_4 (dq_suf 3 dt09cL_law_16 rfl rfl)
theorem dL_law_260 : decode cL_law 260 = .ok (.iadd, 1) := dq_96 (dq_suf 4 dt09cL_law_16 rfl rfl)
theorem dL_law_261 : decode cL_law 261 = .ok (.iaload, 1) := dq_46 (dq_suf 5 dt09cL_law_16 rfl rfl)
theorem dL_law_262 : decode cL_law 262 = .ok (.aload_n 0, 1) := dq_42 (dq_suf 6 dt09cL_law_16 rfl rfl)
theorem dL_law_263 : decode cL_law 263 = .ok (.iload 4, 2) := dq_21 (dq_suf 7 dt09cL_law_16 rfl rfl) rfl
theorem dL_law_265 : decode cL_law 265 = .ok (.iconst 2, 1) := dq_5 (dq_suf 9 dt09cL_law_16 rfl rfl)
theorem dL_law_266 : decode cL_law 266 = .ok (.iadd, 1) := dq_96 (dq_suf 10 dt09cL_law_16 rfl rfl)
theorem dL_law_267 : decode cL_law 267 = .ok (.iaload, 1) := dq_46 (dq_suf 11 dt09cL_law_16 rfl rfl)
theorem dL_law_268 : decode cL_law 268 = .ok (.invokevirtual 44, 3) := dq_182 (dq_suf 12 dt09cL_law_16 rfl rfl) rfl
theorem dL_law_271 : decode cL_law 271 = .ok (.pop, 1) := dq_87 (dq_suf 15 dt09cL_law_16 rfl rfl)
theorem dL_law_272 : decode cL_law 272 = .ok (.aload_n 2, 1) := dq_44 (dq_suf 0 dt09cL_law_17 rfl rfl)
theorem dL_law_273 : decode cL_law 273 = .ok (.aload_n 0, 1) := dq_42 (dq_suf 1 dt09cL_law_17 rfl rfl)
theorem dL_law_274 : decode cL_law 274 = .ok (.iload 4, 2) := dq_21 (dq_suf 2 dt09cL_law_17 rfl rfl) rfl
theorem dL_law_276 : decode cL_law 276 = .ok (.iconst 1, 1) := dq_4 (dq_suf 4 dt09cL_law_17 rfl rfl)
theorem dL_law_277 : decode cL_law 277 = .ok (.iadd, 1) := dq_96 (dq_suf 5 dt09cL_law_17 rfl rfl)
theorem dL_law_278 : decode cL_law 278 = .ok (.iaload, 1) := dq_46 (dq_suf 6 dt09cL_law_17 rfl rfl)
theorem dL_law_279 : decode cL_law 279 = .ok (.aload_n 0, 1) := dq_42 (dq_suf 7 dt09cL_law_17 rfl rfl)
theorem dL_law_280 : decode cL_law 280 = .ok (.iload 4, 2) := dq_21 (dq_suf 8 dt09cL_law_17 rfl rfl) rfl
theorem dL_law_282 : decode cL_law 282 = .ok (.iconst 2, 1) := dq_5 (dq_suf 10 dt09cL_law_17 rfl rfl)
theorem dL_law_283 : decode cL_law 283 = .ok (.iadd, 1) := dq_96 (dq_suf 11 dt09cL_law_17 rfl rfl)
theorem dL_law_284 : decode cL_law 284 = .ok (.iaload, 1) := dq_46 (dq_suf 12 dt09cL_law_17 rfl rfl)
theorem dL_law_285 : decode cL_law 285 = .ok (.invokevirtual 47, 3) := dq_182 (dq_suf 13 dt09cL_law_17 rfl rfl) rfl
theorem dL_law_288 : decode cL_law 288 = .ok (.pop, 1) := dq_87 (dq_suf 0 dt09cL_law_18 rfl rfl)
theorem dL_law_289 : decode cL_law 289 = .ok (.goto 529, 3) := dq_167 (dq_suf 1 dt09cL_law_18 rfl rfl) (by decide +kernel)
theorem dL_law_292 : decode cL_law 292 = .ok (.aload_n 1, 1) := dq_43 (dq_suf 4 dt09cL_law_18 rfl rfl)
theorem dL_law_293 : decode cL_law 293 = .ok (.aload_n 0, 1) := dq_42 (dq_suf 5 dt09cL_law_18 rfl rfl)
theorem dL_law_294 : decode cL_law 294 = .ok (.iload 4, 2) := dq_21 (dq_suf 6 dt09cL_law_18 rfl rfl) rfl
theorem dL_law_296 : decode cL_law 296 = .ok (.iconst 1, 1) := dq_4 (dq_suf 8 dt09cL_law_18 rfl rfl)
theorem dL_law_297 : decode cL_law 297 = .ok (.iadd, 1) := dq_96 (dq_suf 9 dt09cL_law_18 rfl rfl)
theorem dL_law_298 : decode cL_law 298 = .ok (.iaload, 1) := dq_46 (dq_suf 10 dt09cL_law_18 rfl rfl)
theorem dL_law_299 : decode cL_law 299 = .ok (.invokevirtual 48, 3) := dq_182 (dq_suf 11 dt09cL_law_18 rfl rfl) rfl
theorem dL_law_302 : decode cL_law 302 = .ok (.pop, 1) := dq_87 (dq_suf 14 dt09cL_law_18 rfl rfl)
theorem dL_law_303 : decode cL_law 303 = .ok (.aload_n 2, 1) := dq_44 (dq_suf 15 dt09cL_law_18 rfl rfl)
theorem dL_law_304 : decode cL_law 304 = .ok (.aload_n 0, 1) := dq_42 (dq_suf 0 dt09cL_law_19 rfl rfl)
theorem dL_law_305 : decode cL_law 305 = .ok (.iload 4, 2) := dq_21 (dq_suf 1 dt09cL_law_19 rfl rfl) rfl
theorem dL_law_307 : decode cL_law 307 = .ok (.iconst 1, 1) := dq_4 (dq_suf 3 dt09cL_law_19 rfl rfl)
theorem dL_law_308 : decode cL_law 308 = .ok (.iadd, 1) := dq_96 (dq_suf 4 dt09cL_law_19 rfl rfl)
theorem dL_law_309 : decode cL_law 309 = .ok (.iaload, 1) := dq_46 (dq_suf 5 dt09cL_law_19 rfl rfl)
theorem dL_law_310 : decode cL_law 310 = .ok (.invokevirtual 51, 3) := dq_182 (dq_suf 6 dt09cL_law_19 rfl rfl) rfl
theorem dL_law_313 : decode cL_law 313 = .ok (.pop, 1) := dq_87 (dq_suf 9 dt09cL_law_19 rfl rfl)
theorem dL_law_314 : decode cL_law 314 = .ok (.goto 504, 3) := dq_167 (dq_suf 10 dt09cL_law_19 rfl rfl) (by decide +kernel)
theorem dL_law_317 : decode cL_law 317 = .ok (.aload_n 1, 1) := dq_43 (dq_suf 13 dt09cL_law_19 rfl rfl)
theorem dL_law_318 : decode cL_law 318 = .ok (.aload_n 0, 1) := dq_42 (dq_suf 14 dt09cL_law_19 rfl rfl)
theorem dL_law_319 : decode cL_law 319 = .ok (.iload 4, 2) := dq_21 (dq_suf 15 dt09cL_law_19 rfl rfl) rfl
theorem dL_law_321 : decode cL_law 321 = .ok (.iconst 1, 1) := dq_4 (dq_suf 1 dt09cL_law_20 rfl rfl)
theorem dL_law_322 : decode cL_law 322 = .ok (.iadd, 1) := dq_96 (dq_suf 2 dt09cL_law_20 rfl rfl)
theorem dL_law_323 : decode cL_law 323 = .ok (.iaload, 1) := dq_46 (dq_suf 3 dt09cL_law_20 rfl rfl)
theorem dL_law_324 : decode cL_law 324 = .ok (.aload_n 0, 1) := dq_42 (dq_suf 4 dt09cL_law_20 rfl rfl)
theorem dL_law_325 : decode cL_law 325 = .ok (.iload 4, 2) := dq_21 (dq_suf 5 dt09cL_law_20 rfl rfl) rfl
theorem dL_law_327 : decode cL_law 327 = .ok (.iconst 2, 1) := dq_5 (dq_suf 7 dt09cL_law_20 rfl rfl)
theorem dL_law_328 : decode cL_law 328 = .ok (.iadd, 1) := dq_96 (dq_suf 8 dt09cL_law_20 rfl rfl)
theorem dL_law_329 : decode cL_law 329 = .ok (.iaload, 1) := dq_46 (dq_suf 9 dt09cL_law_20 rfl rfl)
theorem dL_law_330 : decode cL_law 330 = .ok (.ifCond .eq 7, 3) := dq_153 (dq_suf 10 dt09cL_law_20 rfl rfl) (by decide +kernel)
theorem dL_law_333 : decode cL_law 333 = .ok (.iconst 1, 1) := dq_4 (dq_suf 13 dt09cL_law_20 rfl rfl)
theorem dL_law_334 : decode cL_law 334 = .ok (.goto 4, 3) := dq_167 (dq_suf 14 dt09cL_law_20 rfl rfl) (by decide +kernel)
theorem dL_law_337 : decode cL_law 337 = .ok (.iconst 0, 1) := dq_3 (dq_suf 1 dt09cL_law_21 rfl rfl)
theorem dL_law_338 : decode cL_law 338 = .ok (.invokevirtual 52, 3) := dq_182 (dq_suf 2 dt09cL_law_21 rfl rfl) rfl
theorem dL_law_341 : decode cL_law 341 = .ok (.pop, 1) := dq_87 (dq_suf 5 dt09cL_law_21 rfl rfl)
theorem dL_law_342 : decode cL_law 342 = .ok (.aload_n 2, 1) := dq_44 (dq_suf 6 dt09cL_law_21 rfl rfl)
theorem dL_law_343 : decode cL_law 343 = .ok (.aload_n 0, 1) := dq_42 (dq_suf 7 dt09cL_law_21 rfl rfl)
theorem dL_law_344 : decode cL_law 344 = .ok (.iload 4, 2) := dq_21 (dq_suf 8 dt09cL_law_21 rfl rfl) rfl
theorem dL_law_346 : decode cL_law 346 = .ok (.iconst 1, 1) := dq_4 (dq_suf 10 dt09cL_law_21 rfl rfl)
theorem dL_law_347 : decode cL_law 347 = .ok (.iadd, 1) := dq_96 (dq_suf 11 dt09cL_law_21 rfl rfl)
theorem dL_law_348 : decode cL_law 348 = .ok (.iaload, 1) := dq_46 (dq_suf 12 dt09cL_law_21 rfl rfl)
theorem dL_law_349 : decode cL_law 349 = .ok (.aload_n 0, 1) := dq_42 (dq_suf 13 dt09cL_law_21 rfl rfl)
theorem dL_law_350 : decode cL_law 350 = .ok (.iload 4, 2) := dq_21 (dq_suf 14 dt09cL_law_21 rfl rfl) rfl
theorem dL_law_352 : decode cL_law 352 = .ok (.iconst 2, 1) := dq_5 (dq_suf 0 dt09cL_law_22 rfl rfl)
theorem dL_law_353 : decode cL_law 353 = .ok (.iadd, 1) := dq_96 (dq_suf 1 dt09cL_law_22 rfl rfl)
theorem dL_law_354 : decode cL_law 354 = .ok (.iaload, 1) := dq_46 (dq_suf 2 dt09cL_law_22 rfl rfl)
theorem dL_law_355 : decode cL_law 355 = .ok (.ifCond .eq 7, 3) := dq_153 (dq_suf 3 dt09cL_law_22 rfl rfl) (by decide +kernel)
theorem dL_law_358 : decode cL_law 358 = .ok (.iconst 1, 1) := dq_4 (dq_suf 6 dt09cL_law_22 rfl rfl)
theorem dL_law_359 : decode cL_law 359 = .ok (.goto 4, 3) := dq_167 (dq_suf 7 dt09cL_law_22 rfl rfl) (by decide +kernel)
theorem dL_law_362 : decode cL_law 362 = .ok (.iconst 0, 1) := dq_3 (dq_suf 10 dt09cL_law_22 rfl rfl)
theorem dL_law_363 : decode cL_law 363 = .ok (.invokevirtual 56, 3) := dq_182 (dq_suf 11 dt09cL_law_22 rfl rfl) rfl
theorem dL_law_366 : decode cL_law 366 = .ok (.pop, 1) := dq_87 (dq_suf 14 dt09cL_law_22 rfl rfl)
theorem dL_law_367 : decode cL_law 367 = .ok (.goto 451, 3) := dq_167 (dq_suf 15 dt09cL_law_22 rfl rfl) (by decide +kernel)
theorem dL_law_370 : decode cL_law 370 = .ok (.aload_n 1, 1) := dq_43 (dq_suf 2 dt09cL_law_23 rfl rfl)
theorem dL_law_371 : decode cL_law 371 = .ok (.aload_n 0, 1) := dq_42 (dq_suf 3 dt09cL_law_23 rfl rfl)
theorem dL_law_372 : decode cL_law 372 = .ok (.iload 4, 2) := dq_21 (dq_suf 4 dt09cL_law_23 rfl rfl) rfl
theorem dL_law_374 : decode cL_law 374 = .ok (.iconst 1, 1) := dq_4 (dq_suf 6 dt09cL_law_23 rfl rfl)
theorem dL_law_375 : decode cL_law 375 = .ok (.iadd, 1) := dq_96 (dq_suf 7 dt09cL_law_23 rfl rfl)
theorem dL_law_376 : decode cL_law 376 = .ok (.iaload, 1) := dq_46 (dq_suf 8 dt09cL_law_23 rfl rfl)
theorem dL_law_377 : decode cL_law 377 = .ok (.invokevirtual 57, 3) := dq_182 (dq_suf 9 dt09cL_law_23 rfl rfl) rfl
theorem dL_law_380 : decode cL_law 380 = .ok (.pop, 1) := dq_87 (dq_suf 12 dt09cL_law_23 rfl rfl)
theorem dL_law_381 : decode cL_law 381 = .ok (.aload_n 2, 1) := dq_44 (dq_suf 13 dt09cL_law_23 rfl rfl)
theorem dL_law_382 : decode cL_law 382 = .ok (.aload_n 0, 1) := dq_42 (dq_suf 14 dt09cL_law_23 rfl rfl)
theorem dL_law_383 : decode cL_law 383 = .ok (.iload 4, 2) := dq_21 (dq_suf 15 dt09cL_law_23 rfl rfl) rfl
theorem dL_law_385 : decode cL_law 385 = .ok (.iconst 1, 1) := dq_4 (dq_suf 1 dt09cL_law_24 rfl rfl)
theorem dL_law_386 : decode cL_law 386 = .ok (.iadd, 1) := dq_96 (dq_suf 2 dt09cL_law_24 rfl rfl)
theorem dL_law_387 : decode cL_law 387 = .ok (.iaload, 1) := dq_46 (dq_suf 3 dt09cL_law_24 rfl rfl)
theorem dL_law_388 : decode cL_law 388 = .ok (.invokevirtual 60, 3) := dq_182 (dq_suf 4 dt09cL_law_24 rfl rfl) rfl
theorem dL_law_391 : decode cL_law 391 = .ok (.pop, 1) := dq_87 (dq_suf 7 dt09cL_law_24 rfl rfl)
theorem dL_law_392 : decode cL_law 392 = .ok (.goto 426, 3) := dq_167 (dq_suf 8 dt09cL_law_24 rfl rfl) (by decide +kernel)
theorem dL_law_395 : decode cL_law 395 = .ok (.aload_n 1, 1) := dq_43 (dq_suf 11 dt09cL_law_24 rfl rfl)
theorem dL_law_396 : decode cL_law 396 = .ok (.aload_n 0, 1) := dq_42 (dq_suf 12 dt09cL_law_24 rfl rfl)
theorem dL_law_397 : decode cL_law 397 = .ok (.iload 4, 2) := dq_21 (dq_suf 13 dt09cL_law_24 rfl rfl) rfl
theorem dL_law_399 : decode cL_law 399 = .ok (.iconst 1, 1) := dq_4 (dq_suf 15 dt09cL_law_24 rfl rfl)
theorem dL_law_400 : decode cL_law 400 = .ok (.iadd, 1) := dq_96 (dq_suf 0 dt09cL_law_25 rfl rfl)
theorem dL_law_401 : decode cL_law 401 = .ok (.iaload, 1) := dq_46 (dq_suf 1 dt09cL_law_25 rfl rfl)
theorem dL_law_402 : decode cL_law 402 = .ok (.aload_n 0, 1) := dq_42 (dq_suf 2 dt09cL_law_25 rfl rfl)
theorem dL_law_403 : decode cL_law 403 = .ok (.iload 4, 2) := dq_21 (dq_suf 3 dt09cL_law_25 rfl rfl) rfl
theorem dL_law_405 : decode cL_law 405 = .ok (.iconst 2, 1) := dq_5 (dq_suf 5 dt09cL_law_25 rfl rfl)
theorem dL_law_406 : decode cL_law 406 = .ok (.iadd, 1) := dq_96 (dq_suf 6 dt09cL_law_25 rfl rfl)
theorem dL_law_407 : decode cL_law 407 = .ok (.iaload, 1) := dq_46 (dq_suf 7 dt09cL_law_25 rfl rfl)
theorem dL_law_408 : decode cL_law 408 = .ok (.invokevirtual 61, 3) := dq_182 (dq_suf 8 dt09cL_law_25 rfl rfl) rfl
theorem dL_law_411 : decode cL_law 411 = .ok (.pop, 1) := dq_87 (dq_suf 11 dt09cL_law_25 rfl rfl)
theorem dL_law_412 : decode cL_law 412 = .ok (.aload_n 2, 1) := dq_44 (dq_suf 12 dt09cL_law_25 rfl rfl)
theorem dL_law_413 : decode cL_law 413 = .ok (.aload_n 0, 1) := dq_42 (dq_suf 13 dt09cL_law_25 rfl rfl)
theorem dL_law_414 : decode cL_law 414 = .ok (.iload 4, 2) := dq_21 (dq_suf 14 dt09cL_law_25 rfl rfl) rfl
theorem dL_law_416 : decode cL_law 416 = .ok (.iconst 1, 1) := dq_4 (dq_suf 0 dt09cL_law_26 rfl rfl)
theorem dL_law_417 : decode cL_law 417 = .ok (.iadd, 1) := dq_96 (dq_suf 1 dt09cL_law_26 rfl rfl)
theorem dL_law_418 : decode cL_law 418 = .ok (.iaload, 1) := dq_46 (dq_suf 2 dt09cL_law_26 rfl rfl)
theorem dL_law_419 : decode cL_law 419 = .ok (.aload_n 0, 1) := dq_42 (dq_suf 3 dt09cL_law_26 rfl rfl)
theorem dL_law_420 : decode cL_law 420 = .ok (.iload 4, 2) := dq_21 (dq_suf 4 dt09cL_law_26 rfl rfl) rfl
theorem dL_law_422 : decode cL_law 422 = .ok (.iconst 2, 1) := dq_5 (dq_suf 6 dt09cL_law_26 rfl rfl)
theorem dL_law_423 : decode cL_law 423 = .ok (.iadd, 1) := dq_96 (dq_suf 7 dt09cL_law_26 rfl rfl)
theorem dL_law_424 : decode cL_law 424 = .ok (.iaload, 1) := dq_46 (dq_suf 8 dt09cL_law_26 rfl rfl)
theorem dL_law_425 : decode cL_law 425 = .ok (.invokevirtual 64, 3) := dq_182 (dq_suf 9 dt09cL_law_26 rfl rfl) rfl
theorem dL_law_428 : decode cL_law 428 = .ok (.pop, 1) := dq_87 (dq_suf 12 dt09cL_law_26 rfl rfl)
theorem dL_law_429 : decode cL_law 429 = .ok (.goto 389, 3) := dq_167 (dq_suf 13 dt09cL_law_26 rfl rfl) (by decide +kernel)
theorem dL_law_432 : decode cL_law 432 = .ok (.aload_n 1, 1) := dq_43 (dq_suf 0 dt09cL_law_27 rfl rfl)
theorem dL_law_433 : decode cL_law 433 = .ok (.aload_n 0, 1) := dq_42 (dq_suf 1 dt09cL_law_27 rfl rfl)
theorem dL_law_434 : decode cL_law 434 = .ok (.iload 4, 2) := dq_21 (dq_suf 2 dt09cL_law_27 rfl rfl) rfl
theorem dL_law_436 : decode cL_law 436 = .ok (.iconst 1, 1) := dq_4 (dq_suf 4 dt09cL_law_27 rfl rfl)
theorem dL_law_437 : decode cL_law 437 = .ok (.iadd, 1) := dq_96 (dq_suf 5 dt09cL_law_27 rfl rfl)
theorem dL_law_438 : decode cL_law 438 = .ok (.iaload, 1) := dq_46 (dq_suf 6 dt09cL_law_27 rfl rfl)
theorem dL_law_439 : decode cL_law 439 = .ok (.aload_n 0, 1) := dq_42 (dq_suf 7 dt09cL_law_27 rfl rfl)
theorem dL_law_440 : decode cL_law 440 = .ok (.iload 4, 2) := dq_21 (dq_suf 8 dt09cL_law_27 rfl rfl) rfl
theorem dL_law_442 : decode cL_law 442 = .ok (.iconst 2, 1) := dq_5 (dq_suf 10 dt09cL_law_27 rfl rfl)
theorem dL_law_443 : decode cL_law 443 = .ok (.iadd, 1) := dq_96 (dq_suf 11 dt09cL_law_27 rfl rfl)
theorem dL_law_444 : decode cL_law 444 = .ok (.iaload, 1) := dq_46 (dq_suf 12 dt09cL_law_27 rfl rfl)
theorem dL_law_445 : decode cL_law 445 = .ok (.invokevirtual 65, 3) := dq_182 (dq_suf 13 dt09cL_law_27 rfl rfl) rfl
theorem dL_law_448 : decode cL_law 448 = .ok (.pop, 1) := dq_87 (dq_suf 0 dt09cL_law_28 rfl rfl)
theorem dL_law_449 : decode cL_law 449 = .ok (.aload_n 2, 1) := dq_44 (dq_suf 1 dt09cL_law_28 rfl rfl)
theorem dL_law_450 : decode cL_law 450 = .ok (.aload_n 0, 1) := dq_42 (dq_suf 2 dt09cL_law_28 rfl rfl)
theorem dL_law_451 : decode cL_law 451 = .ok (.iload 4, 2) := dq_21 (dq_suf 3 dt09cL_law_28 rfl rfl) rfl
theorem dL_law_453 : decode cL_law 453 = .ok (.iconst 1, 1) := dq_4 (dq_suf 5 dt09cL_law_28 rfl rfl)
theorem dL_law_454 : decode cL_law 454 = .ok (.iadd, 1) := dq_96 (dq_suf 6 dt09cL_law_28 rfl rfl)
theorem dL_law_455 : decode cL_law 455 = .ok (.iaload, 1) := dq_46 (dq_suf 7 dt09cL_law_28 rfl rfl)
theorem dL_law_456 : decode cL_law 456 = .ok (.aload_n 0, 1) := dq_42 (dq_suf 8 dt09cL_law_28 rfl rfl)
theorem dL_law_457 : decode cL_law 457 = .ok (.iload 4, 2) := dq_21 (dq_suf 9 dt09cL_law_28 rfl rfl) rfl
theorem dL_law_459 : decode cL_law 459 = .ok (.iconst 2, 1) := dq_5 (dq_suf 11 dt09cL_law_28 rfl rfl)
theorem dL_law_460 : decode cL_law 460 = .ok (.iadd, 1) := dq_96 (dq_suf 12 dt09cL_law_28 rfl rfl)
theorem dL_law_461 : decode cL_law 461 = .ok (.iaload, 1) := dq_46 (dq_suf 13 dt09cL_law_28 rfl rfl)
theorem dL_law_462 : decode cL_law 462 = .ok (.invokevirtual 68, 3) := dq_182 (dq_suf 14 dt09cL_law_28 rfl rfl) rfl
theorem dL_law_465 : decode cL_law 465 = .ok (.pop, 1) := dq_87 (dq_suf 1 dt09cL_law_29 rfl rfl)
theorem dL_law_466 : decode cL_law 466 = .ok (.goto 352, 3) := dq_167 (dq_suf 2 dt09cL_law_29 rfl rfl) (by decide +kernel)
theorem dL_law_469 : decode cL_law 469 = .ok (.aload_n 1, 1) := dq_43 (dq_suf 5 dt09cL_law_29 rfl rfl)
theorem dL_law_470 : decode cL_law 470 = .ok (.invokevirtual 69, 3) := dq_182 (dq_suf 6 dt09cL_law_29 rfl rfl) rfl
theorem dL_law_473 : decode cL_law 473 = .ok (.pop, 1) := dq_87 (dq_suf 9 dt09cL_law_29 rfl rfl)
theorem dL_law_474 : decode cL_law 474 = .ok (.aload_n 2, 1) := dq_44 (dq_suf 10 dt09cL_law_29 rfl rfl)
theorem dL_law_475 : decode cL_law 475 = .ok (.invokevirtual 72, 3) := dq_182 (dq_suf 11 dt09cL_law_29 rfl rfl) rfl
theorem dL_law_478 : decode cL_law 478 = .ok (.pop, 1) := dq_87 (dq_suf 14 dt09cL_law_29 rfl rfl)
theorem dL_law_479 : decode cL_law 479 = .ok (.goto 339, 3) := dq_167 (dq_suf 15 dt09cL_law_29 rfl rfl) (by decide +kernel)
theorem dL_law_482 : decode cL_law 482 = .ok (.aload_n 1, 1) := dq_43 (dq_suf 2 dt09cL_law_30 rfl rfl)
theorem dL_law_483 : decode cL_law 483 = .ok (.aload_n 0, 1) := dq_42 (dq_suf 3 dt09cL_law_30 rfl rfl)
theorem dL_law_484 : decode cL_law 484 = .ok (.iload 4, 2) := dq_21 (dq_suf 4 dt09cL_law_30 rfl rfl) rfl
theorem dL_law_486 : decode cL_law 486 = .ok (.iconst 1, 1) := dq_4 (dq_suf 6 dt09cL_law_30 rfl rfl)
theorem dL_law_487 : decode cL_law 487 = .ok (.iadd, 1) := dq_96 (dq_suf 7 dt09cL_law_30 rfl rfl)
theorem dL_law_488 : decode cL_law 488 = .ok (.iaload, 1) := dq_46 (dq_suf 8 dt09cL_law_30 rfl rfl)
theorem dL_law_489 : decode cL_law 489 = .ok (.aload_n 0, 1) := dq_42 (dq_suf 9 dt09cL_law_30 rfl rfl)
theorem dL_law_490 : decode cL_law 490 = .ok (.iload 4, 2) := dq_21 (dq_suf 10 dt09cL_law_30 rfl rfl) rfl
theorem dL_law_492 : decode cL_law 492 = .ok (.iconst 2, 1) := dq_5 (dq_suf 12 dt09cL_law_30 rfl rfl)
theorem dL_law_493 : decode cL_law 493 = .ok (.iadd, 1) := dq_96 (dq_suf 13 dt09cL_law_30 rfl rfl)
theorem dL_law_494 : decode cL_law 494 = .ok (.iaload, 1) := dq_46 (dq_suf 14 dt09cL_law_30 rfl rfl)
theorem dL_law_495 : decode cL_law 495 = .ok (.invokevirtual 73, 3) := dq_182 (dq_suf 15 dt09cL_law_30 rfl rfl) rfl
theorem dL_law_498 : decode cL_law 498 = .ok (.pop, 1) := dq_87 (dq_suf 2 dt09cL_law_31 rfl rfl)
theorem dL_law_499 : decode cL_law 499 = .ok (.aload_n 2, 1) := dq_44 (dq_suf 3 dt09cL_law_31 rfl rfl)
theorem dL_law_500 : decode cL_law 500 = .ok (.aload_n 0, 1) := dq_42 (dq_suf 4 dt09cL_law_31 rfl rfl)
theorem dL_law_501 : decode cL_law 501 = .ok (.iload 4, 2) := dq_21 (dq_suf 5 dt09cL_law_31 rfl rfl) rfl
theorem dL_law_503 : decode cL_law 503 = .ok (.iconst 1, 1) := dq_4 (dq_suf 7 dt09cL_law_31 rfl rfl)
theorem dL_law_504 : decode cL_law 504 = .ok (.iadd, 1) := dq_96 (dq_suf 8 dt09cL_law_31 rfl rfl)
theorem dL_law_505 : decode cL_law 505 = .ok (.iaload, 1) := dq_46 (dq_suf 9 dt09cL_law_31 rfl rfl)
theorem dL_law_506 : decode cL_law 506 = .ok (.aload_n 0, 1) := dq_42 (dq_suf 10 dt09cL_law_31 rfl rfl)
theorem dL_law_507 : decode cL_law 507 = .ok (.iload 4, 2) := dq_21 (dq_suf 11 dt09cL_law_31 rfl rfl) rfl
theorem dL_law_509 : decode cL_law 509 = .ok (.iconst 2, 1) := dq_5 (dq_suf 13 dt09cL_law_31 rfl rfl)
theorem dL_law_510 : decode cL_law 510 = .ok (.iadd, 1) := dq_96 (dq_suf 14 dt09cL_law_31 rfl rfl)
theorem dL_law_511 : decode cL_law 511 = .ok (.iaload, 1) := dq_46 (dq_suf 15 dt09cL_law_31 rfl rfl)
theorem dL_law_512 : decode cL_law 512 = .ok (.invokevirtual 76, 3) := dq_182 (dq_suf 0 dt09cL_law_32 rfl rfl) rfl
theorem dL_law_515 : decode cL_law 515 = .ok (.pop, 1) := dq_87 (dq_suf 3 dt09cL_law_32 rfl rfl)
theorem dL_law_516 : decode cL_law 516 = .ok (.goto 302, 3) := dq_167 (dq_suf 4 dt09cL_law_32 rfl rfl) (by decide +kernel)
theorem dL_law_519 : decode cL_law 519 = .ok (.aload_n 1, 1) := dq_43 (dq_suf 7 dt09cL_law_32 rfl rfl)
theorem dL_law_520 : decode cL_law 520 = .ok (.aload_n 0, 1) := dq_42 (dq_suf 8 dt09cL_law_32 rfl rfl)
theorem dL_law_521 : decode cL_law 521 = .ok (.iload 4, 2) := dq_21 (dq_suf 9 dt09cL_law_32 rfl rfl) rfl
theorem dL_law_523 : decode cL_law 523 = .ok (.iconst 1, 1) := dq_4 (dq_suf 11 dt09cL_law_32 rfl rfl)
theorem dL_law_524 : decode cL_law 524 = .ok (.iadd, 1) := dq_96 (dq_suf 12 dt09cL_law_32 rfl rfl)
theorem dL_law_525 : decode cL_law 525 = .ok (.iaload, 1) := dq_46 (dq_suf 13 dt09cL_law_32 rfl rfl)
theorem dL_law_526 : decode cL_law 526 = .ok (.invokevirtual 77, 3) := dq_182 (dq_suf 14 dt09cL_law_32 rfl rfl) rfl
theorem dL_law_529 : decode cL_law 529 = .ok (.pop, 1) := dq_87 (dq_suf 1 dt09cL_law_33 rfl rfl)
theorem dL_law_530 : decode cL_law 530 = .ok (.aload_n 2, 1) := dq_44 (dq_suf 2 dt09cL_law_33 rfl rfl)
theorem dL_law_531 : decode cL_law 531 = .ok (.aload_n 0, 1) := dq_42 (dq_suf 3 dt09cL_law_33 rfl rfl)
theorem dL_law_532 : decode cL_law 532 = .ok (.iload 4, 2) := dq_21 (dq_suf 4 dt09cL_law_33 rfl rfl) rfl
theorem dL_law_534 : decode cL_law 534 = .ok (.iconst 1, 1) := dq_4 (dq_suf 6 dt09cL_law_33 rfl rfl)
theorem dL_law_535 : decode cL_law 535 = .ok (.iadd, 1) := dq_96 (dq_suf 7 dt09cL_law_33 rfl rfl)
theorem dL_law_536 : decode cL_law 536 = .ok (.iaload, 1) := dq_46 (dq_suf 8 dt09cL_law_33 rfl rfl)
theorem dL_law_537 : decode cL_law 537 = .ok (.invokevirtual 80, 3) := dq_182 (dq_suf 9 dt09cL_law_33 rfl rfl) rfl
theorem dL_law_540 : decode cL_law 540 = .ok (.pop, 1) := dq_87 (dq_suf 12 dt09cL_law_33 rfl rfl)
theorem dL_law_541 : decode cL_law 541 = .ok (.goto 277, 3) := dq_167 (dq_suf 13 dt09cL_law_33 rfl rfl) (by decide +kernel)
theorem dL_law_544 : decode cL_law 544 = .ok (.aload_n 1, 1) := dq_43 (dq_suf 0 dt09cL_law_34 rfl rfl)
theorem dL_law_545 : decode cL_law 545 = .ok (.aload_n 0, 1) := dq_42 (dq_suf 1 dt09cL_law_34 rfl rfl)
theorem dL_law_546 : decode cL_law 546 = .ok (.iload 4, 2) := dq_21 (dq_suf 2 dt09cL_law_34 rfl rfl) rfl
theorem dL_law_548 : decode cL_law 548 = .ok (.iconst 1, 1) := dq_4 (dq_suf 4 dt09cL_law_34 rfl rfl)
theorem dL_law_549 : decode cL_law 549 = .ok (.iadd, 1) := dq_96 (dq_suf 5 dt09cL_law_34 rfl rfl)
theorem dL_law_550 : decode cL_law 550 = .ok (.iaload, 1) := dq_46 (dq_suf 6 dt09cL_law_34 rfl rfl)
theorem dL_law_551 : decode cL_law 551 = .ok (.aload_n 0, 1) := dq_42 (dq_suf 7 dt09cL_law_34 rfl rfl)
theorem dL_law_552 : decode cL_law 552 = .ok (.iload 4, 2) := dq_21 (dq_suf 8 dt09cL_law_34 rfl rfl) rfl
theorem dL_law_554 : decode cL_law 554 = .ok (.iconst 2, 1) := dq_5 (dq_suf 10 dt09cL_law_34 rfl rfl)
theorem dL_law_555 : decode cL_law 555 = .ok (.iadd, 1) := dq_96 (dq_suf 11 dt09cL_law_34 rfl rfl)
theorem dL_law_556 : decode cL_law 556 = .ok (.iaload, 1) := dq_46 (dq_suf 12 dt09cL_law_34 rfl rfl)
theorem dL_law_557 : decode cL_law 557 = .ok (.invokevirtual 81, 3) := dq_182 (dq_suf 13 dt09cL_law_34 rfl rfl) rfl
theorem dL_law_560 : decode cL_law 560 = .ok (.pop, 1) := dq_87 (dq_suf 0 dt09cL_law_35 rfl rfl)
theorem dL_law_561 : decode cL_law 561 = .ok (.aload_n 2, 1) := dq_44 (dq_suf 1 dt09cL_law_35 rfl rfl)
theorem dL_law_562 : decode cL_law 562 = .ok (.aload_n 0, 1) := dq_42 (dq_suf 2 dt09cL_law_35 rfl rfl)
theorem dL_law_563 : decode cL_law 563 = .ok (.iload 4, 2) := dq_21 (dq_suf 3 dt09cL_law_35 rfl rfl) rfl
theorem dL_law_565 : decode cL_law 565 = .ok (.iconst 1, 1) := dq_4 (dq_suf 5 dt09cL_law_35 rfl rfl)
theorem dL_law_566 : decode cL_law 566 = .ok (.iadd, 1) := dq_96 (dq_suf 6 dt09cL_law_35 rfl rfl)
theorem dL_law_567 : decode cL_law 567 = .ok (.iaload, 1) := dq_46 (dq_suf 7 dt09cL_law_35 rfl rfl)
theorem dL_law_568 : decode cL_law 568 = .ok (.aload_n 0, 1) := dq_42 (dq_suf 8 dt09cL_law_35 rfl rfl)
theorem dL_law_569 : decode cL_law 569 = .ok (.iload 4, 2) := dq_21 (dq_suf 9 dt09cL_law_35 rfl rfl) rfl
theorem dL_law_571 : decode cL_law 571 = .ok (.iconst 2, 1) := dq_5 (dq_suf 11 dt09cL_law_35 rfl rfl)
theorem dL_law_572 : decode cL_law 572 = .ok (.iadd, 1) := dq_96 (dq_suf 12 dt09cL_law_35 rfl rfl)
theorem dL_law_573 : decode cL_law 573 = .ok (.iaload, 1) := dq_46 (dq_suf 13 dt09cL_law_35 rfl rfl)
theorem dL_law_574 : decode cL_law 574 = .ok (.invokevirtual 84, 3) := dq_182 (dq_suf 14 dt09cL_law_35 rfl rfl) rfl
theorem dL_law_577 : decode cL_law 577 = .ok (.pop, 1) := dq_87 (dq_suf 1 dt09cL_law_36 rfl rfl)
theorem dL_law_578 : decode cL_law 578 = .ok (.goto 240, 3) := dq_167 (dq_suf 2 dt09cL_law_36 rfl rfl) (by decide +kernel)
theorem dL_law_581 : decode cL_law 581 = .ok (.aload_n 1, 1) := dq_43 (dq_suf 5 dt09cL_law_36 rfl rfl)
theorem dL_law_582 : decode cL_law 582 = .ok (.aload_n 0, 1) := dq_42 (dq_suf 6 dt09cL_law_36 rfl rfl)
theorem dL_law_583 : decode cL_law 583 = .ok (.iload 4, 2) := dq_21 (dq_suf 7 dt09cL_law_36 rfl rfl) rfl
theorem dL_law_585 : decode cL_law 585 = .ok (.iconst 1, 1) := dq_4 (dq_suf 9 dt09cL_law_36 rfl rfl)
theorem dL_law_586 : decode cL_law 586 = .ok (.iadd, 1) := dq_96 (dq_suf 10 dt09cL_law_36 rfl rfl)
theorem dL_law_587 : decode cL_law 587 = .ok (.iaload, 1) := dq_46 (dq_suf 11 dt09cL_law_36 rfl rfl)
theorem dL_law_588 : decode cL_law 588 = .ok (.invokevirtual 85, 3) := dq_182 (dq_suf 12 dt09cL_law_36 rfl rfl) rfl
theorem dL_law_591 : decode cL_law 591 = .ok (.pop, 1) := dq_87 (dq_suf 15 dt09cL_law_36 rfl rfl)
theorem dL_law_592 : decode cL_law 592 = .ok (.aload_n 2, 1) := dq_44 (dq_suf 0 dt09cL_law_37 rfl rfl)
theorem dL_law_593 : decode cL_law 593 = .ok (.aload_n 0, 1) := dq_42 (dq_suf 1 dt09cL_law_37 rfl rfl)
theorem dL_law_594 : decode cL_law 594 = .ok (.iload 4, 2) := dq_21 (dq_suf 2 dt09cL_law_37 rfl rfl) rfl
theorem dL_law_596 : decode cL_law 596 = .ok (.iconst 1, 1) := dq_4 (dq_suf 4 dt09cL_law_37 rfl rfl)
theorem dL_law_597 : decode cL_law 597 = .ok (.iadd, 1) := dq_96 (dq_suf 5 dt09cL_law_37 rfl rfl)
theorem dL_law_598 : decode cL_law 598 = .ok (.iaload, 1) := dq_46 (dq_suf 6 dt09cL_law_37 rfl rfl)
theorem dL_law_599 : decode cL_law 599 = .ok (.invokevirtual 88, 3) := dq_182 (dq_suf 7 dt09cL_law_37 rfl rfl) rfl
theorem dL_law_602 : decode cL_law 602 = .ok (.pop, 1) := dq_87 (dq_suf 10 dt09cL_law_37 rfl rfl)
theorem dL_law_603 : decode cL_law 603 = .ok (.goto 215, 3) := dq_167 (dq_suf 11 dt09cL_law_37 rfl rfl) (by decide +kernel)
theorem dL_law_606 : decode cL_law 606 = .ok (.aload_n 1, 1) := dq_43 (dq_suf 14 dt09cL_law_37 rfl rfl)
theorem dL_law_607 : decode cL_law 607 = .ok (.invokevirtual 89, 3) := dq_182 (dq_suf 15 dt09cL_law_37 rfl rfl) rfl
theorem dL_law_610 : decode cL_law 610 = .ok (.pop, 1) := dq_87 (dq_suf 2 dt09cL_law_38 rfl rfl)
theorem dL_law_611 : decode cL_law 611 = .ok (.aload_n 2, 1) := dq_44 (dq_suf 3 dt09cL_law_38 rfl rfl)
theorem dL_law_612 : decode cL_law 612 = .ok (.invokevirtual 92, 3) := dq_182 (dq_suf 4 dt09cL_law_38 rfl rfl) rfl
theorem dL_law_615 : decode cL_law 615 = .ok (.pop, 1) := dq_87 (dq_suf 7 dt09cL_law_38 rfl rfl)
theorem dL_law_616 : decode cL_law 616 = .ok (.goto 202, 3) := dq_167 (dq_suf 8 dt09cL_law_38 rfl rfl) (by decide +kernel)
theorem dL_law_619 : decode cL_law 619 = .ok (.aload_n 1, 1) := dq_43 (dq_suf 11 dt09cL_law_38 rfl rfl)
theorem dL_law_620 : decode cL_law 620 = .ok (.aload_n 0, 1) := dq_42 (dq_suf 12 dt09cL_law_38 rfl rfl)
theorem dL_law_621 : decode cL_law 621 = .ok (.iload 4, 2) := dq_21 (dq_suf 13 dt09cL_law_38 rfl rfl) rfl
theorem dL_law_623 : decode cL_law 623 = .ok (.iconst 1, 1) := dq_4 (dq_suf 15 dt09cL_law_38 rfl rfl)
theorem dL_law_624 : decode cL_law 624 = .ok (.iadd, 1) := dq_96 (dq_suf 0 dt09cL_law_39 rfl rfl)
theorem dL_law_625 : decode cL_law 625 = .ok (.iaload, 1) := dq_46 (dq_suf 1 dt09cL_law_39 rfl rfl)
theorem dL_law_626 : decode cL_law 626 = .ok (.invokevirtual 93, 3) := dq_182 (dq_suf 2 dt09cL_law_39 rfl rfl) rfl
theorem dL_law_629 : decode cL_law 629 = .ok (.pop, 1) := dq_87 (dq_suf 5 dt09cL_law_39 rfl rfl)
theorem dL_law_630 : decode cL_law 630 = .ok (.aload_n 2, 1) := dq_44 (dq_suf 6 dt09cL_law_39 rfl rfl)
theorem dL_law_631 : decode cL_law 631 = .ok (.aload_n 0, 1) := dq_42 (dq_suf 7 dt09cL_law_39 rfl rfl)
theorem dL_law_632 : decode cL_law 632 = .ok (.iload 4, 2) := dq_21 (dq_suf 8 dt09cL_law_39 rfl rfl) rfl
theorem dL_law_634 : decode cL_law 634 = .ok (.iconst 1, 1) := dq_4 (dq_suf 10 dt09cL_law_39 rfl rfl)
theorem dL_law_635 : decode cL_law 635 = .ok (.iadd, 1) := dq_96 (dq_suf 11 dt09cL_law_39 rfl rfl)
theorem dL_law_636 : decode cL_law 636 = .ok (.iaload, 1) := dq_46 (dq_suf 12 dt09cL_law_39 rfl rfl)
theorem dL_law_637 : decode cL_law 637 = .ok (.invokevirtual 96, 3) := dq_182 (dq_suf 13 dt09cL_law_39 rfl rfl) rfl
theorem dL_law_640 : decode cL_law 640 = .ok (.pop, 1) := dq_87 (dq_suf 0 dt09cL_law_40 rfl rfl)
theorem dL_law_641 : decode cL_law 641 = .ok (.goto 177, 3) := dq_167 (dq_suf 1 dt09cL_law_40 rfl rfl) (by decide +kernel)
theorem dL_law_644 : decode cL_law 644 = .ok (.aload_n 1, 1) := dq_43 (dq_suf 4 dt09cL_law_40 rfl rfl)
theorem dL_law_645 : decode cL_law 645 = .ok (.invokevirtual 97, 3) := dq_182 (dq_suf 5 dt09cL_law_40 rfl rfl) rfl
theorem dL_law_648 : decode cL_law 648 = .ok (.pop, 1) := dq_87 (dq_suf 8 dt09cL_law_40 rfl rfl)
theorem dL_law_649 : decode cL_law 649 = .ok (.aload_n 2, 1) := dq_44 (dq_suf 9 dt09cL_law_40 rfl rfl)
theorem dL_law_650 : decode cL_law 650 = .ok (.invokevirtual 100, 3) := dq_182 (dq_suf 10 dt09cL_law_40 rfl rfl) rfl
theorem dL_law_653 : decode cL_law 653 = .ok (.pop, 1) := dq_87 (dq_suf 13 dt09cL_law_40 rfl rfl)
theorem dL_law_654 : decode cL_law 654 = .ok (.goto 164, 3) := dq_167 (dq_suf 14 dt09cL_law_40 rfl rfl) (by decide +kernel)
theorem dL_law_657 : decode cL_law 657 = .ok (.aload_n 1, 1) := dq_43 (dq_suf 1 dt09cL_law_41 rfl rfl)
theorem dL_law_658 : decode cL_law 658 = .ok (.aload_n 0, 1) := dq_42 (dq_suf 2 dt09cL_law_41 rfl rfl)
theorem dL_law_659 : decode cL_law 659 = .ok (.iload 4, 2) := dq_21 (dq_suf 3 dt09cL_law_41 rfl rfl) rfl
theorem dL_law_661 : decode cL_law 661 = .ok (.iconst 1, 1) := dq_4 (dq_suf 5 dt09cL_law_41 rfl rfl)
theorem dL_law_662 : decode cL_law 662 = .ok (.iadd, 1) := dq_96 (dq_suf 6 dt09cL_law_41 rfl rfl)
theorem dL_law_663 : decode cL_law 663 = .ok (.iaload, 1) := dq_46 (dq_suf 7 dt09cL_law_41 rfl rfl)
theorem dL_law_664 : decode cL_law 664 = .ok (.aload_n 0, 1) := dq_42 (dq_suf 8 dt09cL_law_41 rfl rfl)
theorem dL_law_665 : decode cL_law 665 = .ok (.iload 4, 2) := dq_21 (dq_suf 9 dt09cL_law_41 rfl rfl) rfl
theorem dL_law_667 : decode cL_law 667 = .ok (.iconst 2, 1) := dq_5 (dq_suf 11 dt09cL_law_41 rfl rfl)
theorem dL_law_668 : decode cL_law 668 = .ok (.iadd, 1) := dq_96 (dq_suf 12 dt09cL_law_41 rfl rfl)
theorem dL_law_669 : decode cL_law 669 = .ok (.iaload, 1) := dq_46 (dq_suf 13 dt09cL_law_41 rfl rfl)
theorem dL_law_670 : decode cL_law 670 = .ok (.aload_n 3, 1) := dq_45 (dq_suf 14 dt09cL_law_41 rfl rfl)
theorem dL_law_671 : decode cL_law 671 = .ok (.invokestatic 101, 3) := dq_184 (dq_suf 15 dt09cL_law_41 rfl rfl) rfl
theorem dL_law_674 : decode cL_law 674 = .ok (.istore 5, 2) := dq_54 (dq_suf 2 dt09cL_law_42 rfl rfl) rfl
theorem dL_law_676 : decode cL_law 676 = .ok (.aload_n 2, 1) := dq_44 (dq_suf 4 dt09cL_law_42 rfl rfl)
theorem dL_law_677 : decode cL_law 677 = .ok (.aload_n 0, 1) := dq_42 (dq_suf 5 dt09cL_law_42 rfl rfl)
theorem dL_law_678 : decode cL_law 678 = .ok (.iload 4, 2) := dq_21 (dq_suf 6 dt09cL_law_42 rfl rfl) rfl
theorem dL_law_680 : decode cL_law 680 = .ok (.iconst 1, 1) := dq_4 (dq_suf 8 dt09cL_law_42 rfl rfl)
theorem dL_law_681 : decode cL_law 681 = .ok (.iadd, 1) := dq_96 (dq_suf 9 dt09cL_law_42 rfl rfl)
theorem dL_law_682 : decode cL_law 682 = .ok (.iaload, 1) := dq_46 (dq_suf 10 dt09cL_law_42 rfl rfl)
theorem dL_law_683 : decode cL_law 683 = .ok (.aload_n 0, 1) := dq_42 (dq_suf 11 dt09cL_law_42 rfl rfl)
theorem dL_law_684 : decode cL_law 684 = .ok (.iload 4, 2) := dq_21 (dq_suf 12 dt09cL_law_42 rfl rfl) rfl
theorem dL_law_686 : decode cL_law 686 = .ok (.iconst 2, 1) := dq_5 (dq_suf 14 dt09cL_law_42 rfl rfl)
theorem dL_law_687 : decode cL_law 687 = .ok (.iadd, 1) := dq_96 (dq_suf 15 dt09cL_law_42 rfl rfl)
theorem dL_law_688 : decode cL_law 688 = .ok (.iaload, 1) := dq_46 (dq_suf 0 dt09cL_law_43 rfl rfl)
theorem dL_law_689 : decode cL_law 689 = .ok (.invokevirtual 106, 3) := dq_182 (dq_suf 1 dt09cL_law_43 rfl rfl) rfl
theorem dL_law_692 : decode cL_law 692 = .ok (.istore 6, 2) := dq_54 (dq_suf 4 dt09cL_law_43 rfl rfl) rfl
theorem dL_law_694 : decode cL_law 694 = .ok (.goto 124, 3) := dq_167 (dq_suf 6 dt09cL_law_43 rfl rfl) (by decide +kernel)
theorem dL_law_697 : decode cL_law 697 = .ok (.aload_n 1, 1) := dq_43 (dq_suf 9 dt09cL_law_43 rfl rfl)
theorem dL_law_698 : decode cL_law 698 = .ok (.aload_n 0, 1) := dq_42 (dq_suf 10 dt09cL_law_43 rfl rfl)
theorem dL_law_699 : decode cL_law 699 = .ok (.iload 4, 2) := dq_21 (dq_suf 11 dt09cL_law_43 rfl rfl) rfl
theorem dL_law_701 : decode cL_law 701 = .ok (.iconst 1, 1) := dq_4 (dq_suf 13 dt09cL_law_43 rfl rfl)
theorem dL_law_702 : decode cL_law 702 = .ok (.iadd, 1) := dq_96 (dq_suf 14 dt09cL_law_43 rfl rfl)
theorem dL_law_703 : decode cL_law 703 = .ok (.iaload, 1) := dq_46 (dq_suf 15 dt09cL_law_43 rfl rfl)
theorem dL_law_704 : decode cL_law 704 = .ok (.aload_n 0, 1) := dq_42 (dq_suf 0 dt09cL_law_44 rfl rfl)
theorem dL_law_705 : decode cL_law 705 = .ok (.iload 4, 2) := dq_21 (dq_suf 1 dt09cL_law_44 rfl rfl) rfl
theorem dL_law_707 : decode cL_law 707 = .ok (.iconst 2, 1) := dq_5 (dq_suf 3 dt09cL_law_44 rfl rfl)
theorem dL_law_708 : decode cL_law 708 = .ok (.iadd, 1) := dq_96 (dq_suf 4 dt09cL_law_44 rfl rfl)
theorem dL_law_709 : decode cL_law 709 = .ok (.iaload, 1) := dq_46 (dq_suf 5 dt09cL_law_44 rfl rfl)
theorem dL_law_710 : decode cL_law 710 = .ok (.aload_n 3, 1) := dq_45 (dq_suf 6 dt09cL_law_44 rfl rfl)
theorem dL_law_711 : decode cL_law 711 = .ok (.invokestatic 107, 3) := dq_184 (dq_suf 7 dt09cL_law_44 rfl rfl) rfl
theorem dL_law_714 : decode cL_law 714 = .ok (.istore 5, 2) := dq_54 (dq_suf 10 dt09cL_law_44 rfl rfl) rfl
theorem dL_law_716 : decode cL_law 716 = .ok (.aload_n 2, 1) := dq_44 (dq_suf 12 dt09cL_law_44 rfl rfl)
theorem dL_law_717 : decode cL_law 717 = .ok (.aload_n 0, 1) := dq_42 (dq_suf 13 dt09cL_law_44 rfl rfl)
theorem dL_law_718 : decode cL_law 718 = .ok (.iload 4, 2) := dq_21 (dq_suf 14 dt09cL_law_44 rfl rfl) rfl
theorem dL_law_720 : decode cL_law 720 = .ok (.iconst 1, 1) := dq_4 (dq_suf 0 dt09cL_law_45 rfl rfl)
theorem dL_law_721 : decode cL_law 721 = .ok (.iadd, 1) := dq_96 (dq_suf 1 dt09cL_law_45 rfl rfl)
theorem dL_law_722 : decode cL_law 722 = .ok (.iaload, 1) := dq_46 (dq_suf 2 dt09cL_law_45 rfl rfl)
theorem dL_law_723 : decode cL_law 723 = .ok (.aload_n 0, 1) := dq_42 (dq_suf 3 dt09cL_law_45 rfl rfl)
theorem dL_law_724 : decode cL_law 724 = .ok (.iload 4, 2) := dq_21 (dq_suf 4 dt09cL_law_45 rfl rfl) rfl
theorem dL_law_726 : decode cL_law 726 = .ok (.iconst 2, 1) := dq_5 (dq_suf 6 dt09cL_law_45 rfl rfl)
theorem dL_law_727 : decode cL_law 727 = .ok (.iadd, 1) := dq_96 (dq_suf 7 dt09cL_law_45 rfl rfl)
theorem dL_law_728 : decode cL_law 728 = .ok (.iaload, 1) := dq_46 (dq_suf 8 dt09cL_law_45 rfl rfl)
theorem dL_law_729 : decode cL_law 729 = .ok (.invokevirtual 109, 3) := dq_182 (dq_suf 9 dt09cL_law_45 rfl rfl) rfl
theorem dL_law_732 : decode cL_law 732 = .ok (.istore 6, 2) := dq_54 (dq_suf 12 dt09cL_law_45 rfl rfl) rfl
theorem dL_law_734 : decode cL_law 734 = .ok (.goto 84, 3) := dq_167 (dq_suf 14 dt09cL_law_45 rfl rfl) (by decide +kernel)
theorem dL_law_737 : decode cL_law 737 = .ok (.aload_n 1, 1) := dq_43 (dq_suf 1 dt09cL_law_46 rfl rfl)
theorem dL_law_738 : decode cL_law 738 = .ok (.aload_n 0, 1) := dq_42 (dq_suf 2 dt09cL_law_46 rfl rfl)
theorem dL_law_739 : decode cL_law 739 = .ok (.iload 4, 2) := dq_21 (dq_suf 3 dt09cL_law_46 rfl rfl) rfl
theorem dL_law_741 : decode cL_law 741 = .ok (.iconst 1, 1) := dq_4 (dq_suf 5 dt09cL_law_46 rfl rfl)
theorem dL_law_742 : decode cL_law 742 = .ok (.iadd, 1) := dq_96 (dq_suf 6 dt09cL_law_46 rfl rfl)
theorem dL_law_743 : decode cL_law 743 = .ok (.iaload, 1) := dq_46 (dq_suf 7 dt09cL_law_46 rfl rfl)
theorem dL_law_744 : decode cL_law 744 = .ok (.aload_n 0, 1) := dq_42 (dq_suf 8 dt09cL_law_46 rfl rfl)
theorem dL_law_745 : decode cL_law 745 = .ok (.iload 4, 2) := dq_21 (dq_suf 9 dt09cL_law_46 rfl rfl) rfl
theorem dL_law_747 : decode cL_law 747 = .ok (.iconst 2, 1) := dq_5 (dq_suf 11 dt09cL_law_46 rfl rfl)
theorem dL_law_748 : decode cL_law 748 = .ok (.iadd, 1) := dq_96 (dq_suf 12 dt09cL_law_46 rfl rfl)
theorem dL_law_749 : decode cL_law 749 = .ok (.iaload, 1) := dq_46 (dq_suf 13 dt09cL_law_46 rfl rfl)
theorem dL_law_750 : decode cL_law 750 = .ok (.aload_n 3, 1) := dq_45 (dq_suf 14 dt09cL_law_46 rfl rfl)
theorem dL_law_751 : decode cL_law 751 = .ok (.invokestatic 110, 3) := dq_184 (dq_suf 15 dt09cL_law_46 rfl rfl) rfl
theorem dL_law_754 : decode cL_law 754 = .ok (.istore 5, 2) := dq_54 (dq_suf 2 dt09cL_law_47 rfl rfl) rfl
theorem dL_law_756 : decode cL_law 756 = .ok (.aload_n 2, 1) := dq_44 (dq_suf 4 dt09cL_law_47 rfl rfl)
theorem dL_law_757 : decode cL_law 757 = .ok (.aload_n 0, 1) := dq_42 (dq_suf 5 dt09cL_law_47 rfl rfl)
theorem dL_law_758 : decode cL_law 758 = .ok (.iload 4, 2) := dq_21 (dq_suf 6 dt09cL_law_47 rfl rfl) rfl
theorem dL_law_760 : decode cL_law 760 = .ok (.iconst 1, 1) := dq_4 (dq_suf 8 dt09cL_law_47 rfl rfl)
theorem dL_law_761 : decode cL_law 761 = .ok (.iadd, 1) := dq_96 (dq_suf 9 dt09cL_law_47 rfl rfl)
theorem dL_law_762 : decode cL_law 762 = .ok (.iaload, 1) := dq_46 (dq_suf 10 dt09cL_law_47 rfl rfl)
theorem dL_law_763 : decode cL_law 763 = .ok (.aload_n 0, 1) := dq_42 (dq_suf 11 dt09cL_law_47 rfl rfl)
theorem dL_law_764 : decode cL_law 764 = .ok (.iload 4, 2) := dq_21 (dq_suf 12 dt09cL_law_47 rfl rfl) rfl
theorem dL_law_766 : decode cL_law 766 = .ok (.iconst 2, 1) := dq_5 (dq_suf 14 dt09cL_law_47 rfl rfl)
theorem dL_law_767 : decode cL_law 767 = .ok (.iadd, 1) := dq_96 (dq_suf 15 dt09cL_law_47 rfl rfl)
theorem dL_law_768 : decode cL_law 768 = .ok (.iaload, 1) := dq_46 (dq_suf 0 dt09cL_law_48 rfl rfl)
theorem dL_law_769 : decode cL_law 769 = .ok (.invokevirtual 112, 3) := dq_182 (dq_suf 1 dt09cL_law_48 rfl rfl) rfl
theorem dL_law_772 : decode cL_law 772 = .ok (.istore 6, 2) := dq_54 (dq_suf 4 dt09cL_law_48 rfl rfl) rfl
theorem dL_law_774 : decode cL_law 774 = .ok (.goto 44, 3) := dq_167 (dq_suf 6 dt09cL_law_48 rfl rfl) (by decide +kernel)
theorem dL_law_777 : decode cL_law 777 = .ok (.aload_n 1, 1) := dq_43 (dq_suf 9 dt09cL_law_48 rfl rfl)
theorem dL_law_778 : decode cL_law 778 = .ok (.invokevirtual 113, 3) := dq_182 (dq_suf 10 dt09cL_law_48 rfl rfl) rfl
theorem dL_law_781 : decode cL_law 781 = .ok (.aload_n 2, 1) := dq_44 (dq_suf 13 dt09cL_law_48 rfl rfl)
theorem dL_law_782 : decode cL_law 782 = .ok (.invokevirtual 116, 3) := dq_182 (dq_suf 14 dt09cL_law_48 rfl rfl) rfl
theorem dL_law_785 : decode cL_law 785 = .ok (.if_icmp .eq 33, 3) := dq_159 (dq_suf 1 dt09cL_law_49 rfl rfl) (by decide +kernel)
theorem dL_law_790 : decode cL_law 790 = .ok (.aload_n 1, 1) := dq_43 (dq_suf 6 dt09cL_law_49 rfl rfl)
theorem dL_law_791 : decode cL_law 791 = .ok (.aload_n 0, 1) := dq_42 (dq_suf 7 dt09cL_law_49 rfl rfl)
theorem dL_law_792 : decode cL_law 792 = .ok (.iload 4, 2) := dq_21 (dq_suf 8 dt09cL_law_49 rfl rfl) rfl
theorem dL_law_794 : decode cL_law 794 = .ok (.iconst 1, 1) := dq_4 (dq_suf 10 dt09cL_law_49 rfl rfl)
theorem dL_law_795 : decode cL_law 795 = .ok (.iadd, 1) := dq_96 (dq_suf 11 dt09cL_law_49 rfl rfl)
theorem dL_law_796 : decode cL_law 796 = .ok (.iaload, 1) := dq_46 (dq_suf 12 dt09cL_law_49 rfl rfl)
theorem dL_law_797 : decode cL_law 797 = .ok (.aload_n 3, 1) := dq_45 (dq_suf 13 dt09cL_law_49 rfl rfl)
theorem dL_law_798 : decode cL_law 798 = .ok (.invokestatic 117, 3) := dq_184 (dq_suf 14 dt09cL_law_49 rfl rfl) rfl
theorem dL_law_801 : decode cL_law 801 = .ok (.istore 5, 2) := dq_54 (dq_suf 1 dt09cL_law_50 rfl rfl) rfl
theorem dL_law_803 : decode cL_law 803 = .ok (.aload_n 2, 1) := dq_44 (dq_suf 3 dt09cL_law_50 rfl rfl)
theorem dL_law_804 : decode cL_law 804 = .ok (.aload_n 0, 1) := dq_42 (dq_suf 4 dt09cL_law_50 rfl rfl)
theorem dL_law_805 : decode cL_law 805 = .ok (.iload 4, 2) := dq_21 (dq_suf 5 dt09cL_law_50 rfl rfl) rfl
theorem dL_law_807 : decode cL_law 807 = .ok (.iconst 1, 1) := dq_4 (dq_suf 7 dt09cL_law_50 rfl rfl)
theorem dL_law_808 : decode cL_law 808 = .ok (.iadd, 1) := dq_96 (dq_suf 8 dt09cL_law_50 rfl rfl)
theorem dL_law_809 : decode cL_law 809 = .ok (.iaload, 1) := dq_46 (dq_suf 9 dt09cL_law_50 rfl rfl)
theorem dL_law_810 : decode cL_law 810 = .ok (.invokevirtual 120, 3) := dq_182 (dq_suf 10 dt09cL_law_50 rfl rfl) rfl
theorem dL_law_813 : decode cL_law 813 = .ok (.istore 6, 2) := dq_54 (dq_suf 13 dt09cL_law_50 rfl rfl) rfl
theorem dL_law_815 : decode cL_law 815 = .ok (.goto 3, 3) := dq_167 (dq_suf 15 dt09cL_law_50 rfl rfl) (by decide +kernel)
theorem dL_law_818 : decode cL_law 818 = .ok (.iinc 4 6, 3) := dq_132 (dq_suf 2 dt09cL_law_51 rfl rfl) rfl (by decide +kernel)
theorem dL_law_821 : decode cL_law 821 = .ok (.goto (-798), 3) := dq_167 (dq_suf 5 dt09cL_law_51 rfl rfl) (by decide +kernel)
theorem dL_law_824 : decode cL_law 824 = .ok (.iconst 1, 1) := dq_4 (dq_suf 8 dt09cL_law_51 rfl rfl)
theorem dL_law_825 : decode cL_law 825 = .ok (.ireturn, 1) := dq_172 (dq_suf 9 dt09cL_law_51 rfl rfl)
