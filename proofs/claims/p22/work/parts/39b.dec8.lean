noncomputable def ds39bcX11_verify_26 : List UInt8 := 4 :: 172 :: []
noncomputable def ds39bcX11_verify_25 : List UInt8 := 68 :: 132 :: 5 :: 3 :: 167 :: 254 :: 196 :: 21 :: 4 :: 153 :: 0 :: 7 :: 3 :: 167 :: 0 :: 4 :: ds39bcX11_verify_26
noncomputable def ds39bcX11_verify_24 : List UInt8 := 0 :: 18 :: 42 :: 180 :: 0 :: 69 :: 3 :: 42 :: 180 :: 0 :: 23 :: 21 :: 7 :: 46 :: 184 :: 1 :: ds39bcX11_verify_25
noncomputable def ds39bcX11_verify_23 : List UInt8 := 69 :: 3 :: 42 :: 180 :: 0 :: 20 :: 21 :: 7 :: 46 :: 184 :: 1 :: 68 :: 21 :: 6 :: 4 :: 160 :: ds39bcX11_verify_24
noncomputable def ds39bcX11_verify_22 : List UInt8 := 112 :: 3 :: 42 :: 180 :: 0 :: 69 :: 3 :: 184 :: 1 :: 45 :: 167 :: 0 :: 39 :: 42 :: 180 :: 0 :: ds39bcX11_verify_23
noncomputable def ds39bcX11_verify_21 : List UInt8 := 1 :: 21 :: 6 :: 7 :: 160 :: 0 :: 25 :: 42 :: 21 :: 7 :: 182 :: 1 :: 88 :: 42 :: 180 :: 0 :: ds39bcX11_verify_22
noncomputable def ds39bcX11_verify_20 : List UInt8 := 16 :: 10 :: 29 :: 104 :: 42 :: 180 :: 0 :: 23 :: 21 :: 7 :: 46 :: 184 :: 1 :: 68 :: 132 :: 3 :: ds39bcX11_verify_21
noncomputable def ds39bcX11_verify_19 : List UInt8 := 3 :: 42 :: 180 :: 0 :: 130 :: 16 :: 10 :: 29 :: 104 :: 184 :: 1 :: 45 :: 42 :: 180 :: 0 :: 130 :: ds39bcX11_verify_20
noncomputable def ds39bcX11_verify_18 : List UInt8 := 7 :: 159 :: 0 :: 5 :: 3 :: 172 :: 21 :: 6 :: 6 :: 160 :: 0 :: 40 :: 42 :: 180 :: 0 :: 69 :: ds39bcX11_verify_19
noncomputable def ds39bcX11_verify_17 : List UInt8 := 16 :: 6 :: 167 :: 0 :: 15 :: 21 :: 6 :: 6 :: 160 :: 0 :: 7 :: 8 :: 167 :: 0 :: 5 :: 16 :: ds39bcX11_verify_18
noncomputable def ds39bcX11_verify_16 : List UInt8 := 21 :: 6 :: 4 :: 160 :: 0 :: 7 :: 7 :: 167 :: 0 :: 26 :: 21 :: 6 :: 5 :: 160 :: 0 :: 8 :: ds39bcX11_verify_17
noncomputable def ds39bcX11_verify_15 : List UInt8 := 6 :: 4 :: 7 :: 184 :: 0 :: 161 :: 153 :: 0 :: 46 :: 42 :: 180 :: 0 :: 16 :: 21 :: 7 :: 46 :: ds39bcX11_verify_16
noncomputable def ds39bcX11_verify_14 : List UInt8 := 16 :: 10 :: 29 :: 104 :: 42 :: 180 :: 0 :: 69 :: 3 :: 184 :: 1 :: 45 :: 167 :: 0 :: 165 :: 21 :: ds39bcX11_verify_15
noncomputable def ds39bcX11_verify_13 : List UInt8 := 4 :: 3 :: 54 :: 4 :: 21 :: 4 :: 153 :: 0 :: 187 :: 132 :: 3 :: 255 :: 42 :: 180 :: 0 :: 130 :: ds39bcX11_verify_14
noncomputable def ds39bcX11_verify_12 : List UInt8 := 7 :: 182 :: 1 :: 21 :: 154 :: 0 :: 5 :: 3 :: 172 :: 29 :: 158 :: 0 :: 7 :: 4 :: 167 :: 0 :: ds39bcX11_verify_13
noncomputable def ds39bcX11_verify_11 : List UInt8 := 159 :: 0 :: 25 :: 42 :: 180 :: 0 :: 16 :: 21 :: 7 :: 46 :: 5 :: 160 :: 0 :: 12 :: 42 :: 21 :: ds39bcX11_verify_12
noncomputable def ds39bcX11_verify_10 : List UInt8 := 184 :: 1 :: 17 :: 154 :: 0 :: 5 :: 3 :: 172 :: 21 :: 6 :: 154 :: 0 :: 69 :: 21 :: 7 :: 4 :: ds39bcX11_verify_11
noncomputable def ds39bcX11_verify_9 : List UInt8 := 42 :: 21 :: 7 :: 182 :: 1 :: 8 :: 153 :: 0 :: 16 :: 42 :: 180 :: 0 :: 69 :: 3 :: 21 :: 7 :: ds39bcX11_verify_10
noncomputable def ds39bcX11_verify_8 : List UInt8 := 5 :: 5 :: 96 :: 51 :: 17 :: 0 :: 255 :: 126 :: 128 :: 54 :: 7 :: 21 :: 4 :: 153 :: 0 :: 25 :: ds39bcX11_verify_9
noncomputable def ds39bcX11_verify_7 : List UInt8 := 5 :: 4 :: 96 :: 51 :: 17 :: 0 :: 255 :: 126 :: 16 :: 8 :: 120 :: 42 :: 180 :: 0 :: 7 :: 21 :: ds39bcX11_verify_8
noncomputable def ds39bcX11_verify_6 : List UInt8 := 0 :: 7 :: 21 :: 5 :: 51 :: 17 :: 0 :: 255 :: 126 :: 54 :: 6 :: 42 :: 180 :: 0 :: 7 :: 21 :: ds39bcX11_verify_7
noncomputable def ds39bcX11_verify_5 : List UInt8 := 3 :: 62 :: 4 :: 54 :: 4 :: 3 :: 54 :: 5 :: 21 :: 5 :: 28 :: 162 :: 1 :: 60 :: 42 :: 180 :: ds39bcX11_verify_6
noncomputable def ds39bcX11_verify_4 : List UInt8 := 255 :: 240 :: 42 :: 180 :: 0 :: 69 :: 3 :: 42 :: 180 :: 0 :: 33 :: 27 :: 46 :: 184 :: 1 :: 68 :: ds39bcX11_verify_5
noncomputable def ds39bcX11_verify_3 : List UInt8 := 16 :: 10 :: 162 :: 0 :: 16 :: 42 :: 180 :: 0 :: 69 :: 29 :: 3 :: 79 :: 132 :: 3 :: 1 :: 167 :: ds39bcX11_verify_4
noncomputable def ds39bcX11_verify_2 : List UInt8 := 42 :: 3 :: 181 :: 0 :: 154 :: 28 :: 6 :: 112 :: 153 :: 0 :: 5 :: 3 :: 172 :: 3 :: 62 :: 29 :: ds39bcX11_verify_3
noncomputable def ds39bcX11_verify_1 : List UInt8 := 180 :: 0 :: 30 :: 27 :: 46 :: 2 :: 160 :: 0 :: 5 :: 2 :: 172 :: 42 :: 180 :: 0 :: 154 :: 61 :: ds39bcX11_verify_2
noncomputable def ds39bcX11_verify_0 : List UInt8 := 42 :: 3 :: 181 :: 0 :: 151 :: 27 :: 3 :: 16 :: 7 :: 184 :: 0 :: 161 :: 153 :: 0 :: 13 :: 42 :: ds39bcX11_verify_1
theorem dt39bcX11_verify_0 : cX11_verify.data.toList.drop 0 = ds39bcX11_verify_0 := by decide +kernel
theorem dt39bcX11_verify_1 : cX11_verify.data.toList.drop 16 = ds39bcX11_verify_1 := dq_suf 16 dt39bcX11_verify_0 rfl rfl
theorem dt39bcX11_verify_2 : cX11_verify.data.toList.drop 32 = ds39bcX11_verify_2 := dq_suf 16 dt39bcX11_verify_1 rfl rfl
theorem dt39bcX11_verify_3 : cX11_verify.data.toList.drop 48 = ds39bcX11_verify_3 := dq_suf 16 dt39bcX11_verify_2 rfl rfl
theorem dt39bcX11_verify_4 : cX11_verify.data.toList.drop 64 = ds39bcX11_verify_4 := dq_suf 16 dt39bcX11_verify_3 rfl rfl
theorem dt39bcX11_verify_5 : cX11_verify.data.toList.drop 80 = ds39bcX11_verify_5 := dq_suf 16 dt39bcX11_verify_4 rfl rfl
theorem dt39bcX11_verify_6 : cX11_verify.data.toList.drop 96 = ds39bcX11_verify_6 := dq_suf 16 dt39bcX11_verify_5 rfl rfl
theorem dt39bcX11_verify_7 : cX11_verify.data.toList.drop 112 = ds39bcX11_verify_7 := dq_suf 16 dt39bcX11_verify_6 rfl rfl
theorem dt39bcX11_verify_8 : cX11_verify.data.toList.drop 128 = ds39bcX11_verify_8 := dq_suf 16 dt39bcX11_verify_7 rfl rfl
theorem dt39bcX11_verify_9 : cX11_verify.data.toList.drop 144 = ds39bcX11_verify_9 := dq_suf 16 dt39bcX11_verify_8 rfl rfl
theorem dt39bcX11_verify_10 : cX11_verify.data.toList.drop 160 = ds39bcX11_verify_10 := dq_suf 16 dt39bcX11_verify_9 rfl rfl
theorem dt39bcX11_verify_11 : cX11_verify.data.toList.drop 176 = ds39bcX11_verify_11 := dq_suf 16 dt39bcX11_verify_10 rfl rfl
theorem dt39bcX11_verify_12 : cX11_verify.data.toList.drop 192 = ds39bcX11_verify_12 := dq_suf 16 dt39bcX11_verify_11 rfl rfl
theorem dt39bcX11_verify_13 : cX11_verify.data.toList.drop 208 = ds39bcX11_verify_13 := dq_suf 16 dt39bcX11_verify_12 rfl rfl
theorem dt39bcX11_verify_14 : cX11_verify.data.toList.drop 224 = ds39bcX11_verify_14 := dq_suf 16 dt39bcX11_verify_13 rfl rfl
theorem dt39bcX11_verify_15 : cX11_verify.data.toList.drop 240 = ds39bcX11_verify_15 := dq_suf 16 dt39bcX11_verify_14 rfl rfl
theorem dt39bcX11_verify_16 : cX11_verify.data.toList.drop 256 = ds39bcX11_verify_16 := dq_suf 16 dt39bcX11_verify_15 rfl rfl
theorem dt39bcX11_verify_17 : cX11_verify.data.toList.drop 272 = ds39bcX11_verify_17 := dq_suf 16 dt39bcX11_verify_16 rfl rfl
theorem dt39bcX11_verify_18 : cX11_verify.data.toList.drop 288 = ds39bcX11_verify_18 := dq_suf 16 dt39bcX11_verify_17 rfl rfl
theorem dt39bcX11_verify_19 : cX11_verify.data.toList.drop 304 = ds39bcX11_verify_19 := dq_suf 16 dt39bcX11_verify_18 rfl rfl
theorem dt39bcX11_verify_20 : cX11_verify.data.toList.drop 320 = ds39bcX11_verify_20 := dq_suf 16 dt39bcX11_verify_19 rfl rfl
theorem dt39bcX11_verify_21 : cX11_verify.data.toList.drop 336 = ds39bcX11_verify_21 := dq_suf 16 dt39bcX11_verify_20 rfl rfl
theorem dt39bcX11_verify_22 : cX11_verify.data.toList.drop 352 = ds39bcX11_verify_22 := dq_suf 16 dt39bcX11_verify_21 rfl rfl
theorem dt39bcX11_verify_23 : cX11_verify.data.toList.drop 368 = ds39bcX11_verify_23 := dq_suf 16 dt39bcX11_verify_22 rfl rfl
theorem dt39bcX11_verify_24 : cX11_verify.data.toList.drop 384 = ds39bcX11_verify_24 := dq_suf 16 dt39bcX11_verify_23 rfl rfl
theorem dt39bcX11_verify_25 : cX11_verify.data.toList.drop 400 = ds39bcX11_verify_25 := dq_suf 16 dt39bcX11_verify_24 rfl rfl
theorem dt39bcX11_verify_26 : cX11_verify.data.toList.drop 416 = ds39bcX11_verify_26 := dq_suf 16 dt39bcX11_verify_25 rfl rfl
theorem dX11_verify_75 : decode cX11_verify 75 = .ok (.iload_n 1, 1) := dq_27 (dq_suf 11 dt39bcX11_verify_4 rfl rfl)
theorem dX11_verify_76 : decode cX11_verify 76 = .ok (.iaload, 1) := dq_46 (dq_suf 12 dt39bcX11_verify_4 rfl rfl)
theorem dX11_verify_77 : decode cX11_verify 77 = .ok (.invokestatic 324, 3) := dq_184 (dq_suf 13 dt39bcX11_verify_4 rfl rfl) rfl
theorem dX11_verify_80 : decode cX11_verify 80 = .ok (.iconst 0, 1) := dq_3 (dq_suf 0 dt39bcX11_verify_5 rfl rfl)
theorem dX11_verify_81 : decode cX11_verify 81 = .ok (.istore_n 3, 1) := dq_62 (dq_suf 1 dt39bcX11_verify_5 rfl rfl)
theorem dX11_verify_82 : decode cX11_verify 82 = .ok (.iconst 1, 1) := dq_4 (dq_suf 2 dt39bcX11_verify_5 rfl rfl)
theorem dX11_verify_83 : decode cX11_verify 83 = .ok (.istore 4, 2) := dq_54 (dq_suf 3 dt39bcX11_verify_5 rfl rfl) rfl
theorem dX11_verify_85 : decode cX11_verify 85 = .ok (.iconst 0, 1) := dq_3 (dq_suf 5 dt39bcX11_verify_5 rfl rfl)
theorem dX11_verify_86 : decode cX11_verify 86 = .ok (.istore 5, 2) := dq_54 (dq_suf 6 dt39bcX11_verify_5 rfl rfl) rfl
theorem dX11_verify_88 : decode cX11_verify 88 = .ok (.iload 5, 2) := dq_21 (dq_suf 8 dt39bcX11_verify_5 rfl rfl) rfl
theorem dX11_verify_90 : decode cX11_verify 90 = .ok (.iload_n 2, 1) := dq_28 (dq_suf 10 dt39bcX11_verify_5 rfl rfl)
theorem dX11_verify_91 : decode cX11_verify 91 = .ok (.if_icmp .ge 316, 3) := dq_162 (dq_suf 11 dt39bcX11_verify_5 rfl rfl) (by decide +kernel)
theorem dX11_verify_94 : decode cX11_verify 94 = .ok (.aload_n 0, 1) := dq_42 (dq_suf 14 dt39bcX11_verify_5 rfl rfl)
theorem dX11_verify_95 : decode cX11_verify 95 = .ok (.getfield 7, 3) := dq_180 (dq_suf 15 dt39bcX11_verify_5 rfl rfl) rfl
theorem dX11_verify_98 : decode cX11_verify 98 = .ok (.iload 5, 2) := dq_21 (dq_suf 2 dt39bcX11_verify_6 rfl rfl) rfl
theorem dX11_verify_100 : decode cX11_verify 100 = .ok (.baload, 1) := dq_51 (dq_suf 4 dt39bcX11_verify_6 rfl rfl)
theorem dX11_verify_101 : decode cX11_verify 101 = .ok (.sipush 255, 3) := dq_17 (dq_suf 5 dt39bcX11_verify_6 rfl rfl) (by decide +kernel)
theorem dX11_verify_104 : decode cX11_verify 104 = .ok (.iand, 1) := dq_126 (dq_suf 8 dt39bcX11_verify_6 rfl rfl)
theorem dX11_verify_105 : decode cX11_verify 105 = .ok (.istore 6, 2) := dq_54 (dq_suf 9 dt39bcX11_verify_6 rfl rfl) rfl
theorem dX11_verify_107 : decode cX11_verify 107 = .ok (.aload_n 0, 1) := dq_42 (dq_suf 11 dt39bcX11_verify_6 rfl rfl)
theorem dX11_verify_108 : decode cX11_verify 108 = .ok (.getfield 7, 3) := dq_180 (dq_suf 12 dt39bcX11_verify_6 rfl rfl) rfl
theorem dX11_verify_111 : decode cX11_verify 111 = .ok (.iload 5, 2) := dq_21 (dq_suf 15 dt39bcX11_verify_6 rfl rfl) rfl
theorem dX11_verify_113 : decode cX11_verify 113 = .ok (.iconst 1, 1) := dq_4 (dq_suf 1 dt39bcX11_verify_7 rfl rfl)
theorem dX11_verify_114 : decode cX11_verify 114 = .ok (.iadd, 1) := dq_96 (dq_suf 2 dt39bcX11_verify_7 rfl rfl)
theorem dX11_verify_115 : decode cX11_verify 115 = .ok (.baload, 1) := dq_51 (dq_suf 3 dt39bcX11_verify_7 rfl rfl)
theorem dX11_verify_116 : decode cX11_verify 116 = .ok (.sipush 255, 3) := dq_17 (dq_suf 4 dt39bcX11_verify_7 rfl rfl) (by decide +kernel)
theorem dX11_verify_119 : decode cX11_verify 119 = .ok (.iand, 1) := dq_126 (dq_suf 7 dt39bcX11_verify_7 rfl rfl)
theorem dX11_verify_120 : decode cX11_verify 120 = .ok (.bipush 8, 2) := dq_16 (dq_suf 8 dt39bcX11_verify_7 rfl rfl) (by decide +kernel)
theorem dX11_verify_122 : decode cX11_verify 122 = .ok (.ishl, 1) := dq_120 (dq_suf 10 dt39bcX11_verify_7 rfl rfl)
theorem dX11_verify_123 : decode cX11_verify 123 = .ok (.aload_n 0, 1) := dq_42 (dq_suf 11 dt39bcX11_verify_7 rfl rfl)
theorem dX11_verify_124 : decode cX11_verify 124 = .ok (.getfield 7, 3) := dq_180 (dq_suf 12 dt39bcX11_verify_7 rfl rfl) rfl
theorem dX11_verify_127 : decode cX11_verify 127 = .ok (.iload 5, 2) := dq_21 (dq_suf 15 dt39bcX11_verify_7 rfl rfl) rfl
theorem dX11_verify_129 : decode cX11_verify 129 = .ok (.iconst 2, 1) := dq_5 (dq_suf 1 dt39bcX11_verify_8 rfl rfl)
theorem dX11_verify_130 : decode cX11_verify 130 = .ok (.iadd, 1) := dq_96 (dq_suf 2 dt39bcX11_verify_8 rfl rfl)
theorem dX11_verify_131 : decode cX11_verify 131 = .ok (.baload, 1) := dq_51 (dq_suf 3 dt39bcX11_verify_8 rfl rfl)
theorem dX11_verify_132 : decode cX11_verify 132 = .ok (.sipush 255, 3) := dq_17 (dq_suf 4 dt39bcX11_verify_8 rfl rfl) (by decide +kernel)
theorem dX11_verify_135 : decode cX11_verify 135 = .ok (.iand, 1) := dq_126 (dq_suf 7 dt39bcX11_verify_8 rfl rfl)
theorem dX11_verify_136 : decode cX11_verify 136 = .ok (.ior, 1) := dq_128 (dq_suf 8 dt39bcX11_verify_8 rfl rfl)
theorem dX11_verify_137 : decode cX11_verify 137 = .ok (.istore 7, 2) := dq_54 (dq_suf 9 dt39bcX11_verify_8 rfl rfl) rfl
theorem dX11_verify_139 : decode cX11_verify 139 = .ok (.iload 4, 2) := dq_21 (dq_suf 11 dt39bcX11_verify_8 rfl rfl) rfl
theorem dX11_verify_141 : decode cX11_verify 141 = .ok (.ifCond .eq 25, 3) := dq_153 (dq_suf 13 dt39bcX11_verify_8 rfl rfl) (by decide +kernel)
theorem dX11_verify_144 : decode cX11_verify 144 = .ok (.aload_n 0, 1) := dq_42 (dq_suf 0 dt39bcX11_verify_9 rfl rfl)
theorem dX11_verify_145 : decode cX11_verify 145 = .ok (.iload 7, 2) := dq_21 (dq_suf 1 dt39bcX11_verify_9 rfl rfl) rfl
theorem dX11_verify_147 : decode cX11_verify 147 = .ok (.invokevirtual 264, 3) := dq_182 (dq_suf 3 dt39bcX11_verify_9 rfl rfl) rfl
theorem dX11_verify_150 : decode cX11_verify 150 = .ok (.ifCond .eq 16, 3) := dq_153 (dq_suf 6 dt39bcX11_verify_9 rfl rfl) (by decide +kernel)
theorem dX11_verify_153 : decode cX11_verify 153 = .ok (.aload_n 0, 1) := dq_42 (dq_suf 9 dt39bcX11_verify_9 rfl rfl)
theorem dX11_verify_154 : decode cX11_verify 154 = .ok (.getfield 69, 3) := dq_180 (dq_suf 10 dt39bcX11_verify_9 rfl rfl) rfl
theorem dX11_verify_157 : decode cX11_verify 157 = .ok (.iconst 0, 1) := dq_3 (dq_suf 13 dt39bcX11_verify_9 rfl rfl)
theorem dX11_verify_158 : decode cX11_verify 158 = .ok (.iload 7, 2) := dq_21 (dq_suf 14 dt39bcX11_verify_9 rfl rfl) rfl
theorem dX11_verify_160 : decode cX11_verify 160 = .ok (.invokestatic 273, 3) := dq_184 (dq_suf 0 dt39bcX11_verify_10 rfl rfl) rfl
theorem dX11_verify_163 : decode cX11_verify 163 = .ok (.ifCond .ne 5, 3) := dq_154 (dq_suf 3 dt39bcX11_verify_10 rfl rfl) (by decide +kernel)
theorem dX11_verify_166 : decode cX11_verify 166 = .ok (.iconst 0, 1) := dq_3 (dq_suf 6 dt39bcX11_verify_10 rfl rfl)
theorem dX11_verify_167 : decode cX11_verify 167 = .ok (.ireturn, 1) := dq_172 (dq_suf 7 dt39bcX11_verify_10 rfl rfl)
theorem dX11_verify_168 : decode cX11_verify 168 = .ok (.iload 6, 2) := dq_21 (dq_suf 8 dt39bcX11_verify_10 rfl rfl) rfl
theorem dX11_verify_170 : decode cX11_verify 170 = .ok (.ifCond .ne 69, 3) := dq_154 (dq_suf 10 dt39bcX11_verify_10 rfl rfl) (by decide +kernel)
theorem dX11_verify_173 : decode cX11_verify 173 = .ok (.iload 7, 2) := dq_21 (dq_suf 13 dt39bcX11_verify_10 rfl rfl) rfl
theorem dX11_verify_175 : decode cX11_verify 175 = .ok (.iconst 1, 1) := dq_4 (dq_suf 15 dt39bcX11_verify_10 rfl rfl)
theorem dX11_verify_176 : decode cX11_verify 176 = .ok (.if_icmp .eq 25, 3) := dq_159 (dq_suf 0 dt39bcX11_verify_11 rfl rfl) (by decide +kernel)
theorem dX11_verify_179 : decode cX11_verify 179 = .ok (.aload_n 0, 1) := dq_42 (dq_suf 3 dt39bcX11_verify_11 rfl rfl)
theorem dX11_verify_180 : decode cX11_verify 180 = .ok (.getfield 16, 3) := dq_180 (dq_suf 4 dt39bcX11_verify_11 rfl rfl) rfl
theorem dX11_verify_183 : decode cX11_verify 183 = .ok (.iload 7, 2) := dq_21 (dq_suf 7 dt39bcX11_verify_11 rfl rfl) rfl
theorem dX11_verify_185 : decode cX11_verify 185 = .ok (.iaload, 1) := dq_46 (dq_suf 9 dt39bcX11_verify_11 rfl rfl)
theorem dX11_verify_186 : decode cX11_verify 186 = .ok (.iconst 2, 1) := dq_5 (dq_suf 10 dt39bcX11_verify_11 rfl rfl)
theorem dX11_verify_187 : decode cX11_verify 187 = .ok (.if_icmp .ne 12, 3) := dq_160 (dq_suf 11 dt39bcX11_verify_11 rfl rfl) (by decide +kernel)
theorem dX11_verify_190 : decode cX11_verify 190 = .ok (.aload_n 0, 1) := dq_42 (dq_suf 14 dt39bcX11_verify_11 rfl rfl)
theorem dX11_verify_191 : decode cX11_verify 191 = .ok (.iload 7, 2) := dq_21 (dq_suf 15 dt39bcX11_verify_11 rfl rfl) rfl
theorem dX11_verify_193 : decode cX11_verify 193 = .ok (.invokevirtual 277, 3) := dq_182 (dq_suf 1 dt39bcX11_verify_12 rfl rfl) rfl
theorem dX11_verify_196 : decode cX11_verify 196 = .ok (.ifCond .ne 5, 3) := dq_154 (dq_suf 4 dt39bcX11_verify_12 rfl rfl) (by decide +kernel)
theorem dX11_verify_199 : decode cX11_verify 199 = .ok (.iconst 0, 1) := dq_3 (dq_suf 7 dt39bcX11_verify_12 rfl rfl)
theorem dX11_verify_200 : decode cX11_verify 200 = .ok (.ireturn, 1) := dq_172 (dq_suf 8 dt39bcX11_verify_12 rfl rfl)
theorem dX11_verify_201 : decode cX11_verify 201 = .ok (.iload_n 3, 1) := dq_29 (dq_suf 9 dt39bcX11_verify_12 rfl rfl)
theorem dX11_verify_202 : decode cX11_verify 202 = .ok (.ifCond .le 7, 3) := dq_158 (dq_suf 10 dt39bcX11_verify_12 rfl rfl) (by decide +kernel)
theorem dX11_verify_205 : decode cX11_verify 205 = .ok (.iconst 1, 1) := dq_4 (dq_suf 13 dt39bcX11_verify_12 rfl rfl)
theorem dX11_verify_206 : decode cX11_verify 206 = .ok (.goto 4, 3) := dq_167 (dq_suf 14 dt39bcX11_verify_12 rfl rfl) (by decide +kernel)
theorem dX11_verify_209 : decode cX11_verify 209 = .ok (.iconst 0, 1) := dq_3 (dq_suf 1 dt39bcX11_verify_13 rfl rfl)
theorem dX11_verify_210 : decode cX11_verify 210 = .ok (.istore 4, 2) := dq_54 (dq_suf 2 dt39bcX11_verify_13 rfl rfl) rfl
theorem dX11_verify_212 : decode cX11_verify 212 = .ok (.iload 4, 2) := dq_21 (dq_suf 4 dt39bcX11_verify_13 rfl rfl) rfl
theorem dX11_verify_214 : decode cX11_verify 214 = .ok (.ifCond .eq 187, 3) := dq_153 (dq_suf 6 dt39bcX11_verify_13 rfl rfl) (by decide +kernel)
theorem dX11_verify_217 : decode cX11_verify 217 = .ok (.iinc 3 (-1), 3) := dq_132 (dq_suf 9 dt39bcX11_verify_13 rfl rfl) rfl (by decide +kernel)
theorem dX11_verify_220 : decode cX11_verify 220 = .ok (.aload_n 0, 1) := dq_42 (dq_suf 12 dt39bcX11_verify_13 rfl rfl)
theorem dX11_verify_221 : decode cX11_verify 221 = .ok (.getfield 130, 3) := dq_180 (dq_suf 13 dt39bcX11_verify_13 rfl rfl) rfl
theorem dX11_verify_224 : decode cX11_verify 224 = .ok (.bipush 10, 2) := dq_16 (dq_suf 0 dt39bcX11_verify_14 rfl rfl) (by decide +kernel)
theorem dX11_verify_226 : decode cX11_verify 226 = .ok (.iload_n 3, 1) := dq_29 (dq_suf 2 dt39bcX11_verify_14 rfl rfl)
theorem dX11_verify_227 : decode cX11_verify 227 = .ok (.imul, 1) := dq_104 (dq_suf 3 dt39bcX11_verify_14 rfl rfl)
theorem dX11_verify_228 : decode cX11_verify 228 = .ok (.aload_n 0, 1) := dq_42 (dq_suf 4 dt39bcX11_verify_14 rfl rfl)
theorem dX11_verify_229 : decode cX11_verify 229 = .ok (.getfield 69, 3) := dq_180 (dq_suf 5 dt39bcX11_verify_14 rfl rfl) rfl
theorem dX11_verify_232 : decode cX11_verify 232 = .ok (.iconst 0, 1) := dq_3 (dq_suf 8 dt39bcX11_verify_14 rfl rfl)
theorem dX11_verify_233 : decode cX11_verify 233 = .ok (.invokestatic 301, 3) := dq_184 (dq_suf 9 dt39bcX11_verify_14 rfl rfl) rfl
theorem dX11_verify_236 : decode cX11_verify 236 = .ok (.goto 165, 3) := dq_167 (dq_suf 12 dt39bcX11_verify_14 rfl rfl) (by decide +kernel)
theorem dX11_verify_239 : decode cX11_verify 239 = .ok (.iload 6, 2) := dq_21 (dq_suf 15 dt39bcX11_verify_14 rfl rfl) rfl
theorem dX11_verify_241 : decode cX11_verify 241 = .ok (.iconst 1, 1) := dq_4 (dq_suf 1 dt39bcX11_verify_15 rfl rfl)
theorem dX11_verify_242 : decode cX11_verify 242 = .ok (.iconst 4, 1) := dq_7 (dq_suf 2 dt39bcX11_verify_15 rfl rfl)
theorem dX11_verify_243 : decode cX11_verify 243 = .ok (.invokestatic 161, 3) := dq_184 (dq_suf 3 dt39bcX11_verify_15 rfl rfl) rfl
theorem dX11_verify_246 : decode cX11_verify 246 = .ok (.ifCond .eq 46, 3) := dq_153 (dq_suf 6 dt39bcX11_verify_15 rfl rfl) (by decide +kernel)
theorem dX11_verify_249 : decode cX11_verify 249 = .ok (.aload_n 0, 1) := dq_42 (dq_suf 9 dt39bcX11_verify_15 rfl rfl)
theorem dX11_verify_250 : decode cX11_verify 250 = .ok (.getfield 16, 3) := dq_180 (dq_suf 10 dt39bcX11_verify_15 rfl rfl) rfl
theorem dX11_verify_253 : decode cX11_verify 253 = .ok (.iload 7, 2) := dq_21 (dq_suf 13 dt39bcX11_verify_15 rfl rfl) rfl
theorem dX11_verify_255 : decode cX11_verify 255 = .ok (.iaload, 1) := dq_46 (dq_suf 15 dt39bcX11_verify_15 rfl rfl)
theorem dX11_verify_256 : decode cX11_verify 256 = .ok (.iload 6, 2) := dq_21 (dq_suf 0 dt39bcX11_verify_16 rfl rfl) rfl
theorem dX11_verify_258 : decode cX11_verify 258 = .ok (.iconst 1, 1) := dq_4 (dq_suf 2 dt39bcX11_verify_16 rfl rfl)
theorem dX11_verify_259 : decode cX11_verify 259 = .ok (.if_icmp .ne 7, 3) := dq_160 (dq_suf 3 dt39bcX11_verify_16 rfl rfl) (by decide +kernel)
theorem dX11_verify_262 : decode cX11_verify 262 = .ok (.iconst 4, 1) := dq_7 (dq_suf 6 dt39bcX11_verify_16 rfl rfl)
theorem dX11_verify_263 : decode cX11_verify 263 = .ok (.goto 26, 3) := dq_167 (dq_suf 7 dt39bcX11_verify_16 rfl rfl) (by decide +kernel)
theorem dX11_verify_266 : decode cX11_verify 266 = .ok (.iload 6, 2) := dq_21 (dq_suf 10 dt39bcX11_verify_16 rfl rfl) rfl
theorem dX11_verify_268 : decode cX11_verify 268 = .ok (.iconst 2, 1) := dq_5 (dq_suf 12 dt39bcX11_verify_16 rfl rfl)
theorem dX11_verify_269 : decode cX11_verify 269 = .ok (.if_icmp .ne 8, 3) := dq_160 (dq_suf 13 dt39bcX11_verify_16 rfl rfl) (by decide +kernel)
theorem dX11_verify_272 : decode cX11_verify 272 = .ok (.bipush 6, 2) := dq_16 (dq_suf 0 dt39bcX11_verify_17 rfl rfl) (by decide +kernel)
theorem dX11_verify_274 : decode cX11_verify 274 = .ok (.goto 15, 3) := dq_167 (dq_suf 2 dt39bcX11_verify_17 rfl rfl) (by decide +kernel)
theorem dX11_verify_277 : decode cX11_verify 277 = .ok (.iload 6, 2) := dq_21 (dq_suf 5 dt39bcX11_verify_17 rfl rfl) rfl
theorem dX11_verify_279 : decode cX11_verify 279 = .ok (.iconst 3, 1) := dq_6 (dq_suf 7 dt39bcX11_verify_17 rfl rfl)
theorem dX11_verify_280 : decode cX11_verify 280 = .ok (.if_icmp .ne 7, 3) := dq_160 (dq_suf 8 dt39bcX11_verify_17 rfl rfl) (by decide +kernel)
theorem dX11_verify_283 : decode cX11_verify 283 = .ok (.iconst 5, 1) := dq_8 (dq_suf 11 dt39bcX11_verify_17 rfl rfl)
theorem dX11_verify_284 : decode cX11_verify 284 = .ok (.goto 5, 3) := dq_167 (dq_suf 12 dt39bcX11_verify_17 rfl rfl) (by decide +kernel)
theorem dX11_verify_287 : decode cX11_verify 287 = .ok (.bipush 7, 2) := dq_16 (dq_suf 15 dt39bcX11_verify_17 rfl rfl) (by decide +kernel)
theorem dX11_verify_289 : decode cX11_verify 289 = .ok (.if_icmp .eq 5, 3) := dq_159 (dq_suf 1 dt39bcX11_verify_18 rfl rfl) (by decide +kernel)
theorem dX11_verify_292 : decode cX11_verify 292 = .ok (.iconst 0, 1) := dq_3 (dq_suf 4 dt39bcX11_verify_18 rfl rfl)
theorem dX11_verify_293 : decode cX11_verify 293 = .ok (.ireturn, 1) := dq_172 (dq_suf 5 dt39bcX11_verify_18 rfl rfl)
theorem dX11_verify_294 : decode cX11_verify 294 = .ok (.iload 6, 2) := dq_21 (dq_suf 6 dt39bcX11_verify_18 rfl rfl) rfl
theorem dX11_verify_296 : decode cX11_verify 296 = .ok (.iconst 3, 1) := dq_6 (dq_suf 8 dt39bcX11_verify_18 rfl rfl)
theorem dX11_verify_297 : decode cX11_verify 297 = .ok (.if_icmp .ne 40, 3) := dq_160 (dq_suf 9 dt39bcX11_verify_18 rfl rfl) (by decide +kernel)
theorem dX11_verify_300 : decode cX11_verify 300 = .ok (.aload_n 0, 1) := dq_42 (dq_suf 12 dt39bcX11_verify_18 rfl rfl)
theorem dX11_verify_301 : decode cX11_verify 301 = .ok (.getfield 69, 3) := dq_180 (dq_suf 13 dt39bcX11_verify_18 rfl rfl) rfl
theorem dX11_verify_304 : decode cX11_verify 304 = .ok (.iconst 0, 1) := dq_3 (dq_suf 0 dt39bcX11_verify_19 rfl rfl)
theorem dX11_verify_305 : decode cX11_verify 305 = .ok (.aload_n 0, 1) := dq_42 (dq_suf 1 dt39bcX11_verify_19 rfl rfl)
theorem dX11_verify_306 : decode cX11_verify 306 = .ok (.getfield 130, 3) := dq_180 (dq_suf 2 dt39bcX11_verify_19 rfl rfl) rfl
theorem dX11_verify_309 : decode cX11_verify 309 = .ok (.bipush 10, 2) := dq_16 (dq_suf 5 dt39bcX11_verify_19 rfl rfl) (by decide +kernel)
theorem dX11_verify_311 : decode cX11_verify 311 = .ok (.iload_n 3, 1) := dq_29 (dq_suf 7 dt39bcX11_verify_19 rfl rfl)
theorem dX11_verify_312 : decode cX11_verify 312 = .ok (.imul, 1) := dq_104 (dq_suf 8 dt39bcX11_verify_19 rfl rfl)
theorem dX11_verify_313 : decode cX11_verify 313 = .ok (.invokestatic 301, 3) := dq_184 (dq_suf 9 dt39bcX11_verify_19 rfl rfl) rfl
theorem dX11_verify_316 : decode cX11_verify 316 = .ok (.aload_n 0, 1) := dq_42 (dq_suf 12 dt39bcX11_verify_19 rfl rfl)
theorem dX11_verify_317 : decode cX11_verify 317 = .ok (.getfield 130, 3) := dq_180 (dq_suf 13 dt39bcX11_verify_19 rfl rfl) rfl
theorem dX11_verify_320 : decode cX11_verify 320 = .ok (.bipush 10, 2) := dq_16 (dq_suf 0 dt39bcX11_verify_20 rfl rfl) (by decide +kernel)
theorem dX11_verify_322 : decode cX11_verify 322 = .ok (.iload_n 3, 1) := dq_29 (dq_suf 2 dt39bcX11_verify_20 rfl rfl)
theorem dX11_verify_323 : decode cX11_verify 323 = .ok (.imul, 1) := dq_104 (dq_suf 3 dt39bcX11_verify_20 rfl rfl)
theorem dX11_verify_324 : decode cX11_verify 324 = .ok (.aload_n 0, 1) := dq_42 (dq_suf 4 dt39bcX11_verify_20 rfl rfl)
theorem dX11_verify_325 : decode cX11_verify 325 = .ok (.getfield 23, 3) := dq_180 (dq_suf 5 dt39bcX11_verify_20 rfl rfl) rfl
theorem dX11_verify_328 : decode cX11_verify 328 = .ok (.iload 7, 2) := dq_21 (dq_suf 8 dt39bcX11_verify_20 rfl rfl) rfl
theorem dX11_verify_330 : decode cX11_verify 330 = .ok (.iaload, 1) := dq_46 (dq_suf 10 dt39bcX11_verify_20 rfl rfl)
theorem dX11_verify_331 : decode cX11_verify 331 = .ok (.invokestatic 324, 3) := dq_184 (dq_suf 11 dt39bcX11_verify_20 rfl rfl) rfl
theorem dX11_verify_334 : decode cX11_verify 334 = .ok (.iinc 3 1, 3) := dq_132 (dq_suf 14 dt39bcX11_verify_20 rfl rfl) rfl (by decide +kernel)
theorem dX11_verify_337 : decode cX11_verify 337 = .ok (.iload 6, 2) := dq_21 (dq_suf 1 dt39bcX11_verify_21 rfl rfl) rfl
theorem dX11_verify_339 : decode cX11_verify 339 = .ok (.iconst 4, 1) := dq_7 (dq_suf 3 dt39bcX11_verify_21 rfl rfl)
theorem dX11_verify_340 : decode cX11_verify 340 = .ok (.if_icmp .ne 25, 3) := dq_160 (dq_suf 4 dt39bcX11_verify_21 rfl rfl) (by decide +kernel)
theorem dX11_verify_343 : decode cX11_verify 343 = .ok (.aload_n 0, 1) := dq_42 (dq_suf 7 dt39bcX11_verify_21 rfl rfl)
theorem dX11_verify_344 : decode cX11_verify 344 = .ok (.iload 7, 2) := dq_21 (dq_suf 8 dt39bcX11_verify_21 rfl rfl) rfl
theorem dX11_verify_346 : decode cX11_verify 346 = .ok (.invokevirtual 344, 3) := dq_182 (dq_suf 10 dt39bcX11_verify_21 rfl rfl) rfl
theorem dX11_verify_349 : decode cX11_verify 349 = .ok (.aload_n 0, 1) := dq_42 (dq_suf 13 dt39bcX11_verify_21 rfl rfl)
theorem dX11_verify_350 : decode cX11_verify 350 = .ok (.getfield 112, 3) := dq_180 (dq_suf 14 dt39bcX11_verify_21 rfl rfl) rfl
theorem dX11_verify_353 : decode cX11_verify 353 = .ok (.iconst 0, 1) := dq_3 (dq_suf 1 dt39bcX11_verify_22 rfl rfl)
theorem dX11_verify_354 : decode cX11_verify 354 = .ok (.aload_n 0, 1) := dq_42 (dq_suf 2 dt39bcX11_verify_22 rfl rfl)
theorem dX11_verify_355 : decode cX11_verify 355 = .ok (.getfield 69, 3) := dq_180 (dq_suf 3 dt39bcX11_verify_22 rfl rfl) rfl
theorem dX11_verify_358 : decode cX11_verify 358 = .ok (.iconst 0, 1) := dq_3 (dq_suf 6 dt39bcX11_verify_22 rfl rfl)
theorem dX11_verify_359 : decode cX11_verify 359 = .ok (.invokestatic 301, 3) := dq_184 (dq_suf 7 dt39bcX11_verify_22 rfl rfl) rfl
theorem dX11_verify_362 : decode cX11_verify 362 = .ok (.goto 39, 3) := dq_167 (dq_suf 10 dt39bcX11_verify_22 rfl rfl) (by decide +kernel)
theorem dX11_verify_365 : decode cX11_verify 365 = .ok (.aload_n 0, 1) := dq_42 (dq_suf 13 dt39bcX11_verify_22 rfl rfl)
theorem dX11_verify_366 : decode cX11_verify 366 = .ok (.getfield 69, 3) := dq_180 (dq_suf 14 dt39bcX11_verify_22 rfl rfl) rfl
theorem dX11_verify_369 : decode cX11_verify 369 = .ok (.iconst 0, 1) := dq_3 (dq_suf 1 dt39bcX11_verify_23 rfl rfl)
theorem dX11_verify_370 : decode cX11_verify 370 = .ok (.aload_n 0, 1) := dq_42 (dq_suf 2 dt39bcX11_verify_23 rfl rfl)
theorem dX11_verify_371 : decode cX11_verify 371 = .ok (.getfield 20, 3) := dq_180 (dq_suf 3 dt39bcX11_verify_23 rfl rfl) rfl
theorem dX11_verify_374 : decode cX11_verify 374 = .ok (.iload 7, 2) := dq_21 (dq_suf 6 dt39bcX11_verify_23 rfl rfl) rfl
theorem dX11_verify_376 : decode cX11_verify 376 = .ok (.iaload, 1) := dq_46 (dq_suf 8 dt39bcX11_verify_23 rfl rfl)
theorem dX11_verify_377 : decode cX11_verify 377 = .ok (.invokestatic 324, 3) := dq_184 (dq_suf 9 dt39bcX11_verify_23 rfl rfl) rfl
theorem dX11_verify_380 : decode cX11_verify 380 = .ok (.iload 6, 2) := dq_21 (dq_suf 12 dt39bcX11_verify_23 rfl rfl) rfl
theorem dX11_verify_382 : decode cX11_verify 382 = .ok (.iconst 1, 1) := dq_4 (dq_suf 14 dt39bcX11_verify_23 rfl rfl)
theorem dX11_verify_383 : decode cX11_verify 383 = .ok (.if_icmp .ne 18, 3) := dq_160 (dq_suf 15 dt39bcX11_verify_23 rfl rfl) (by decide +kernel)
theorem dX11_verify_386 : decode cX11_verify 386 = .ok (.aload_n 0, 1) := dq_42 (dq_suf 2 dt39bcX11_verify_24 rfl rfl)
theorem dX11_verify_387 : decode cX11_verify 387 = .ok (.getfield 69, 3) := dq_180 (dq_suf 3 dt39bcX11_verify_24 rfl rfl) rfl
theorem dX11_verify_390 : decode cX11_verify 390 = .ok (.iconst 0, 1) := dq_3 (dq_suf 6 dt39bcX11_verify_24 rfl rfl)
theorem dX11_verify_391 : decode cX11_verify 391 = .ok (.aload_n 0, 1) := dq_42 (dq_suf 7 dt39bcX11_verify_24 rfl rfl)
theorem dX11_verify_392 : decode cX11_verify 392 = .ok (.getfield 23, 3) := dq_180 (dq_suf 8 dt39bcX11_verify_24 rfl rfl) rfl
theorem dX11_verify_395 : decode cX11_verify 395 = .ok (.iload 7, 2) := dq_21 (dq_suf 11 dt39bcX11_verify_24 rfl rfl) rfl
theorem dX11_verify_397 : decode cX11_verify 397 = .ok (.iaload, 1) := dq_46 (dq_suf 13 dt39bcX11_verify_24 rfl rfl)
theorem dX11_verify_398 : decode cX11_verify 398 = .ok (.invokestatic 324, 3) := dq_184 (dq_suf 14 dt39bcX11_verify_24 rfl rfl) rfl
theorem dX11_verify_401 : decode cX11_verify 401 = .ok (.iinc 5 3, 3) := dq_132 (dq_suf 1 dt39bcX11_verify_25 rfl rfl) rfl (by decide +kernel)
theorem dX11_verify_404 : decode cX11_verify 404 = .ok (.goto (-316), 3) := dq_167 (dq_suf 4 dt39bcX11_verify_25 rfl rfl) (by decide +kernel)
theorem dX11_verify_407 : decode cX11_verify 407 = .ok (.iload 4, 2) := dq_21 (dq_suf 7 dt39bcX11_verify_25 rfl rfl) rfl
theorem dX11_verify_409 : decode cX11_verify 409 = .ok (.ifCond .eq 7, 3) := dq_153 (dq_suf 9 dt39bcX11_verify_25 rfl rfl) (by decide +kernel)
theorem dX11_verify_412 : decode cX11_verify 412 = .ok (.iconst 0, 1) := dq_3 (dq_suf 12 dt39bcX11_verify_25 rfl rfl)
theorem dX11_verify_413 : decode cX11_verify 413 = .ok (.goto 4, 3) := dq_167 (dq_suf 13 dt39bcX11_verify_25 rfl rfl) (by decide +kernel)
theorem dX11_verify_416 : decode cX11_verify 416 = .ok (.iconst 1, 1) := dq_4 (dq_suf 0 dt39bcX11_verify_26 rfl rfl)
theorem dX11_verify_417 : decode cX11_verify 417 = .ok (.ireturn, 1) := dq_172 (dq_suf 1 dt39bcX11_verify_26 rfl rfl)
noncomputable def ds39bcX11_world0_2 : List UInt8 := 0 :: 4 :: 3 :: 172 :: []
noncomputable def ds39bcX11_world0_1 : List UInt8 := 167 :: 0 :: 4 :: 4 :: 181 :: 0 :: 151 :: 42 :: 180 :: 0 :: 151 :: 154 :: 0 :: 7 :: 4 :: 167 :: ds39bcX11_world0_2
noncomputable def ds39bcX11_world0_0 : List UInt8 := 42 :: 27 :: 3 :: 42 :: 180 :: 1 :: 119 :: 4 :: 100 :: 184 :: 0 :: 161 :: 153 :: 0 :: 7 :: 3 :: ds39bcX11_world0_1
theorem dt39bcX11_world0_0 : cX11_world0.data.toList.drop 0 = ds39bcX11_world0_0 := by decide +kernel
theorem dt39bcX11_world0_1 : cX11_world0.data.toList.drop 16 = ds39bcX11_world0_1 := dq_suf 16 dt39bcX11_world0_0 rfl rfl
theorem dt39bcX11_world0_2 : cX11_world0.data.toList.drop 32 = ds39bcX11_world0_2 := dq_suf 16 dt39bcX11_world0_1 rfl rfl
theorem dX11_world0_0 : decode cX11_world0 0 = .ok (.aload_n 0, 1) := dq_42 (dq_suf 0 dt39bcX11_world0_0 rfl rfl)
theorem dX11_world0_1 : decode cX11_world0 1 = .ok (.iload_n 1, 1) := dq_27 (dq_suf 1 dt39bcX11_world0_0 rfl rfl)
theorem dX11_world0_2 : decode cX11_world0 2 = .ok (.iconst 0, 1) := dq_3 (dq_suf 2 dt39bcX11_world0_0 rfl rfl)
theorem dX11_world0_3 : decode cX11_world0 3 = .ok (.aload_n 0, 1) := dq_42 (dq_suf 3 dt39bcX11_world0_0 rfl rfl)
theorem dX11_world0_4 : decode cX11_world0 4 = .ok (.getfield 375, 3) := dq_180 (dq_suf 4 dt39bcX11_world0_0 rfl rfl) rfl
theorem dX11_world0_7 : decode cX11_world0 7 = .ok (.iconst 1, 1) := dq_4 (dq_suf 7 dt39bcX11_world0_0 rfl rfl)
theorem dX11_world0_8 : decode cX11_world0 8 = .ok (.isub, 1) := dq_100 (dq_suf 8 dt39bcX11_world0_0 rfl rfl)
theorem dX11_world0_9 : decode cX11_world0 9 = .ok (.invokestatic 161, 3) := dq_184 (dq_suf 9 dt39bcX11_world0_0 rfl rfl) rfl
theorem dX11_world0_12 : decode cX11_world0 12 = .ok (.ifCond .eq 7, 3) := dq_153 (dq_suf 12 dt39bcX11_world0_0 rfl rfl) (by decide +kernel)
theorem dX11_world0_15 : decode cX11_world0 15 = .ok (.iconst 0, 1) := dq_3 (dq_suf 15 dt39bcX11_world0_0 rfl rfl)
theorem dX11_world0_16 : decode cX11_world0 16 = .ok (.goto 4, 3) := dq_167 (dq_suf 0 dt39bcX11_world0_1 rfl rfl) (by decide +kernel)
theorem dX11_world0_19 : decode cX11_world0 19 = .ok (.iconst 1, 1) := dq_4 (dq_suf 3 dt39bcX11_world0_1 rfl rfl)
theorem dX11_world0_20 : decode cX11_world0 20 = .ok (.putfield 151, 3) := dq_181 (dq_suf 4 dt39bcX11_world0_1 rfl rfl) rfl
theorem dX11_world0_23 : decode cX11_world0 23 = .ok (.aload_n 0, 1) := dq_42 (dq_suf 7 dt39bcX11_world0_1 rfl rfl)
theorem dX11_world0_24 : decode cX11_world0 24 = .ok (.getfield 151, 3) := dq_180 (dq_suf 8 dt39bcX11_world0_1 rfl rfl) rfl
theorem dX11_world0_27 : decode cX11_world0 27 = .ok (.ifCond .ne 7, 3) := dq_154 (dq_suf 11 dt39bcX11_world0_1 rfl rfl) (by decide +kernel)
theorem dX11_world0_30 : decode cX11_world0 30 = .ok (.iconst 1, 1) := dq_4 (dq_suf 14 dt39bcX11_world0_1 rfl rfl)
theorem dX11_world0_31 : decode cX11_world0 31 = .ok (.goto 4, 3) := dq_167 (dq_suf 15 dt39bcX11_world0_1 rfl rfl) (by decide +kernel)
theorem dX11_world0_34 : decode cX11_world0 34 = .ok (.iconst 0, 1) := dq_3 (dq_suf 2 dt39bcX11_world0_2 rfl rfl)
theorem dX11_world0_35 : decode cX11_world0 35 = .ok (.ireturn, 1) := dq_172 (dq_suf 3 dt39bcX11_world0_2 rfl rfl)
noncomputable def ds39bcX11_worlds_0 : List UInt8 := 42 :: 3 :: 181 :: 0 :: 151 :: 42 :: 180 :: 1 :: 119 :: 172 :: []
theorem dt39bcX11_worlds_0 : cX11_worlds.data.toList.drop 0 = ds39bcX11_worlds_0 := by decide +kernel
theorem dX11_worlds_0 : decode cX11_worlds 0 = .ok (.aload_n 0, 1) := dq_42 (dq_suf 0 dt39bcX11_worlds_0 rfl rfl)
theorem dX11_worlds_1 : decode cX11_worlds 1 = .ok (.iconst 0, 1) := dq_3 (dq_suf 1 dt39bcX11_worlds_0 rfl rfl)
theorem dX11_worlds_2 : decode cX11_worlds 2 = .ok (.putfield 151, 3) := dq_181 (dq_suf 2 dt39bcX11_worlds_0 rfl rfl) rfl
theorem dX11_worlds_5 : decode cX11_worlds 5 = .ok (.aload_n 0, 1) := dq_42 (dq_suf 5 dt39bcX11_worlds_0 rfl rfl)
theorem dX11_worlds_6 : decode cX11_worlds 6 = .ok (.getfield 375, 3) := dq_180 (dq_suf 6 dt39bcX11_worlds_0 rfl rfl) rfl
theorem dX11_worlds_9 : decode cX11_worlds 9 = .ok (.ireturn, 1) := dq_172 (dq_suf 9 dt39bcX11_worlds_0 rfl rfl)
noncomputable def ds39bcX11_sees_2 : List UInt8 := 0 :: 4 :: 3 :: 172 :: []
noncomputable def ds39bcX11_sees_1 : List UInt8 := 42 :: 180 :: 0 :: 124 :: 16 :: 60 :: 27 :: 104 :: 28 :: 96 :: 51 :: 153 :: 0 :: 7 :: 4 :: 167 :: ds39bcX11_sees_2
noncomputable def ds39bcX11_sees_0 : List UInt8 := 42 :: 27 :: 182 :: 1 :: 128 :: 153 :: 0 :: 29 :: 42 :: 28 :: 182 :: 1 :: 128 :: 153 :: 0 :: 21 :: ds39bcX11_sees_1
theorem dt39bcX11_sees_0 : cX11_sees.data.toList.drop 0 = ds39bcX11_sees_0 := by decide +kernel
theorem dt39bcX11_sees_1 : cX11_sees.data.toList.drop 16 = ds39bcX11_sees_1 := dq_suf 16 dt39bcX11_sees_0 rfl rfl
theorem dt39bcX11_sees_2 : cX11_sees.data.toList.drop 32 = ds39bcX11_sees_2 := dq_suf 16 dt39bcX11_sees_1 rfl rfl
theorem dX11_sees_0 : decode cX11_sees 0 = .ok (.aload_n 0, 1) := dq_42 (dq_suf 0 dt39bcX11_sees_0 rfl rfl)
theorem dX11_sees_1 : decode cX11_sees 1 = .ok (.iload_n 1, 1) := dq_27 (dq_suf 1 dt39bcX11_sees_0 rfl rfl)
theorem dX11_sees_2 : decode cX11_sees 2 = .ok (.invokevirtual 384, 3) := dq_182 (dq_suf 2 dt39bcX11_sees_0 rfl rfl) rfl
theorem dX11_sees_5 : decode cX11_sees 5 = .ok (.ifCond .eq 29, 3) := dq_153 (dq_suf 5 dt39bcX11_sees_0 rfl rfl) (by decide +kernel)
theorem dX11_sees_8 : decode cX11_sees 8 = .ok (.aload_n 0, 1) := dq_42 (dq_suf 8 dt39bcX11_sees_0 rfl rfl)
theorem dX11_sees_9 : decode cX11_sees 9 = .ok (.iload_n 2, 1) := dq_28 (dq_suf 9 dt39bcX11_sees_0 rfl rfl)
theorem dX11_sees_10 : decode cX11_sees 10 = .ok (.invokevirtual 384, 3) := dq_182 (dq_suf 10 dt39bcX11_sees_0 rfl rfl) rfl
theorem dX11_sees_13 : decode cX11_sees 13 = .ok (.ifCond .eq 21, 3) := dq_153 (dq_suf 13 dt39bcX11_sees_0 rfl rfl) (by decide +kernel)
theorem dX11_sees_16 : decode cX11_sees 16 = .ok (.aload_n 0, 1) := dq_42 (dq_suf 0 dt39bcX11_sees_1 rfl rfl)
theorem dX11_sees_17 : decode cX11_sees 17 = .ok (.getfield 124, 3) := dq_180 (dq_suf 1 dt39bcX11_sees_1 rfl rfl) rfl
theorem dX11_sees_20 : decode cX11_sees 20 = .ok (.bipush 60, 2) := dq_16 (dq_suf 4 dt39bcX11_sees_1 rfl rfl) (by decide +kernel)
theorem dX11_sees_22 : decode cX11_sees 22 = .ok (.iload_n 1, 1) := dq_27 (dq_suf 6 dt39bcX11_sees_1 rfl rfl)
theorem dX11_sees_23 : decode cX11_sees 23 = .ok (.imul, 1) := dq_104 (dq_suf 7 dt39bcX11_sees_1 rfl rfl)
theorem dX11_sees_24 : decode cX11_sees 24 = .ok (.iload_n 2, 1) := dq_28 (dq_suf 8 dt39bcX11_sees_1 rfl rfl)
theorem dX11_sees_25 : decode cX11_sees 25 = .ok (.iadd, 1) := dq_96 (dq_suf 9 dt39bcX11_sees_1 rfl rfl)
theorem dX11_sees_26 : decode cX11_sees 26 = .ok (.baload, 1) := dq_51 (dq_suf 10 dt39bcX11_sees_1 rfl rfl)
theorem dX11_sees_27 : decode cX11_sees 27 = .ok (.ifCond .eq 7, 3) := dq_153 (dq_suf 11 dt39bcX11_sees_1 rfl rfl) (by decide +kernel)
theorem dX11_sees_30 : decode cX11_sees 30 = .ok (.iconst 1, 1) := dq_4 (dq_suf 14 dt39bcX11_sees_1 rfl rfl)
theorem dX11_sees_31 : decode cX11_sees 31 = .ok (.goto 4, 3) := dq_167 (dq_suf 15 dt39bcX11_sees_1 rfl rfl) (by decide +kernel)
theorem dX11_sees_34 : decode cX11_sees 34 = .ok (.iconst 0, 1) := dq_3 (dq_suf 2 dt39bcX11_sees_2 rfl rfl)
theorem dX11_sees_35 : decode cX11_sees 35 = .ok (.ireturn, 1) := dq_172 (dq_suf 3 dt39bcX11_sees_2 rfl rfl)
noncomputable def ds39bcX11_holds_5 : List UInt8 := 60 :: 28 :: 104 :: 27 :: 96 :: 51 :: 172 :: []
noncomputable def ds39bcX11_holds_4 : List UInt8 := 4 :: 1 :: 167 :: 255 :: 225 :: 132 :: 3 :: 1 :: 167 :: 255 :: 211 :: 42 :: 180 :: 0 :: 133 :: 16 :: ds39bcX11_holds_5
noncomputable def ds39bcX11_holds_3 : List UInt8 := 16 :: 60 :: 29 :: 104 :: 21 :: 4 :: 96 :: 42 :: 29 :: 21 :: 4 :: 182 :: 1 :: 131 :: 84 :: 132 :: ds39bcX11_holds_4
noncomputable def ds39bcX11_holds_2 : List UInt8 := 3 :: 54 :: 4 :: 21 :: 4 :: 42 :: 180 :: 1 :: 119 :: 162 :: 0 :: 28 :: 42 :: 180 :: 0 :: 133 :: ds39bcX11_holds_3
noncomputable def ds39bcX11_holds_1 : List UInt8 := 0 :: 10 :: 42 :: 4 :: 181 :: 0 :: 151 :: 3 :: 172 :: 3 :: 62 :: 29 :: 28 :: 163 :: 0 :: 46 :: ds39bcX11_holds_2
noncomputable def ds39bcX11_holds_0 : List UInt8 := 42 :: 27 :: 182 :: 1 :: 128 :: 154 :: 0 :: 5 :: 3 :: 172 :: 42 :: 28 :: 182 :: 1 :: 8 :: 154 :: ds39bcX11_holds_1
theorem dt39bcX11_holds_0 : cX11_holds.data.toList.drop 0 = ds39bcX11_holds_0 := by decide +kernel
theorem dt39bcX11_holds_1 : cX11_holds.data.toList.drop 16 = ds39bcX11_holds_1 := dq_suf 16 dt39bcX11_holds_0 rfl rfl
theorem dt39bcX11_holds_2 : cX11_holds.data.toList.drop 32 = ds39bcX11_holds_2 := dq_suf 16 dt39bcX11_holds_1 rfl rfl
theorem dt39bcX11_holds_3 : cX11_holds.data.toList.drop 48 = ds39bcX11_holds_3 := dq_suf 16 dt39bcX11_holds_2 rfl rfl
theorem dt39bcX11_holds_4 : cX11_holds.data.toList.drop 64 = ds39bcX11_holds_4 := dq_suf 16 dt39bcX11_holds_3 rfl rfl
theorem dt39bcX11_holds_5 : cX11_holds.data.toList.drop 80 = ds39bcX11_holds_5 := dq_suf 16 dt39bcX11_holds_4 rfl rfl
theorem dX11_holds_0 : decode cX11_holds 0 = .ok (.aload_n 0, 1) := dq_42 (dq_suf 0 dt39bcX11_holds_0 rfl rfl)
theorem dX11_holds_1 : decode cX11_holds 1 = .ok (.iload_n 1, 1) := dq_27 (dq_suf 1 dt39bcX11_holds_0 rfl rfl)
theorem dX11_holds_2 : decode cX11_holds 2 = .ok (.invokevirtual 384, 3) := dq_182 (dq_suf 2 dt39bcX11_holds_0 rfl rfl) rfl
theorem dX11_holds_5 : decode cX11_holds 5 = .ok (.ifCond .ne 5, 3) := dq_154 (dq_suf 5 dt39bcX11_holds_0 rfl rfl) (by decide +kernel)
theorem dX11_holds_8 : decode cX11_holds 8 = .ok (.iconst 0, 1) := dq_3 (dq_suf 8 dt39bcX11_holds_0 rfl rfl)
theorem dX11_holds_9 : decode cX11_holds 9 = .ok (.ireturn, 1) := dq_172 (dq_suf 9 dt39bcX11_holds_0 rfl rfl)
theorem dX11_holds_10 : decode cX11_holds 10 = .ok (.aload_n 0, 1) := dq_42 (dq_suf 10 dt39bcX11_holds_0 rfl rfl)
theorem dX11_holds_11 : decode cX11_holds 11 = .ok (.iload_n 2, 1) := dq_28 (dq_suf 11 dt39bcX11_holds_0 rfl rfl)
theorem dX11_holds_12 : decode cX11_holds 12 = .ok (.invokevirtual 264, 3) := dq_182 (dq_suf 12 dt39bcX11_holds_0 rfl rfl) rfl
theorem dX11_holds_15 : decode cX11_holds 15 = .ok (.ifCond .ne 10, 3) := dq_154 (dq_suf 15 dt39bcX11_holds_0 rfl rfl) (by decide +kernel)
theorem dX11_holds_18 : decode cX11_holds 18 = .ok (.aload_n 0, 1) := dq_42 (dq_suf 2 dt39bcX11_holds_1 rfl rfl)
theorem dX11_holds_19 : decode cX11_holds 19 = .ok (.iconst 1, 1) := dq_4 (dq_suf 3 dt39bcX11_holds_1 rfl rfl)
theorem dX11_holds_20 : decode cX11_holds 20 = .ok (.putfield 151, 3) := dq_181 (dq_suf 4 dt39bcX11_holds_1 rfl rfl) rfl
theorem dX11_holds_23 : decode cX11_holds 23 = .ok (.iconst 0, 1) := dq_3 (dq_suf 7 dt39bcX11_holds_1 rfl rfl)
theorem dX11_holds_24 : decode cX11_holds 24 = .ok (.ireturn, 1) := dq_172 (dq_suf 8 dt39bcX11_holds_1 rfl rfl)
theorem dX11_holds_25 : decode cX11_holds 25 = .ok (.iconst 0, 1) := dq_3 (dq_suf 9 dt39bcX11_holds_1 rfl rfl)
theorem dX11_holds_26 : decode cX11_holds 26 = .ok (.istore_n 3, 1) := dq_62 (dq_suf 10 dt39bcX11_holds_1 rfl rfl)
theorem dX11_holds_27 : decode cX11_holds 27 = .ok (.iload_n 3, 1) := dq_29 (dq_suf 11 dt39bcX11_holds_1 rfl rfl)
theorem dX11_holds_28 : decode cX11_holds 28 = .ok (.iload_n 2, 1) := dq_28 (dq_suf 12 dt39bcX11_holds_1 rfl rfl)
theorem dX11_holds_29 : decode cX11_holds 29 = .ok (.if_icmp .gt 46, 3) := dq_163 (dq_suf 13 dt39bcX11_holds_1 rfl rfl) (by decide +kernel)
theorem dX11_holds_32 : decode cX11_holds 32 = .ok (.iconst 0, 1) := dq_3 (dq_suf 0 dt39bcX11_holds_2 rfl rfl)
theorem dX11_holds_33 : decode cX11_holds 33 = .ok (.istore 4, 2) := dq_54 (dq_suf 1 dt39bcX11_holds_2 rfl rfl) rfl
theorem dX11_holds_35 : decode cX11_holds 35 = .ok (.iload 4, 2) := dq_21 (dq_suf 3 dt39bcX11_holds_2 rfl rfl) rfl
theorem dX11_holds_37 : decode cX11_holds 37 = .ok (.aload_n 0, 1) := dq_42 (dq_suf 5 dt39bcX11_holds_2 rfl rfl)
theorem dX11_holds_38 : decode cX11_holds 38 = .ok (.getfield 375, 3) := dq_180 (dq_suf 6 dt39bcX11_holds_2 rfl rfl) rfl
theorem dX11_holds_41 : decode cX11_holds 41 = .ok (.if_icmp .ge 28, 3) := dq_162 (dq_suf 9 dt39bcX11_holds_2 rfl rfl) (by decide +kernel)
theorem dX11_holds_44 : decode cX11_holds 44 = .ok (.aload_n 0, 1) := dq_42 (dq_suf 12 dt39bcX11_holds_2 rfl rfl)
theorem dX11_holds_45 : decode cX11_holds 45 = .ok (.getfield 133, 3) := dq_180 (dq_suf 13 dt39bcX11_holds_2 rfl rfl) rfl
theorem dX11_holds_48 : decode cX11_holds 48 = .ok (.bipush 60, 2) := dq_16 (dq_suf 0 dt39bcX11_holds_3 rfl rfl) (by decide +kernel)
theorem dX11_holds_50 : decode cX11_holds 50 = .ok (.iload_n 3, 1) := dq_29 (dq_suf 2 dt39bcX11_holds_3 rfl rfl)
theorem dX11_holds_51 : decode cX11_holds 51 = .ok (.imul, 1) := dq_104 (dq_suf 3 dt39bcX11_holds_3 rfl rfl)
theorem dX11_holds_52 : decode cX11_holds 52 = .ok (.iload 4, 2) := dq_21 (dq_suf 4 dt39bcX11_holds_3 rfl rfl) rfl
theorem dX11_holds_54 : decode cX11_holds 54 = .ok (.iadd, 1) := dq_96 (dq_suf 6 dt39bcX11_holds_3 rfl rfl)
theorem dX11_holds_55 : decode cX11_holds 55 = .ok (.aload_n 0, 1) := dq_42 (dq_suf 7 dt39bcX11_holds_3 rfl rfl)
theorem dX11_holds_56 : decode cX11_holds 56 = .ok (.iload_n 3, 1) := dq_29 (dq_suf 8 dt39bcX11_holds_3 rfl rfl)
theorem dX11_holds_57 : decode cX11_holds 57 = .ok (.iload 4, 2) := dq_21 (dq_suf 9 dt39bcX11_holds_3 rfl rfl) rfl
theorem dX11_holds_59 : decode cX11_holds 59 = .ok (.invokevirtual 387, 3) := dq_182 (dq_suf 11 dt39bcX11_holds_3 rfl rfl) rfl
theorem dX11_holds_62 : decode cX11_holds 62 = .ok (.bastore, 1) := dq_84 (dq_suf 14 dt39bcX11_holds_3 rfl rfl)
theorem dX11_holds_63 : decode cX11_holds 63 = .ok (.iinc 4 1, 3) := dq_132 (dq_suf 15 dt39bcX11_holds_3 rfl rfl) rfl (by decide +kernel)
theorem dX11_holds_66 : decode cX11_holds 66 = .ok (.goto (-31), 3) := dq_167 (dq_suf 2 dt39bcX11_holds_4 rfl rfl) (by decide +kernel)
theorem dX11_holds_69 : decode cX11_holds 69 = .ok (.iinc 3 1, 3) := dq_132 (dq_suf 5 dt39bcX11_holds_4 rfl rfl) rfl (by decide +kernel)
theorem dX11_holds_72 : decode cX11_holds 72 = .ok (.goto (-45), 3) := dq_167 (dq_suf 8 dt39bcX11_holds_4 rfl rfl) (by decide +kernel)
theorem dX11_holds_75 : decode cX11_holds 75 = .ok (.aload_n 0, 1) := dq_42 (dq_suf 11 dt39bcX11_holds_4 rfl rfl)
theorem dX11_holds_76 : decode cX11_holds 76 = .ok (.getfield 133, 3) := dq_180 (dq_suf 12 dt39bcX11_holds_4 rfl rfl) rfl
theorem dX11_holds_79 : decode cX11_holds 79 = .ok (.bipush 60, 2) := dq_16 (dq_suf 15 dt39bcX11_holds_4 rfl rfl) (by decide +kernel)
theorem dX11_holds_81 : decode cX11_holds 81 = .ok (.iload_n 2, 1) := dq_28 (dq_suf 1 dt39bcX11_holds_5 rfl rfl)
theorem dX11_holds_82 : decode cX11_holds 82 = .ok (.imul, 1) := dq_104 (dq_suf 2 dt39bcX11_holds_5 rfl rfl)
theorem dX11_holds_83 : decode cX11_holds 83 = .ok (.iload_n 1, 1) := dq_27 (dq_suf 3 dt39bcX11_holds_5 rfl rfl)
theorem dX11_holds_84 : decode cX11_holds 84 = .ok (.iadd, 1) := dq_96 (dq_suf 4 dt39bcX11_holds_5 rfl rfl)
theorem dX11_holds_85 : decode cX11_holds 85 = .ok (.baload, 1) := dq_51 (dq_suf 5 dt39bcX11_holds_5 rfl rfl)
theorem dX11_holds_86 : decode cX11_holds 86 = .ok (.ireturn, 1) := dq_172 (dq_suf 6 dt39bcX11_holds_5 rfl rfl)
noncomputable def ds39bcX11_isTrue_17 : List UInt8 := 21 :: 4 :: 159 :: 0 :: 7 :: 4 :: 167 :: 0 :: 4 :: 3 :: 172 :: []
noncomputable def ds39bcX11_isTrue_16 : List UInt8 := 159 :: 0 :: 7 :: 4 :: 167 :: 0 :: 4 :: 3 :: 62 :: 132 :: 5 :: 1 :: 167 :: 255 :: 197 :: 29 :: ds39bcX11_isTrue_17
noncomputable def ds39bcX11_isTrue_15 : List UInt8 := 133 :: 16 :: 60 :: 42 :: 180 :: 0 :: 20 :: 27 :: 46 :: 104 :: 21 :: 5 :: 96 :: 51 :: 21 :: 4 :: ds39bcX11_isTrue_16
noncomputable def ds39bcX11_isTrue_14 : List UInt8 := 0 :: 124 :: 16 :: 60 :: 28 :: 104 :: 21 :: 5 :: 96 :: 51 :: 153 :: 0 :: 29 :: 42 :: 180 :: 0 :: ds39bcX11_isTrue_15
noncomputable def ds39bcX11_isTrue_13 : List UInt8 := 5 :: 21 :: 5 :: 42 :: 180 :: 1 :: 119 :: 162 :: 0 :: 56 :: 29 :: 154 :: 0 :: 40 :: 42 :: 180 :: ds39bcX11_isTrue_14
noncomputable def ds39bcX11_isTrue_12 : List UInt8 := 27 :: 46 :: 16 :: 6 :: 160 :: 0 :: 7 :: 4 :: 167 :: 0 :: 4 :: 3 :: 54 :: 4 :: 3 :: 54 :: ds39bcX11_isTrue_13
noncomputable def ds39bcX11_isTrue_11 : List UInt8 := 28 :: 96 :: 51 :: 153 :: 0 :: 7 :: 4 :: 167 :: 0 :: 4 :: 3 :: 172 :: 42 :: 180 :: 0 :: 16 :: ds39bcX11_isTrue_12
noncomputable def ds39bcX11_isTrue_10 : List UInt8 := 154 :: 0 :: 22 :: 42 :: 180 :: 0 :: 133 :: 16 :: 60 :: 42 :: 180 :: 0 :: 23 :: 27 :: 46 :: 104 :: ds39bcX11_isTrue_11
noncomputable def ds39bcX11_isTrue_9 : List UInt8 := 42 :: 180 :: 0 :: 133 :: 16 :: 60 :: 42 :: 180 :: 0 :: 20 :: 27 :: 46 :: 104 :: 28 :: 96 :: 51 :: ds39bcX11_isTrue_10
noncomputable def ds39bcX11_isTrue_8 : List UInt8 := 23 :: 27 :: 46 :: 104 :: 28 :: 96 :: 51 :: 153 :: 0 :: 7 :: 4 :: 167 :: 0 :: 4 :: 3 :: 172 :: ds39bcX11_isTrue_9
noncomputable def ds39bcX11_isTrue_7 : List UInt8 := 104 :: 28 :: 96 :: 51 :: 153 :: 0 :: 26 :: 42 :: 180 :: 0 :: 133 :: 16 :: 60 :: 42 :: 180 :: 0 :: ds39bcX11_isTrue_8
noncomputable def ds39bcX11_isTrue_6 : List UInt8 := 0 :: 4 :: 3 :: 172 :: 42 :: 180 :: 0 :: 133 :: 16 :: 60 :: 42 :: 180 :: 0 :: 20 :: 27 :: 46 :: ds39bcX11_isTrue_7
noncomputable def ds39bcX11_isTrue_5 : List UInt8 := 28 :: 46 :: 42 :: 180 :: 0 :: 20 :: 27 :: 46 :: 122 :: 4 :: 126 :: 154 :: 0 :: 7 :: 4 :: 167 :: ds39bcX11_isTrue_6
noncomputable def ds39bcX11_isTrue_4 : List UInt8 := 122 :: 4 :: 126 :: 153 :: 0 :: 7 :: 4 :: 167 :: 0 :: 4 :: 3 :: 172 :: 42 :: 180 :: 0 :: 121 :: ds39bcX11_isTrue_5
noncomputable def ds39bcX11_isTrue_3 : List UInt8 := 4 :: 172 :: 3 :: 172 :: 42 :: 180 :: 0 :: 121 :: 28 :: 46 :: 42 :: 180 :: 0 :: 20 :: 27 :: 46 :: ds39bcX11_isTrue_4
noncomputable def ds39bcX11_isTrue_2 : List UInt8 := 0 :: 0 :: 0 :: 44 :: 0 :: 0 :: 0 :: 68 :: 0 :: 0 :: 0 :: 92 :: 0 :: 0 :: 0 :: 136 :: ds39bcX11_isTrue_3
noncomputable def ds39bcX11_isTrue_1 : List UInt8 := 0 :: 0 :: 0 :: 0 :: 0 :: 0 :: 0 :: 5 :: 0 :: 0 :: 0 :: 40 :: 0 :: 0 :: 0 :: 42 :: ds39bcX11_isTrue_2
noncomputable def ds39bcX11_isTrue_0 : List UInt8 := 3 :: 62 :: 42 :: 180 :: 0 :: 16 :: 27 :: 46 :: 170 :: 0 :: 0 :: 0 :: 0 :: 0 :: 0 :: 180 :: ds39bcX11_isTrue_1
theorem dt39bcX11_isTrue_0 : cX11_isTrue.data.toList.drop 0 = ds39bcX11_isTrue_0 := by decide +kernel
theorem dt39bcX11_isTrue_1 : cX11_isTrue.data.toList.drop 16 = ds39bcX11_isTrue_1 := dq_suf 16 dt39bcX11_isTrue_0 rfl rfl
theorem dt39bcX11_isTrue_2 : cX11_isTrue.data.toList.drop 32 = ds39bcX11_isTrue_2 := dq_suf 16 dt39bcX11_isTrue_1 rfl rfl
theorem dt39bcX11_isTrue_3 : cX11_isTrue.data.toList.drop 48 = ds39bcX11_isTrue_3 := dq_suf 16 dt39bcX11_isTrue_2 rfl rfl
theorem dt39bcX11_isTrue_4 : cX11_isTrue.data.toList.drop 64 = ds39bcX11_isTrue_4 := dq_suf 16 dt39bcX11_isTrue_3 rfl rfl
theorem dt39bcX11_isTrue_5 : cX11_isTrue.data.toList.drop 80 = ds39bcX11_isTrue_5 := dq_suf 16 dt39bcX11_isTrue_4 rfl rfl
theorem dt39bcX11_isTrue_6 : cX11_isTrue.data.toList.drop 96 = ds39bcX11_isTrue_6 := dq_suf 16 dt39bcX11_isTrue_5 rfl rfl
theorem dt39bcX11_isTrue_7 : cX11_isTrue.data.toList.drop 112 = ds39bcX11_isTrue_7 := dq_suf 16 dt39bcX11_isTrue_6 rfl rfl
theorem dt39bcX11_isTrue_8 : cX11_isTrue.data.toList.drop 128 = ds39bcX11_isTrue_8 := dq_suf 16 dt39bcX11_isTrue_7 rfl rfl
theorem dt39bcX11_isTrue_9 : cX11_isTrue.data.toList.drop 144 = ds39bcX11_isTrue_9 := dq_suf 16 dt39bcX11_isTrue_8 rfl rfl
theorem dt39bcX11_isTrue_10 : cX11_isTrue.data.toList.drop 160 = ds39bcX11_isTrue_10 := dq_suf 16 dt39bcX11_isTrue_9 rfl rfl
theorem dt39bcX11_isTrue_11 : cX11_isTrue.data.toList.drop 176 = ds39bcX11_isTrue_11 := dq_suf 16 dt39bcX11_isTrue_10 rfl rfl
theorem dt39bcX11_isTrue_12 : cX11_isTrue.data.toList.drop 192 = ds39bcX11_isTrue_12 := dq_suf 16 dt39bcX11_isTrue_11 rfl rfl
theorem dt39bcX11_isTrue_13 : cX11_isTrue.data.toList.drop 208 = ds39bcX11_isTrue_13 := dq_suf 16 dt39bcX11_isTrue_12 rfl rfl
theorem dt39bcX11_isTrue_14 : cX11_isTrue.data.toList.drop 224 = ds39bcX11_isTrue_14 := dq_suf 16 dt39bcX11_isTrue_13 rfl rfl
theorem dt39bcX11_isTrue_15 : cX11_isTrue.data.toList.drop 240 = ds39bcX11_isTrue_15 := dq_suf 16 dt39bcX11_isTrue_14 rfl rfl
theorem dt39bcX11_isTrue_16 : cX11_isTrue.data.toList.drop 256 = ds39bcX11_isTrue_16 := dq_suf 16 dt39bcX11_isTrue_15 rfl rfl
theorem dt39bcX11_isTrue_17 : cX11_isTrue.data.toList.drop 272 = ds39bcX11_isTrue_17 := dq_suf 16 dt39bcX11_isTrue_16 rfl rfl
theorem dX11_isTrue_0 : decode cX11_isTrue 0 = .ok (.iconst 0, 1) := dq_3 (dq_suf 0 dt39bcX11_isTrue_0 rfl rfl)
theorem dX11_isTrue_1 : decode cX11_isTrue 1 = .ok (.istore_n 3, 1) := dq_62 (dq_suf 1 dt39bcX11_isTrue_0 rfl rfl)
theorem dX11_isTrue_2 : decode cX11_isTrue 2 = .ok (.aload_n 0, 1) := dq_42 (dq_suf 2 dt39bcX11_isTrue_0 rfl rfl)
theorem dX11_isTrue_3 : decode cX11_isTrue 3 = .ok (.getfield 16, 3) := dq_180 (dq_suf 3 dt39bcX11_isTrue_0 rfl rfl) rfl
theorem dX11_isTrue_6 : decode cX11_isTrue 6 = .ok (.iload_n 1, 1) := dq_27 (dq_suf 6 dt39bcX11_isTrue_0 rfl rfl)
theorem dX11_isTrue_7 : decode cX11_isTrue 7 = .ok (.iaload, 1) := dq_46 (dq_suf 7 dt39bcX11_isTrue_0 rfl rfl)
theorem dX11_isTrue_8 : decode cX11_isTrue 8 = .ok (.tableswitch 180 0 5 #[40, 42, 44, 68, 92, 136], 40) := by decide +kernel
theorem dX11_isTrue_48 : decode cX11_isTrue 48 = .ok (.iconst 1, 1) := dq_4 (dq_suf 0 dt39bcX11_isTrue_3 rfl rfl)
theorem dX11_isTrue_49 : decode cX11_isTrue 49 = .ok (.ireturn, 1) := dq_172 (dq_suf 1 dt39bcX11_isTrue_3 rfl rfl)
theorem dX11_isTrue_50 : decode cX11_isTrue 50 = .ok (.iconst 0, 1) := dq_3 (dq_suf 2 dt39bcX11_isTrue_3 rfl rfl)
theorem dX11_isTrue_51 : decode cX11_isTrue 51 = .ok (.ireturn, 1) := dq_172 (dq_suf 3 dt39bcX11_isTrue_3 rfl rfl)
theorem dX11_isTrue_52 : decode cX11_isTrue 52 = .ok (.aload_n 0, 1) := dq_42 (dq_suf 4 dt39bcX11_isTrue_3 rfl rfl)
theorem dX11_isTrue_53 : decode cX11_isTrue 53 = .ok (.getfield 121, 3) := dq_180 (dq_suf 5 dt39bcX11_isTrue_3 rfl rfl) rfl
theorem dX11_isTrue_56 : decode cX11_isTrue 56 = .ok (.iload_n 2, 1) := dq_28 (dq_suf 8 dt39bcX11_isTrue_3 rfl rfl)
theorem dX11_isTrue_57 : decode cX11_isTrue 57 = .ok (.iaload, 1) := dq_46 (dq_suf 9 dt39bcX11_isTrue_3 rfl rfl)
theorem dX11_isTrue_58 : decode cX11_isTrue 58 = .ok (.aload_n 0, 1) := dq_42 (dq_suf 10 dt39bcX11_isTrue_3 rfl rfl)
theorem dX11_isTrue_59 : decode cX11_isTrue 59 = .ok (.getfield 20, 3) := dq_180 (dq_suf 11 dt39bcX11_isTrue_3 rfl rfl) rfl
theorem dX11_isTrue_62 : decode cX11_isTrue 62 = .ok (.iload_n 1, 1) := dq_27 (dq_suf 14 dt39bcX11_isTrue_3 rfl rfl)
theorem dX11_isTrue_63 : decode cX11_isTrue 63 = .ok (.iaload, 1) := dq_46 (dq_suf 15 dt39bcX11_isTrue_3 rfl rfl)
theorem dX11_isTrue_64 : decode cX11_isTrue 64 = .ok (.ishr, 1) := dq_122 (dq_suf 0 dt39bcX11_isTrue_4 rfl rfl)
theorem dX11_isTrue_65 : decode cX11_isTrue 65 = .ok (.iconst 1, 1) := dq_4 (dq_suf 1 dt39bcX11_isTrue_4 rfl rfl)
theorem dX11_isTrue_66 : decode cX11_isTrue 66 = .ok (.iand, 1) := dq_126 (dq_suf 2 dt39bcX11_isTrue_4 rfl rfl)
theorem dX11_isTrue_67 : decode cX11_isTrue 67 = .ok (.ifCond .eq 7, 3) := dq_153 (dq_suf 3 dt39bcX11_isTrue_4 rfl rfl) (by decide +kernel)
theorem dX11_isTrue_70 : decode cX11_isTrue 70 = .ok (.iconst 1, 1) := dq_4 (dq_suf 6 dt39bcX11_isTrue_4 rfl rfl)
theorem dX11_isTrue_71 : decode cX11_isTrue 71 = .ok (.goto 4, 3) := dq_167 (dq_suf 7 dt39bcX11_isTrue_4 rfl rfl) (by decide +kernel)
theorem dX11_isTrue_74 : decode cX11_isTrue 74 = .ok (.iconst 0, 1) := dq_3 (dq_suf 10 dt39bcX11_isTrue_4 rfl rfl)
theorem dX11_isTrue_75 : decode cX11_isTrue 75 = .ok (.ireturn, 1) := dq_172 (dq_suf 11 dt39bcX11_isTrue_4 rfl rfl)
theorem dX11_isTrue_76 : decode cX11_isTrue 76 = .ok (.aload_n 0, 1) := dq_42 (dq_suf 12 dt39bcX11_isTrue_4 rfl rfl)
theorem dX11_isTrue_77 : decode cX11_isTrue 77 = .ok (.getfield 121, 3) := dq_180 (dq_suf 13 dt39bcX11_isTrue_4 rfl rfl) rfl
theorem dX11_isTrue_80 : decode cX11_isTrue 80 = .ok (.iload_n 2, 1) := dq_28 (dq_suf 0 dt39bcX11_isTrue_5 rfl rfl)
theorem dX11_isTrue_81 : decode cX11_isTrue 81 = .ok (.iaload, 1) := dq_46 (dq_suf 1 dt39bcX11_isTrue_5 rfl rfl)
theorem dX11_isTrue_82 : decode cX11_isTrue 82 = .ok (.aload_n 0, 1) := dq_42 (dq_suf 2 dt39bcX11_isTrue_5 rfl rfl)
theorem dX11_isTrue_83 : decode cX11_isTrue 83 = .ok (.getfield 20, 3) := dq_180 (dq_suf 3 dt39bcX11_isTrue_5 rfl rfl) rfl
theorem dX11_isTrue_86 : decode cX11_isTrue 86 = .ok (.iload_n 1, 1) := dq_27 (dq_suf 6 dt39bcX11_isTrue_5 rfl rfl)
theorem dX11_isTrue_87 : decode cX11_isTrue 87 = .ok (.iaload, 1) := dq_46 (dq_suf 7 dt39bcX11_isTrue_5 rfl rfl)
theorem dX11_isTrue_88 : decode cX11_isTrue 88 = .ok (.ishr, 1) := dq_122 (dq_suf 8 dt39bcX11_isTrue_5 rfl rfl)
theorem dX11_isTrue_89 : decode cX11_isTrue 89 = .ok (.iconst 1, 1) := dq_4 (dq_suf 9 dt39bcX11_isTrue_5 rfl rfl)
theorem dX11_isTrue_90 : decode cX11_isTrue 90 = .ok (.iand, 1) := dq_126 (dq_suf 10 dt39bcX11_isTrue_5 rfl rfl)
theorem dX11_isTrue_91 : decode cX11_isTrue 91 = .ok (.ifCond .ne 7, 3) := dq_154 (dq_suf 11 dt39bcX11_isTrue_5 rfl rfl) (by decide +kernel)
theorem dX11_isTrue_94 : decode cX11_isTrue 94 = .ok (.iconst 1, 1) := dq_4 (dq_suf 14 dt39bcX11_isTrue_5 rfl rfl)
theorem dX11_isTrue_95 : decode cX11_isTrue 95 = .ok (.goto 4, 3) := dq_167 (dq_suf 15 dt39bcX11_isTrue_5 rfl rfl) (by decide +kernel)
theorem dX11_isTrue_98 : decode cX11_isTrue 98 = .ok (.iconst 0, 1) := dq_3 (dq_suf 2 dt39bcX11_isTrue_6 rfl rfl)
theorem dX11_isTrue_99 : decode cX11_isTrue 99 = .ok (.ireturn, 1) := dq_172 (dq_suf 3 dt39bcX11_isTrue_6 rfl rfl)
theorem dX11_isTrue_100 : decode cX11_isTrue 100 = .ok (.aload_n 0, 1) := dq_42 (dq_suf 4 dt39bcX11_isTrue_6 rfl rfl)
theorem dX11_isTrue_101 : decode cX11_isTrue 101 = .ok (.getfield 133, 3) := dq_180 (dq_suf 5 dt39bcX11_isTrue_6 rfl rfl) rfl
theorem dX11_isTrue_104 : decode cX11_isTrue 104 = .ok (.bipush 60, 2) := dq_16 (dq_suf 8 dt39bcX11_isTrue_6 rfl rfl) (by decide +kernel)
theorem dX11_isTrue_106 : decode cX11_isTrue 106 = .ok (.aload_n 0, 1) := dq_42 (dq_suf 10 dt39bcX11_isTrue_6 rfl rfl)
theorem dX11_isTrue_107 : decode cX11_isTrue 107 = .ok (.getfield 20, 3) := dq_180 (dq_suf 11 dt39bcX11_isTrue_6 rfl rfl) rfl
theorem dX11_isTrue_110 : decode cX11_isTrue 110 = .ok (.iload_n 1, 1) := dq_27 (dq_suf 14 dt39bcX11_isTrue_6 rfl rfl)
theorem dX11_isTrue_111 : decode cX11_isTrue 111 = .ok (.iaload, 1) := dq_46 (dq_suf 15 dt39bcX11_isTrue_6 rfl rfl)
theorem dX11_isTrue_112 : decode cX11_isTrue 112 = .ok (.imul, 1) := dq_104 (dq_suf 0 dt39bcX11_isTrue_7 rfl rfl)
theorem dX11_isTrue_113 : decode cX11_isTrue 113 = .ok (.iload_n 2, 1) := dq_28 (dq_suf 1 dt39bcX11_isTrue_7 rfl rfl)
theorem dX11_isTrue_114 : decode cX11_isTrue 114 = .ok (.iadd, 1) := dq_96 (dq_suf 2 dt39bcX11_isTrue_7 rfl rfl)
theorem dX11_isTrue_115 : decode cX11_isTrue 115 = .ok (.baload, 1) := dq_51 (dq_suf 3 dt39bcX11_isTrue_7 rfl rfl)
theorem dX11_isTrue_116 : decode cX11_isTrue 116 = .ok (.ifCond .eq 26, 3) := dq_153 (dq_suf 4 dt39bcX11_isTrue_7 rfl rfl) (by decide +kernel)
theorem dX11_isTrue_119 : decode cX11_isTrue 119 = .ok (.aload_n 0, 1) := dq_42 (dq_suf 7 dt39bcX11_isTrue_7 rfl rfl)
theorem dX11_isTrue_120 : decode cX11_isTrue 120 = .ok (.getfield 133, 3) := dq_180 (dq_suf 8 dt39bcX11_isTrue_7 rfl rfl) rfl
theorem dX11_isTrue_123 : decode cX11_isTrue 123 = .ok (.bipush 60, 2) := dq_16 (dq_suf 11 dt39bcX11_isTrue_7 rfl rfl) (by decide +kernel)
theorem dX11_isTrue_125 : decode cX11_isTrue 125 = .ok (.aload_n 0, 1) := dq_42 (dq_suf 13 dt39bcX11_isTrue_7 rfl rfl)
theorem dX11_isTrue_126 : decode cX11_isTrue 126 = .ok (.getfield 23, 3) := dq_180 (dq_suf 14 dt39bcX11_isTrue_7 rfl rfl) rfl
theorem dX11_isTrue_129 : decode cX11_isTrue 129 = .ok (.iload_n 1, 1) := dq_27 (dq_suf 1 dt39bcX11_isTrue_8 rfl rfl)
theorem dX11_isTrue_130 : decode cX11_isTrue 130 = .ok (.iaload, 1) := dq_46 (dq_suf 2 dt39bcX11_isTrue_8 rfl rfl)
theorem dX11_isTrue_131 : decode cX11_isTrue 131 = .ok (.imul, 1) := dq_104 (dq_suf 3 dt39bcX11_isTrue_8 rfl rfl)
theorem dX11_isTrue_132 : decode cX11_isTrue 132 = .ok (.iload_n 2, 1) := dq_28 (dq_suf 4 dt39bcX11_isTrue_8 rfl rfl)
theorem dX11_isTrue_133 : decode cX11_isTrue 133 = .ok (.iadd, 1) := dq_96 (dq_suf 5 dt39bcX11_isTrue_8 rfl rfl)
theorem dX11_isTrue_134 : decode cX11_isTrue 134 = .ok (.baload, 1) := dq_51 (dq_suf 6 dt39bcX11_isTrue_8 rfl rfl)
theorem dX11_isTrue_135 : decode cX11_isTrue 135 = .ok (.ifCond .eq 7, 3) := dq_153 (dq_suf 7 dt39bcX11_isTrue_8 rfl rfl) (by decide +kernel)
theorem dX11_isTrue_138 : decode cX11_isTrue 138 = .ok (.iconst 1, 1) := dq_4 (dq_suf 10 dt39bcX11_isTrue_8 rfl rfl)
theorem dX11_isTrue_139 : decode cX11_isTrue 139 = .ok (.goto 4, 3) := dq_167 (dq_suf 11 dt39bcX11_isTrue_8 rfl rfl) (by decide +kernel)
theorem dX11_isTrue_142 : decode cX11_isTrue 142 = .ok (.iconst 0, 1) := dq_3 (dq_suf 14 dt39bcX11_isTrue_8 rfl rfl)
theorem dX11_isTrue_143 : decode cX11_isTrue 143 = .ok (.ireturn, 1) := dq_172 (dq_suf 15 dt39bcX11_isTrue_8 rfl rfl)
theorem dX11_isTrue_144 : decode cX11_isTrue 144 = .ok (.aload_n 0, 1) := dq_42 (dq_suf 0 dt39bcX11_isTrue_9 rfl rfl)
theorem dX11_isTrue_145 : decode cX11_isTrue 145 = .ok (.getfield 133, 3) := dq_180 (dq_suf 1 dt39bcX11_isTrue_9 rfl rfl) rfl
theorem dX11_isTrue_148 : decode cX11_isTrue 148 = .ok (.bipush 60, 2) := dq_16 (dq_suf 4 dt39bcX11_isTrue_9 rfl rfl) (by decide +kernel)
theorem dX11_isTrue_150 : decode cX11_isTrue 150 = .ok (.aload_n 0, 1) := dq_42 (dq_suf 6 dt39bcX11_isTrue_9 rfl rfl)
theorem dX11_isTrue_151 : decode cX11_isTrue 151 = .ok (.getfield 20, 3) := dq_180 (dq_suf 7 dt39bcX11_isTrue_9 rfl rfl) rfl
theorem dX11_isTrue_154 : decode cX11_isTrue 154 = .ok (.iload_n 1, 1) := dq_27 (dq_suf 10 dt39bcX11_isTrue_9 rfl rfl)
theorem dX11_isTrue_155 : decode cX11_isTrue 155 = .ok (.iaload, 1) := dq_46 (dq_suf 11 dt39bcX11_isTrue_9 rfl rfl)
theorem dX11_isTrue_156 : decode cX11_isTrue 156 = .ok (.imul, 1) := dq_104 (dq_suf 12 dt39bcX11_isTrue_9 rfl rfl)
theorem dX11_isTrue_157 : decode cX11_isTrue 157 = .ok (.iload_n 2, 1) := dq_28 (dq_suf 13 dt39bcX11_isTrue_9 rfl rfl)
theorem dX11_isTrue_158 : decode cX11_isTrue 158 = .ok (.iadd, 1) := dq_96 (dq_suf 14 dt39bcX11_isTrue_9 rfl rfl)
theorem dX11_isTrue_159 : decode cX11_isTrue 159 = .ok (.baload, 1) := dq_51 (dq_suf 15 dt39bcX11_isTrue_9 rfl rfl)
theorem dX11_isTrue_160 : decode cX11_isTrue 160 = .ok (.ifCond .ne 22, 3) := dq_154 (dq_suf 0 dt39bcX11_isTrue_10 rfl rfl) (by decide +kernel)
theorem dX11_isTrue_163 : decode cX11_isTrue 163 = .ok (.aload_n 0, 1) := dq_42 (dq_suf 3 dt39bcX11_isTrue_10 rfl rfl)
theorem dX11_isTrue_164 : decode cX11_isTrue 164 = .ok (.getfield 133, 3) := dq_180 (dq_suf 4 dt39bcX11_isTrue_10 rfl rfl) rfl
theorem dX11_isTrue_167 : decode cX11_isTrue 167 = .ok (.bipush 60, 2) := dq_16 (dq_suf 7 dt39bcX11_isTrue_10 rfl rfl) (by decide +kernel)
theorem dX11_isTrue_169 : decode cX11_isTrue 169 = .ok (.aload_n 0, 1) := dq_42 (dq_suf 9 dt39bcX11_isTrue_10 rfl rfl)
theorem dX11_isTrue_170 : decode cX11_isTrue 170 = .ok (.getfield 23, 3) := dq_180 (dq_suf 10 dt39bcX11_isTrue_10 rfl rfl) rfl
theorem dX11_isTrue_173 : decode cX11_isTrue 173 = .ok (.iload_n 1, 1) := dq_27 (dq_suf 13 dt39bcX11_isTrue_10 rfl rfl)
theorem dX11_isTrue_174 : decode cX11_isTrue 174 = .ok (.iaload, 1) := dq_46 (dq_suf 14 dt39bcX11_isTrue_10 rfl rfl)
theorem dX11_isTrue_175 : decode cX11_isTrue 175 = .ok (.imul, 1) := dq_104 (dq_suf 15 dt39bcX11_isTrue_10 rfl rfl)
theorem dX11_isTrue_176 : decode cX11_isTrue 176 = .ok (.iload_n 2, 1) := dq_28 (dq_suf 0 dt39bcX11_isTrue_11 rfl rfl)
theorem dX11_isTrue_177 : decode cX11_isTrue 177 = .ok (.iadd, 1) := dq_96 (dq_suf 1 dt39bcX11_isTrue_11 rfl rfl)
theorem dX11_isTrue_178 : decode cX11_isTrue 178 = .ok (.baload, 1) := dq_51 (dq_suf 2 dt39bcX11_isTrue_11 rfl rfl)
theorem dX11_isTrue_179 : decode cX11_isTrue 179 = .ok (.ifCond .eq 7, 3) := dq_153 (dq_suf 3 dt39bcX11_isTrue_11 rfl rfl) (by decide +kernel)
theorem dX11_isTrue_182 : decode cX11_isTrue 182 = .ok (.iconst 1, 1) := dq_4 (dq_suf 6 dt39bcX11_isTrue_11 rfl rfl)
theorem dX11_isTrue_183 : decode cX11_isTrue 183 = .ok (.goto 4, 3) := dq_167 (dq_suf 7 dt39bcX11_isTrue_11 rfl rfl) (by decide +kernel)
theorem dX11_isTrue_186 : decode cX11_isTrue 186 = .ok (.iconst 0, 1) := dq_3 (dq_suf 10 dt39bcX11_isTrue_11 rfl rfl)
theorem dX11_isTrue_187 : decode cX11_isTrue 187 = .ok (.ireturn, 1) := dq_172 (dq_suf 11 dt39bcX11_isTrue_11 rfl rfl)
theorem dX11_isTrue_188 : decode cX11_isTrue 188 = .ok (.aload_n 0, 1) := dq_42 (dq_suf 12 dt39bcX11_isTrue_11 rfl rfl)
theorem dX11_isTrue_189 : decode cX11_isTrue 189 = .ok (.getfield 16, 3) := dq_180 (dq_suf 13 dt39bcX11_isTrue_11 rfl rfl) rfl
theorem dX11_isTrue_192 : decode cX11_isTrue 192 = .ok (.iload_n 1, 1) := dq_27 (dq_suf 0 dt39bcX11_isTrue_12 rfl rfl)
theorem dX11_isTrue_193 : decode cX11_isTrue 193 = .ok (.iaload, 1) := dq_46 (dq_suf 1 dt39bcX11_isTrue_12 rfl rfl)
theorem dX11_isTrue_194 : decode cX11_isTrue 194 = .ok (.bipush 6, 2) := dq_16 (dq_suf 2 dt39bcX11_isTrue_12 rfl rfl) (by decide +kernel)
theorem dX11_isTrue_196 : decode cX11_isTrue 196 = .ok (.if_icmp .ne 7, 3) := dq_160 (dq_suf 4 dt39bcX11_isTrue_12 rfl rfl) (by decide +kernel)
theorem dX11_isTrue_199 : decode cX11_isTrue 199 = .ok (.iconst 1, 1) := dq_4 (dq_suf 7 dt39bcX11_isTrue_12 rfl rfl)
theorem dX11_isTrue_200 : decode cX11_isTrue 200 = .ok (.goto 4, 3) := dq_167 (dq_suf 8 dt39bcX11_isTrue_12 rfl rfl) (by decide +kernel)
theorem dX11_isTrue_203 : decode cX11_isTrue 203 = .ok (.iconst 0, 1) := dq_3 (dq_suf 11 dt39bcX11_isTrue_12 rfl rfl)
theorem dX11_isTrue_204 : decode cX11_isTrue 204 = .ok (.istore 4, 2) := dq_54 (dq_suf 12 dt39bcX11_isTrue_12 rfl rfl) rfl
theorem dX11_isTrue_206 : decode cX11_isTrue 206 = .ok (.iconst 0, 1) := dq_3 (dq_suf 14 dt39bcX11_isTrue_12 rfl rfl)
theorem dX11_isTrue_207 : decode cX11_isTrue 207 = .ok (.istore 5, 2) := dq_54 (dq_suf 15 dt39bcX11_isTrue_12 rfl rfl) rfl
theorem dX11_isTrue_209 : decode cX11_isTrue 209 = .ok (.iload 5, 2) := dq_21 (dq_suf 1 dt39bcX11_isTrue_13 rfl rfl) rfl
theorem dX11_isTrue_211 : decode cX11_isTrue 211 = .ok (.aload_n 0, 1) := dq_42 (dq_suf 3 dt39bcX11_isTrue_13 rfl rfl)
theorem dX11_isTrue_212 : decode cX11_isTrue 212 = .ok (.getfield 375, 3) := dq_180 (dq_suf 4 dt39bcX11_isTrue_13 rfl rfl) rfl
theorem dX11_isTrue_215 : decode cX11_isTrue 215 = .ok (.if_icmp .ge 56, 3) := dq_162 (dq_suf 7 dt39bcX11_isTrue_13 rfl rfl) (by decide +kernel)
theorem dX11_isTrue_218 : decode cX11_isTrue 218 = .ok (.iload_n 3, 1) := dq_29 (dq_suf 10 dt39bcX11_isTrue_13 rfl rfl)
theorem dX11_isTrue_219 : decode cX11_isTrue 219 = .ok (.ifCond .ne 40, 3) := dq_154 (dq_suf 11 dt39bcX11_isTrue_13 rfl rfl) (by decide +kernel)
theorem dX11_isTrue_222 : decode cX11_isTrue 222 = .ok (.aload_n 0, 1) := dq_42 (dq_suf 14 dt39bcX11_isTrue_13 rfl rfl)
theorem dX11_isTrue_223 : decode cX11_isTrue 223 = .ok (.getfield 124, 3) := dq_180 (dq_suf 15 dt39bcX11_isTrue_13 rfl rfl) rfl
theorem dX11_isTrue_226 : decode cX11_isTrue 226 = .ok (.bipush 60, 2) := dq_16 (dq_suf 2 dt39bcX11_isTrue_14 rfl rfl) (by decide +kernel)
theorem dX11_isTrue_228 : decode cX11_isTrue 228 = .ok (.iload_n 2, 1) := dq_28 (dq_suf 4 dt39bcX11_isTrue_14 rfl rfl)
theorem dX11_isTrue_229 : decode cX11_isTrue 229 = .ok (.imul, 1) := dq_104 (dq_suf 5 dt39bcX11_isTrue_14 rfl rfl)
theorem dX11_isTrue_230 : decode cX11_isTrue 230 = .ok (.iload 5, 2) := dq_21 (dq_suf 6 dt39bcX11_isTrue_14 rfl rfl) rfl
theorem dX11_isTrue_232 : decode cX11_isTrue 232 = .ok (.iadd, 1) := dq_96 (dq_suf 8 dt39bcX11_isTrue_14 rfl rfl)
theorem dX11_isTrue_233 : decode cX11_isTrue 233 = .ok (.baload, 1) := dq_51 (dq_suf 9 dt39bcX11_isTrue_14 rfl rfl)
theorem dX11_isTrue_234 : decode cX11_isTrue 234 = .ok (.ifCond .eq 29, 3) := dq_153 (dq_suf 10 dt39bcX11_isTrue_14 rfl rfl) (by decide +kernel)
theorem dX11_isTrue_237 : decode cX11_isTrue 237 = .ok (.aload_n 0, 1) := dq_42 (dq_suf 13 dt39bcX11_isTrue_14 rfl rfl)
theorem dX11_isTrue_238 : decode cX11_isTrue 238 = .ok (.getfield 133, 3) := dq_180 (dq_suf 14 dt39bcX11_isTrue_14 rfl rfl) rfl
theorem dX11_isTrue_241 : decode cX11_isTrue 241 = .ok (.bipush 60, 2) := dq_16 (dq_suf 1 dt39bcX11_isTrue_15 rfl rfl) (by decide +kernel)
theorem dX11_isTrue_243 : decode cX11_isTrue 243 = .ok (.aload_n 0, 1) := dq_42 (dq_suf 3 dt39bcX11_isTrue_15 rfl rfl)
theorem dX11_isTrue_244 : decode cX11_isTrue 244 = .ok (.getfield 20, 3) := dq_180 (dq_suf 4 dt39bcX11_isTrue_15 rfl rfl) rfl
theorem dX11_isTrue_247 : decode cX11_isTrue 247 = .ok (.iload_n 1, 1) := dq_27 (dq_suf 7 dt39bcX11_isTrue_15 rfl rfl)
theorem dX11_isTrue_248 : decode cX11_isTrue 248 = .ok (.iaload, 1) := dq_46 (dq_suf 8 dt39bcX11_isTrue_15 rfl rfl)
theorem dX11_isTrue_249 : decode cX11_isTrue 249 = .ok (.imul, 1) := dq_104 (dq_suf 9 dt39bcX11_isTrue_15 rfl rfl)
theorem dX11_isTrue_250 : decode cX11_isTrue 250 = .ok (.iload 5, 2) := dq_21 (dq_suf 10 dt39bcX11_isTrue_15 rfl rfl) rfl
theorem dX11_isTrue_252 : decode cX11_isTrue 252 = .ok (.iadd, 1) := dq_96 (dq_suf 12 dt39bcX11_isTrue_15 rfl rfl)
theorem dX11_isTrue_253 : decode cX11_isTrue 253 = .ok (.baload, 1) := dq_51 (dq_suf 13 dt39bcX11_isTrue_15 rfl rfl)
theorem dX11_isTrue_254 : decode cX11_isTrue 254 = .ok (.iload 4, 2) := dq_21 (dq_suf 14 dt39bcX11_isTrue_15 rfl rfl) rfl
theorem dX11_isTrue_256 : decode cX11_isTrue 256 = .ok (.if_icmp .eq 7, 3) := dq_159 (dq_suf 0 dt39bcX11_isTrue_16 rfl rfl) (by decide +kernel)
theorem dX11_isTrue_259 : decode cX11_isTrue 259 = .ok (.iconst 1, 1) := dq_4 (dq_suf 3 dt39bcX11_isTrue_16 rfl rfl)
theorem dX11_isTrue_260 : decode cX11_isTrue 260 = .ok (.goto 4, 3) := dq_167 (dq_suf 4 dt39bcX11_isTrue_16 rfl rfl) (by decide +kernel)
theorem dX11_isTrue_263 : decode cX11_isTrue 263 = .ok (.iconst 0, 1) := dq_3 (dq_suf 7 dt39bcX11_isTrue_16 rfl rfl)
theorem dX11_isTrue_264 : decode cX11_isTrue 264 = .ok (.istore_n 3, 1) := dq_62 (dq_suf 8 dt39bcX11_isTrue_16 rfl rfl)
theorem dX11_isTrue_265 : decode cX11_isTrue 265 = .ok (.iinc 5 1, 3) := dq_132 (dq_suf 9 dt39bcX11_isTrue_16 rfl rfl) rfl (by decide +kernel)
theorem dX11_isTrue_268 : decode cX11_isTrue 268 = .ok (.goto (-59), 3) := dq_167 (dq_suf 12 dt39bcX11_isTrue_16 rfl rfl) (by decide +kernel)
theorem dX11_isTrue_271 : decode cX11_isTrue 271 = .ok (.iload_n 3, 1) := dq_29 (dq_suf 15 dt39bcX11_isTrue_16 rfl rfl)
theorem dX11_isTrue_272 : decode cX11_isTrue 272 = .ok (.iload 4, 2) := dq_21 (dq_suf 0 dt39bcX11_isTrue_17 rfl rfl) rfl
theorem dX11_isTrue_274 : decode cX11_isTrue 274 = .ok (.if_icmp .eq 7, 3) := dq_159 (dq_suf 2 dt39bcX11_isTrue_17 rfl rfl) (by decide +kernel)
theorem dX11_isTrue_277 : decode cX11_isTrue 277 = .ok (.iconst 1, 1) := dq_4 (dq_suf 5 dt39bcX11_isTrue_17 rfl rfl)
theorem dX11_isTrue_278 : decode cX11_isTrue 278 = .ok (.goto 4, 3) := dq_167 (dq_suf 6 dt39bcX11_isTrue_17 rfl rfl) (by decide +kernel)
theorem dX11_isTrue_281 : decode cX11_isTrue 281 = .ok (.iconst 0, 1) := dq_3 (dq_suf 9 dt39bcX11_isTrue_17 rfl rfl)
theorem dX11_isTrue_282 : decode cX11_isTrue 282 = .ok (.ireturn, 1) := dq_172 (dq_suf 10 dt39bcX11_isTrue_17 rfl rfl)
noncomputable def ds39bcX11_isMutual_2 : List UInt8 := 3 :: 172 :: []
noncomputable def ds39bcX11_isMutual_1 : List UInt8 := 0 :: 124 :: 16 :: 60 :: 28 :: 104 :: 27 :: 96 :: 51 :: 153 :: 0 :: 7 :: 4 :: 167 :: 0 :: 4 :: ds39bcX11_isMutual_2
noncomputable def ds39bcX11_isMutual_0 : List UInt8 := 42 :: 180 :: 0 :: 124 :: 16 :: 60 :: 27 :: 104 :: 28 :: 96 :: 51 :: 153 :: 0 :: 21 :: 42 :: 180 :: ds39bcX11_isMutual_1
theorem dt39bcX11_isMutual_0 : cX11_isMutual.data.toList.drop 0 = ds39bcX11_isMutual_0 := by decide +kernel
theorem dt39bcX11_isMutual_1 : cX11_isMutual.data.toList.drop 16 = ds39bcX11_isMutual_1 := dq_suf 16 dt39bcX11_isMutual_0 rfl rfl
theorem dt39bcX11_isMutual_2 : cX11_isMutual.data.toList.drop 32 = ds39bcX11_isMutual_2 := dq_suf 16 dt39bcX11_isMutual_1 rfl rfl
theorem dX11_isMutual_0 : decode cX11_isMutual 0 = .ok (.aload_n 0, 1) := dq_42 (dq_suf 0 dt39bcX11_isMutual_0 rfl rfl)
theorem dX11_isMutual_1 : decode cX11_isMutual 1 = .ok (.getfield 124, 3) := dq_180 (dq_suf 1 dt39bcX11_isMutual_0 rfl rfl) rfl
theorem dX11_isMutual_4 : decode cX11_isMutual 4 = .ok (.bipush 60, 2) := dq_16 (dq_suf 4 dt39bcX11_isMutual_0 rfl rfl) (by decide +kernel)
theorem dX11_isMutual_6 : decode cX11_isMutual 6 = .ok (.iload_n 1, 1) := dq_27 (dq_suf 6 dt39bcX11_isMutual_0 rfl rfl)
theorem dX11_isMutual_7 : decode cX11_isMutual 7 = .ok (.imul, 1) := dq_104 (dq_suf 7 dt39bcX11_isMutual_0 rfl rfl)
theorem dX11_isMutual_8 : decode cX11_isMutual 8 = .ok (.iload_n 2, 1) := dq_28 (dq_suf 8 dt39bcX11_isMutual_0 rfl rfl)
theorem dX11_isMutual_9 : decode cX11_isMutual 9 = .ok (.iadd, 1) := dq_96 (dq_suf 9 dt39bcX11_isMutual_0 rfl rfl)
theorem dX11_isMutual_10 : decode cX11_isMutual 10 = .ok (.baload, 1) := dq_51 (dq_suf 10 dt39bcX11_isMutual_0 rfl rfl)
theorem dX11_isMutual_11 : decode cX11_isMutual 11 = .ok (.ifCond .eq 21, 3) := dq_153 (dq_suf 11 dt39bcX11_isMutual_0 rfl rfl) (by decide +kernel)
theorem dX11_isMutual_14 : decode cX11_isMutual 14 = .ok (.aload_n 0, 1) := dq_42 (dq_suf 14 dt39bcX11_isMutual_0 rfl rfl)
theorem dX11_isMutual_15 : decode cX11_isMutual 15 = .ok (.getfield 124, 3) := dq_180 (dq_suf 15 dt39bcX11_isMutual_0 rfl rfl) rfl
theorem dX11_isMutual_18 : decode cX11_isMutual 18 = .ok (.bipush 60, 2) := dq_16 (dq_suf 2 dt39bcX11_isMutual_1 rfl rfl) (by decide +kernel)
theorem dX11_isMutual_20 : decode cX11_isMutual 20 = .ok (.iload_n 2, 1) := dq_28 (dq_suf 4 dt39bcX11_isMutual_1 rfl rfl)
theorem dX11_isMutual_21 : decode cX11_isMutual 21 = .ok (.imul, 1) := dq_104 (dq_suf 5 dt39bcX11_isMutual_1 rfl rfl)
theorem dX11_isMutual_22 : decode cX11_isMutual 22 = .ok (.iload_n 1, 1) := dq_27 (dq_suf 6 dt39bcX11_isMutual_1 rfl rfl)
theorem dX11_isMutual_23 : decode cX11_isMutual 23 = .ok (.iadd, 1) := dq_96 (dq_suf 7 dt39bcX11_isMutual_1 rfl rfl)
theorem dX11_isMutual_24 : decode cX11_isMutual 24 = .ok (.baload, 1) := dq_51 (dq_suf 8 dt39bcX11_isMutual_1 rfl rfl)
theorem dX11_isMutual_25 : decode cX11_isMutual 25 = .ok (.ifCond .eq 7, 3) := dq_153 (dq_suf 9 dt39bcX11_isMutual_1 rfl rfl) (by decide +kernel)
theorem dX11_isMutual_28 : decode cX11_isMutual 28 = .ok (.iconst 1, 1) := dq_4 (dq_suf 12 dt39bcX11_isMutual_1 rfl rfl)
theorem dX11_isMutual_29 : decode cX11_isMutual 29 = .ok (.goto 4, 3) := dq_167 (dq_suf 13 dt39bcX11_isMutual_1 rfl rfl) (by decide +kernel)
theorem dX11_isMutual_32 : decode cX11_isMutual 32 = .ok (.iconst 0, 1) := dq_3 (dq_suf 0 dt39bcX11_isMutual_2 rfl rfl)
theorem dX11_isMutual_33 : decode cX11_isMutual 33 = .ok (.ireturn, 1) := dq_172 (dq_suf 1 dt39bcX11_isMutual_2 rfl rfl)
noncomputable def ds39bcX11_world_15 : List UInt8 := 172 :: 2 :: 172 :: []
noncomputable def ds39bcX11_world_14 : List UInt8 := 96 :: 62 :: 132 :: 5 :: 1 :: 167 :: 255 :: 221 :: 29 :: 172 :: 42 :: 180 :: 0 :: 127 :: 27 :: 46 :: ds39bcX11_world_15
noncomputable def ds39bcX11_world_13 : List UInt8 := 16 :: 60 :: 27 :: 104 :: 21 :: 5 :: 96 :: 51 :: 153 :: 0 :: 7 :: 4 :: 167 :: 0 :: 4 :: 3 :: ds39bcX11_world_14
noncomputable def ds39bcX11_world_12 : List UInt8 := 54 :: 5 :: 21 :: 5 :: 42 :: 180 :: 1 :: 119 :: 162 :: 0 :: 32 :: 29 :: 42 :: 180 :: 0 :: 124 :: ds39bcX11_world_13
noncomputable def ds39bcX11_world_11 : List UInt8 := 4 :: 167 :: 0 :: 4 :: 3 :: 96 :: 62 :: 132 :: 5 :: 1 :: 167 :: 255 :: 226 :: 29 :: 172 :: 3 :: ds39bcX11_world_12
noncomputable def ds39bcX11_world_10 : List UInt8 := 1 :: 119 :: 162 :: 0 :: 27 :: 29 :: 42 :: 27 :: 21 :: 5 :: 182 :: 1 :: 134 :: 153 :: 0 :: 7 :: ds39bcX11_world_11
noncomputable def ds39bcX11_world_9 : List UInt8 := 62 :: 132 :: 5 :: 1 :: 167 :: 255 :: 191 :: 29 :: 172 :: 3 :: 54 :: 5 :: 21 :: 5 :: 42 :: 180 :: ds39bcX11_world_10
noncomputable def ds39bcX11_world_8 : List UInt8 := 1 :: 167 :: 255 :: 223 :: 29 :: 21 :: 6 :: 153 :: 0 :: 7 :: 4 :: 167 :: 0 :: 4 :: 3 :: 96 :: ds39bcX11_world_9
noncomputable def ds39bcX11_world_7 : List UInt8 := 7 :: 182 :: 1 :: 134 :: 154 :: 0 :: 7 :: 4 :: 167 :: 0 :: 4 :: 3 :: 54 :: 6 :: 132 :: 7 :: ds39bcX11_world_8
noncomputable def ds39bcX11_world_6 : List UInt8 := 21 :: 7 :: 21 :: 5 :: 162 :: 0 :: 32 :: 21 :: 6 :: 153 :: 0 :: 18 :: 42 :: 21 :: 5 :: 21 :: ds39bcX11_world_7
noncomputable def ds39bcX11_world_5 : List UInt8 := 3 :: 54 :: 5 :: 21 :: 5 :: 21 :: 4 :: 162 :: 0 :: 64 :: 4 :: 54 :: 6 :: 3 :: 54 :: 7 :: ds39bcX11_world_6
noncomputable def ds39bcX11_world_4 : List UInt8 := 8 :: 21 :: 5 :: 167 :: 0 :: 5 :: 21 :: 4 :: 54 :: 4 :: 132 :: 5 :: 255 :: 167 :: 255 :: 229 :: ds39bcX11_world_5
noncomputable def ds39bcX11_world_3 : List UInt8 := 54 :: 5 :: 21 :: 5 :: 155 :: 0 :: 28 :: 42 :: 27 :: 21 :: 5 :: 182 :: 1 :: 134 :: 153 :: 0 :: ds39bcX11_world_4
noncomputable def ds39bcX11_world_2 : List UInt8 := 0 :: 0 :: 0 :: 140 :: 0 :: 0 :: 0 :: 178 :: 0 :: 0 :: 0 :: 221 :: 27 :: 54 :: 4 :: 27 :: ds39bcX11_world_3
noncomputable def ds39bcX11_world_1 : List UInt8 := 0 :: 0 :: 0 :: 228 :: 0 :: 0 :: 0 :: 0 :: 0 :: 0 :: 0 :: 3 :: 0 :: 0 :: 0 :: 31 :: ds39bcX11_world_2
noncomputable def ds39bcX11_world_0 : List UInt8 := 42 :: 27 :: 182 :: 1 :: 128 :: 154 :: 0 :: 5 :: 3 :: 172 :: 3 :: 62 :: 28 :: 170 :: 0 :: 0 :: ds39bcX11_world_1
theorem dt39bcX11_world_0 : cX11_world.data.toList.drop 0 = ds39bcX11_world_0 := by decide +kernel
theorem dt39bcX11_world_1 : cX11_world.data.toList.drop 16 = ds39bcX11_world_1 := dq_suf 16 dt39bcX11_world_0 rfl rfl
theorem dt39bcX11_world_2 : cX11_world.data.toList.drop 32 = ds39bcX11_world_2 := dq_suf 16 dt39bcX11_world_1 rfl rfl
theorem dt39bcX11_world_3 : cX11_world.data.toList.drop 48 = ds39bcX11_world_3 := dq_suf 16 dt39bcX11_world_2 rfl rfl
theorem dt39bcX11_world_4 : cX11_world.data.toList.drop 64 = ds39bcX11_world_4 := dq_suf 16 dt39bcX11_world_3 rfl rfl
theorem dt39bcX11_world_5 : cX11_world.data.toList.drop 80 = ds39bcX11_world_5 := dq_suf 16 dt39bcX11_world_4 rfl rfl
theorem dt39bcX11_world_6 : cX11_world.data.toList.drop 96 = ds39bcX11_world_6 := dq_suf 16 dt39bcX11_world_5 rfl rfl
theorem dt39bcX11_world_7 : cX11_world.data.toList.drop 112 = ds39bcX11_world_7 := dq_suf 16 dt39bcX11_world_6 rfl rfl
theorem dt39bcX11_world_8 : cX11_world.data.toList.drop 128 = ds39bcX11_world_8 := dq_suf 16 dt39bcX11_world_7 rfl rfl
theorem dt39bcX11_world_9 : cX11_world.data.toList.drop 144 = ds39bcX11_world_9 := dq_suf 16 dt39bcX11_world_8 rfl rfl
theorem dt39bcX11_world_10 : cX11_world.data.toList.drop 160 = ds39bcX11_world_10 := dq_suf 16 dt39bcX11_world_9 rfl rfl
theorem dt39bcX11_world_11 : cX11_world.data.toList.drop 176 = ds39bcX11_world_11 := dq_suf 16 dt39bcX11_world_10 rfl rfl
theorem dt39bcX11_world_12 : cX11_world.data.toList.drop 192 = ds39bcX11_world_12 := dq_suf 16 dt39bcX11_world_11 rfl rfl
theorem dt39bcX11_world_13 : cX11_world.data.toList.drop 208 = ds39bcX11_world_13 := dq_suf 16 dt39bcX11_world_12 rfl rfl
theorem dt39bcX11_world_14 : cX11_world.data.toList.drop 224 = ds39bcX11_world_14 := dq_suf 16 dt39bcX11_world_13 rfl rfl
theorem dt39bcX11_world_15 : cX11_world.data.toList.drop 240 = ds39bcX11_world_15 := dq_suf 16 dt39bcX11_world_14 rfl rfl
theorem dX11_world_0 : decode cX11_world 0 = .ok (.aload_n 0, 1) := dq_42 (dq_suf 0 dt39bcX11_world_0 rfl rfl)
theorem dX11_world_1 : decode cX11_world 1 = .ok (.iload_n 1, 1) := dq_27 (dq_suf 1 dt39bcX11_world_0 rfl rfl)
theorem dX11_world_2 : decode cX11_world 2 = .ok (.invokevirtual 384, 3) := dq_182 (dq_suf 2 dt39bcX11_world_0 rfl rfl) rfl
theorem dX11_world_5 : decode cX11_world 5 = .ok (.ifCond .ne 5, 3) := dq_154 (dq_suf 5 dt39bcX11_world_0 rfl rfl) (by decide +kernel)
theorem dX11_world_8 : decode cX11_world 8 = .ok (.iconst 0, 1) := dq_3 (dq_suf 8 dt39bcX11_world_0 rfl rfl)
theorem dX11_world_9 : decode cX11_world 9 = .ok (.ireturn, 1) := dq_172 (dq_suf 9 dt39bcX11_world_0 rfl rfl)
theorem dX11_world_10 : decode cX11_world 10 = .ok (.iconst 0, 1) := dq_3 (dq_suf 10 dt39bcX11_world_0 rfl rfl)
theorem dX11_world_11 : decode cX11_world 11 = .ok (.istore_n 3, 1) := dq_62 (dq_suf 11 dt39bcX11_world_0 rfl rfl)
theorem dX11_world_12 : decode cX11_world 12 = .ok (.iload_n 2, 1) := dq_28 (dq_suf 12 dt39bcX11_world_0 rfl rfl)
theorem dX11_world_13 : decode cX11_world 13 = .ok (.tableswitch 228 0 3 #[31, 140, 178, 221], 31) := by decide +kernel
theorem dX11_world_44 : decode cX11_world 44 = .ok (.iload_n 1, 1) := dq_27 (dq_suf 12 dt39bcX11_world_2 rfl rfl)
theorem dX11_world_45 : decode cX11_world 45 = .ok (.istore 4, 2) := dq_54 (dq_suf 13 dt39bcX11_world_2 rfl rfl) rfl
theorem dX11_world_47 : decode cX11_world 47 = .ok (.iload_n 1, 1) := dq_27 (dq_suf 15 dt39bcX11_world_2 rfl rfl)
theorem dX11_world_48 : decode cX11_world 48 = .ok (.istore 5, 2) := dq_54 (dq_suf 0 dt39bcX11_world_3 rfl rfl) rfl
theorem dX11_world_50 : decode cX11_world 50 = .ok (.iload 5, 2) := dq_21 (dq_suf 2 dt39bcX11_world_3 rfl rfl) rfl
theorem dX11_world_52 : decode cX11_world 52 = .ok (.ifCond .lt 28, 3) := dq_155 (dq_suf 4 dt39bcX11_world_3 rfl rfl) (by decide +kernel)
theorem dX11_world_55 : decode cX11_world 55 = .ok (.aload_n 0, 1) := dq_42 (dq_suf 7 dt39bcX11_world_3 rfl rfl)
theorem dX11_world_56 : decode cX11_world 56 = .ok (.iload_n 1, 1) := dq_27 (dq_suf 8 dt39bcX11_world_3 rfl rfl)
theorem dX11_world_57 : decode cX11_world 57 = .ok (.iload 5, 2) := dq_21 (dq_suf 9 dt39bcX11_world_3 rfl rfl) rfl
theorem dX11_world_59 : decode cX11_world 59 = .ok (.invokevirtual 390, 3) := dq_182 (dq_suf 11 dt39bcX11_world_3 rfl rfl) rfl
theorem dX11_world_62 : decode cX11_world 62 = .ok (.ifCond .eq 8, 3) := dq_153 (dq_suf 14 dt39bcX11_world_3 rfl rfl) (by decide +kernel)
theorem dX11_world_65 : decode cX11_world 65 = .ok (.iload 5, 2) := dq_21 (dq_suf 1 dt39bcX11_world_4 rfl rfl) rfl
theorem dX11_world_67 : decode cX11_world 67 = .ok (.goto 5, 3) := dq_167 (dq_suf 3 dt39bcX11_world_4 rfl rfl) (by decide +kernel)
theorem dX11_world_70 : decode cX11_world 70 = .ok (.iload 4, 2) := dq_21 (dq_suf 6 dt39bcX11_world_4 rfl rfl) rfl
theorem dX11_world_72 : decode cX11_world 72 = .ok (.istore 4, 2) := dq_54 (dq_suf 8 dt39bcX11_world_4 rfl rfl) rfl
theorem dX11_world_74 : decode cX11_world 74 = .ok (.iinc 5 (-1), 3) := dq_132 (dq_suf 10 dt39bcX11_world_4 rfl rfl) rfl (by decide +kernel)
theorem dX11_world_77 : decode cX11_world 77 = .ok (.goto (-27), 3) := dq_167 (dq_suf 13 dt39bcX11_world_4 rfl rfl) (by decide +kernel)
theorem dX11_world_80 : decode cX11_world 80 = .ok (.iconst 0, 1) := dq_3 (dq_suf 0 dt39bcX11_world_5 rfl rfl)
theorem dX11_world_81 : decode cX11_world 81 = .ok (.istore 5, 2) := dq_54 (dq_suf 1 dt39bcX11_world_5 rfl rfl) rfl
theorem dX11_world_83 : decode cX11_world 83 = .ok (.iload 5, 2) := dq_21 (dq_suf 3 dt39bcX11_world_5 rfl rfl) rfl
theorem dX11_world_85 : decode cX11_world 85 = .ok (.iload 4, 2) := dq_21 (dq_suf 5 dt39bcX11_world_5 rfl rfl) rfl
theorem dX11_world_87 : decode cX11_world 87 = .ok (.if_icmp .ge 64, 3) := dq_162 (dq_suf 7 dt39bcX11_world_5 rfl rfl) (by decide +kernel)
theorem dX11_world_90 : decode cX11_world 90 = .ok (.iconst 1, 1) := dq_4 (dq_suf 10 dt39bcX11_world_5 rfl rfl)
theorem dX11_world_91 : decode cX11_world 91 = .ok (.istore 6, 2) := dq_54 (dq_suf 11 dt39bcX11_world_5 rfl rfl) rfl
theorem dX11_world_93 : decode cX11_world 93 = .ok (.iconst 0, 1) := dq_3 (dq_suf 13 dt39bcX11_world_5 rfl rfl)
theorem dX11_world_94 : decode cX11_world 94 = .ok (.istore 7, 2) := dq_54 (dq_suf 14 dt39bcX11_world_5 rfl rfl) rfl
theorem dX11_world_96 : decode cX11_world 96 = .ok (.iload 7, 2) := dq_21 (dq_suf 0 dt39bcX11_world_6 rfl rfl) rfl
theorem dX11_world_98 : decode cX11_world 98 = .ok (.iload 5, 2) := dq_21 (dq_suf 2 dt39bcX11_world_6 rfl rfl) rfl
theorem dX11_world_100 : decode cX11_world 100 = .ok (.if_icmp .ge 32, 3) := dq_162 (dq_suf 4 dt39bcX11_world_6 rfl rfl) (by decide +kernel)
theorem dX11_world_103 : decode cX11_world 103 = .ok (.iload 6, 2) := dq_21 (dq_suf 7 dt39bcX11_world_6 rfl rfl) rfl
theorem dX11_world_105 : decode cX11_world 105 = .ok (.ifCond .eq 18, 3) := dq_153 (dq_suf 9 dt39bcX11_world_6 rfl rfl) (by decide +kernel)
theorem dX11_world_108 : decode cX11_world 108 = .ok (.aload_n 0, 1) := dq_42 (dq_suf 12 dt39bcX11_world_6 rfl rfl)
theorem dX11_world_109 : decode cX11_world 109 = .ok (.iload 5, 2) := dq_21 (dq_suf 13 dt39bcX11_world_6 rfl rfl) rfl
theorem dX11_world_111 : decode cX11_world 111 = .ok (.iload 7, 2) := dq_21 (dq_suf 15 dt39bcX11_world_6 rfl rfl) rfl
theorem dX11_world_113 : decode cX11_world 113 = .ok (.invokevirtual 390, 3) := dq_182 (dq_suf 1 dt39bcX11_world_7 rfl rfl) rfl
theorem dX11_world_116 : decode cX11_world 116 = .ok (.ifCond .ne 7, 3) := dq_154 (dq_suf 4 dt39bcX11_world_7 rfl rfl) (by decide +kernel)
theorem dX11_world_119 : decode cX11_world 119 = .ok (.iconst 1, 1) := dq_4 (dq_suf 7 dt39bcX11_world_7 rfl rfl)
theorem dX11_world_120 : decode cX11_world 120 = .ok (.goto 4, 3) := dq_167 (dq_suf 8 dt39bcX11_world_7 rfl rfl) (by decide +kernel)
theorem dX11_world_123 : decode cX11_world 123 = .ok (.iconst 0, 1) := dq_3 (dq_suf 11 dt39bcX11_world_7 rfl rfl)
theorem dX11_world_124 : decode cX11_world 124 = .ok (.istore 6, 2) := dq_54 (dq_suf 12 dt39bcX11_world_7 rfl rfl) rfl
theorem dX11_world_126 : decode cX11_world 126 = .ok (.iinc 7 1, 3) := dq_132 (dq_suf 14 dt39bcX11_world_7 rfl rfl) rfl (by decide +kernel)
theorem dX11_world_129 : decode cX11_world 129 = .ok (.goto (-33), 3) := dq_167 (dq_suf 1 dt39bcX11_world_8 rfl rfl) (by decide +kernel)
theorem dX11_world_132 : decode cX11_world 132 = .ok (.iload_n 3, 1) := dq_29 (dq_suf 4 dt39bcX11_world_8 rfl rfl)
theorem dX11_world_133 : decode cX11_world 133 = .ok (.iload 6, 2) := dq_21 (dq_suf 5 dt39bcX11_world_8 rfl rfl) rfl
theorem dX11_world_135 : decode cX11_world 135 = .ok (.ifCond .eq 7, 3) := dq_153 (dq_suf 7 dt39bcX11_world_8 rfl rfl) (by decide +kernel)
theorem dX11_world_138 : decode cX11_world 138 = .ok (.iconst 1, 1) := dq_4 (dq_suf 10 dt39bcX11_world_8 rfl rfl)
theorem dX11_world_139 : decode cX11_world 139 = .ok (.goto 4, 3) := dq_167 (dq_suf 11 dt39bcX11_world_8 rfl rfl) (by decide +kernel)
theorem dX11_world_142 : decode cX11_world 142 = .ok (.iconst 0, 1) := dq_3 (dq_suf 14 dt39bcX11_world_8 rfl rfl)
theorem dX11_world_143 : decode cX11_world 143 = .ok (.iadd, 1) := dq_96 (dq_suf 15 dt39bcX11_world_8 rfl rfl)
theorem dX11_world_144 : decode cX11_world 144 = .ok (.istore_n 3, 1) := dq_62 (dq_suf 0 dt39bcX11_world_9 rfl rfl)
theorem dX11_world_145 : decode cX11_world 145 = .ok (.iinc 5 1, 3) := dq_132 (dq_suf 1 dt39bcX11_world_9 rfl rfl) rfl (by decide +kernel)
theorem dX11_world_148 : decode cX11_world 148 = .ok (.goto (-65), 3) := dq_167 (dq_suf 4 dt39bcX11_world_9 rfl rfl) (by decide +kernel)
theorem dX11_world_151 : decode cX11_world 151 = .ok (.iload_n 3, 1) := dq_29 (dq_suf 7 dt39bcX11_world_9 rfl rfl)
theorem dX11_world_152 : decode cX11_world 152 = .ok (.ireturn, 1) := dq_172 (dq_suf 8 dt39bcX11_world_9 rfl rfl)
theorem dX11_world_153 : decode cX11_world 153 = .ok (.iconst 0, 1) := dq_3 (dq_suf 9 dt39bcX11_world_9 rfl rfl)
theorem dX11_world_154 : decode cX11_world 154 = .ok (.istore 5, 2) := dq_54 (dq_suf 10 dt39bcX11_world_9 rfl rfl) rfl
theorem dX11_world_156 : decode cX11_world 156 = .ok (.iload 5, 2) := dq_21 (dq_suf 12 dt39bcX11_world_9 rfl rfl) rfl
theorem dX11_world_158 : decode cX11_world 158 = .ok (.aload_n 0, 1) := dq_42 (dq_suf 14 dt39bcX11_world_9 rfl rfl)
theorem dX11_world_159 : decode cX11_world 159 = .ok (.getfield 375, 3) := dq_180 (dq_suf 15 dt39bcX11_world_9 rfl rfl) rfl
theorem dX11_world_162 : decode cX11_world 162 = .ok (.if_icmp .ge 27, 3) := dq_162 (dq_suf 2 dt39bcX11_world_10 rfl rfl) (by decide +kernel)
theorem dX11_world_165 : decode cX11_world 165 = .ok (.iload_n 3, 1) := dq_29 (dq_suf 5 dt39bcX11_world_10 rfl rfl)
theorem dX11_world_166 : decode cX11_world 166 = .ok (.aload_n 0, 1) := dq_42 (dq_suf 6 dt39bcX11_world_10 rfl rfl)
theorem dX11_world_167 : decode cX11_world 167 = .ok (.iload_n 1, 1) := dq_27 (dq_suf 7 dt39bcX11_world_10 rfl rfl)
theorem dX11_world_168 : decode cX11_world 168 = .ok (.iload 5, 2) := dq_21 (dq_suf 8 dt39bcX11_world_10 rfl rfl) rfl
theorem dX11_world_170 : decode cX11_world 170 = .ok (.invokevirtual 390, 3) := dq_182 (dq_suf 10 dt39bcX11_world_10 rfl rfl) rfl
theorem dX11_world_173 : decode cX11_world 173 = .ok (.ifCond .eq 7, 3) := dq_153 (dq_suf 13 dt39bcX11_world_10 rfl rfl) (by decide +kernel)
theorem dX11_world_176 : decode cX11_world 176 = .ok (.iconst 1, 1) := dq_4 (dq_suf 0 dt39bcX11_world_11 rfl rfl)
theorem dX11_world_177 : decode cX11_world 177 = .ok (.goto 4, 3) := dq_167 (dq_suf 1 dt39bcX11_world_11 rfl rfl) (by decide +kernel)
theorem dX11_world_180 : decode cX11_world 180 = .ok (.iconst 0, 1) := dq_3 (dq_suf 4 dt39bcX11_world_11 rfl rfl)
theorem dX11_world_181 : decode cX11_world 181 = .ok (.iadd, 1) := dq_96 (dq_suf 5 dt39bcX11_world_11 rfl rfl)
theorem dX11_world_182 : decode cX11_world 182 = .ok (.istore_n 3, 1) := dq_62 (dq_suf 6 dt39bcX11_world_11 rfl rfl)
theorem dX11_world_183 : decode cX11_world 183 = .ok (.iinc 5 1, 3) := dq_132 (dq_suf 7 dt39bcX11_world_11 rfl rfl) rfl (by decide +kernel)
theorem dX11_world_186 : decode cX11_world 186 = .ok (.goto (-30), 3) := dq_167 (dq_suf 10 dt39bcX11_world_11 rfl rfl) (by decide +kernel)
theorem dX11_world_189 : decode cX11_world 189 = .ok (.iload_n 3, 1) := dq_29 (dq_suf 13 dt39bcX11_world_11 rfl rfl)
theorem dX11_world_190 : decode cX11_world 190 = .ok (.ireturn, 1) := dq_172 (dq_suf 14 dt39bcX11_world_11 rfl rfl)
theorem dX11_world_191 : decode cX11_world 191 = .ok (.iconst 0, 1) := dq_3 (dq_suf 15 dt39bcX11_world_11 rfl rfl)
theorem dX11_world_192 : decode cX11_world 192 = .ok (.istore 5, 2) := dq_54 (dq_suf 0 dt39bcX11_world_12 rfl rfl) rfl
theorem dX11_world_194 : decode cX11_world 194 = .ok (.iload 5, 2) := dq_21 (dq_suf 2 dt39bcX11_world_12 rfl rfl) rfl
theorem dX11_world_196 : decode cX11_world 196 = .ok (.aload_n 0, 1) := dq_42 (dq_suf 4 dt39bcX11_world_12 rfl rfl)
theorem dX11_world_197 : decode cX11_world 197 = .ok (.getfield 375, 3) := dq_180 (dq_suf 5 dt39bcX11_world_12 rfl rfl) rfl
theorem dX11_world_200 : decode cX11_world 200 = .ok (.if_icmp .ge 32, 3) := dq_162 (dq_suf 8 dt39bcX11_world_12 rfl rfl) (by decide +kernel)
theorem dX11_world_203 : decode cX11_world 203 = .ok (.iload_n 3, 1) := dq_29 (dq_suf 11 dt39bcX11_world_12 rfl rfl)
theorem dX11_world_204 : decode cX11_world 204 = .ok (.aload_n 0, 1) := dq_42 (dq_suf 12 dt39bcX11_world_12 rfl rfl)
theorem dX11_world_205 : decode cX11_world 205 = .ok (.getfield 124, 3) := dq_180 (dq_suf 13 dt39bcX11_world_12 rfl rfl) rfl
theorem dX11_world_208 : decode cX11_world 208 = .ok (.bipush 60, 2) := dq_16 (dq_suf 0 dt39bcX11_world_13 rfl rfl) (by decide +kernel)
theorem dX11_world_210 : decode cX11_world 210 = .ok (.iload_n 1, 1) := dq_27 (dq_suf 2 dt39bcX11_world_13 rfl rfl)
theorem dX11_world_211 : decode cX11_world 211 = .ok (.imul, 1) := dq_104 (dq_suf 3 dt39bcX11_world_13 rfl rfl)
theorem dX11_world_212 : decode cX11_world 212 = .ok (.iload 5, 2) := dq_21 (dq_suf 4 dt39bcX11_world_13 rfl rfl) rfl
theorem dX11_world_214 : decode cX11_world 214 = .ok (.iadd, 1) := dq_96 (dq_suf 6 dt39bcX11_world_13 rfl rfl)
theorem dX11_world_215 : decode cX11_world 215 = .ok (.baload, 1) := dq_51 (dq_suf 7 dt39bcX11_world_13 rfl rfl)
theorem dX11_world_216 : decode cX11_world 216 = .ok (.ifCond .eq 7, 3) := dq_153 (dq_suf 8 dt39bcX11_world_13 rfl rfl) (by decide +kernel)
theorem dX11_world_219 : decode cX11_world 219 = .ok (.iconst 1, 1) := dq_4 (dq_suf 11 dt39bcX11_world_13 rfl rfl)
theorem dX11_world_220 : decode cX11_world 220 = .ok (.goto 4, 3) := dq_167 (dq_suf 12 dt39bcX11_world_13 rfl rfl) (by decide +kernel)
theorem dX11_world_223 : decode cX11_world 223 = .ok (.iconst 0, 1) := dq_3 (dq_suf 15 dt39bcX11_world_13 rfl rfl)
theorem dX11_world_224 : decode cX11_world 224 = .ok (.iadd, 1) := dq_96 (dq_suf 0 dt39bcX11_world_14 rfl rfl)
theorem dX11_world_225 : decode cX11_world 225 = .ok (.istore_n 3, 1) := dq_62 (dq_suf 1 dt39bcX11_world_14 rfl rfl)
theorem dX11_world_226 : decode cX11_world 226 = .ok (.iinc 5 1, 3) := dq_132 (dq_suf 2 dt39bcX11_world_14 rfl rfl) rfl (by decide +kernel)
theorem dX11_world_229 : decode cX11_world 229 = .ok (.goto (-35), 3) := dq_167 (dq_suf 5 dt39bcX11_world_14 rfl rfl) (by decide +kernel)
theorem dX11_world_232 : decode cX11_world 232 = .ok (.iload_n 3, 1) := dq_29 (dq_suf 8 dt39bcX11_world_14 rfl rfl)
theorem dX11_world_233 : decode cX11_world 233 = .ok (.ireturn, 1) := dq_172 (dq_suf 9 dt39bcX11_world_14 rfl rfl)
theorem dX11_world_234 : decode cX11_world 234 = .ok (.aload_n 0, 1) := dq_42 (dq_suf 10 dt39bcX11_world_14 rfl rfl)
theorem dX11_world_235 : decode cX11_world 235 = .ok (.getfield 127, 3) := dq_180 (dq_suf 11 dt39bcX11_world_14 rfl rfl) rfl
theorem dX11_world_238 : decode cX11_world 238 = .ok (.iload_n 1, 1) := dq_27 (dq_suf 14 dt39bcX11_world_14 rfl rfl)
theorem dX11_world_239 : decode cX11_world 239 = .ok (.iaload, 1) := dq_46 (dq_suf 15 dt39bcX11_world_14 rfl rfl)
theorem dX11_world_240 : decode cX11_world 240 = .ok (.ireturn, 1) := dq_172 (dq_suf 0 dt39bcX11_world_15 rfl rfl)
theorem dX11_world_241 : decode cX11_world 241 = .ok (.iconst (-1), 1) := dq_2 (dq_suf 1 dt39bcX11_world_15 rfl rfl)
theorem dX11_world_242 : decode cX11_world 242 = .ok (.ireturn, 1) := dq_172 (dq_suf 2 dt39bcX11_world_15 rfl rfl)
noncomputable def ds39bcX11_seesGroup_2 : List UInt8 := 0 :: 5 :: 4 :: 172 :: 132 :: 3 :: 1 :: 167 :: 255 :: 219 :: 3 :: 172 :: []
noncomputable def ds39bcX11_seesGroup_1 : List UInt8 := 27 :: 104 :: 29 :: 96 :: 51 :: 153 :: 0 :: 15 :: 42 :: 180 :: 0 :: 136 :: 29 :: 46 :: 28 :: 160 :: ds39bcX11_seesGroup_2
noncomputable def ds39bcX11_seesGroup_0 : List UInt8 := 3 :: 62 :: 29 :: 42 :: 180 :: 1 :: 119 :: 162 :: 0 :: 35 :: 42 :: 180 :: 0 :: 124 :: 16 :: 60 :: ds39bcX11_seesGroup_1
theorem dt39bcX11_seesGroup_0 : cX11_seesGroup.data.toList.drop 0 = ds39bcX11_seesGroup_0 := by decide +kernel
theorem dt39bcX11_seesGroup_1 : cX11_seesGroup.data.toList.drop 16 = ds39bcX11_seesGroup_1 := dq_suf 16 dt39bcX11_seesGroup_0 rfl rfl
theorem dt39bcX11_seesGroup_2 : cX11_seesGroup.data.toList.drop 32 = ds39bcX11_seesGroup_2 := dq_suf 16 dt39bcX11_seesGroup_1 rfl rfl
theorem dX11_seesGroup_0 : decode cX11_seesGroup 0 = .ok (.iconst 0, 1) := dq_3 (dq_suf 0 dt39bcX11_seesGroup_0 rfl rfl)
theorem dX11_seesGroup_1 : decode cX11_seesGroup 1 = .ok (.istore_n 3, 1) := dq_62 (dq_suf 1 dt39bcX11_seesGroup_0 rfl rfl)
theorem dX11_seesGroup_2 : decode cX11_seesGroup 2 = .ok (.iload_n 3, 1) := dq_29 (dq_suf 2 dt39bcX11_seesGroup_0 rfl rfl)
theorem dX11_seesGroup_3 : decode cX11_seesGroup 3 = .ok (.aload_n 0, 1) := dq_42 (dq_suf 3 dt39bcX11_seesGroup_0 rfl rfl)
theorem dX11_seesGroup_4 : decode cX11_seesGroup 4 = .ok (.getfield 375, 3) := dq_180 (dq_suf 4 dt39bcX11_seesGroup_0 rfl rfl) rfl
theorem dX11_seesGroup_7 : decode cX11_seesGroup 7 = .ok (.if_icmp .ge 35, 3) := dq_162 (dq_suf 7 dt39bcX11_seesGroup_0 rfl rfl) (by decide +kernel)
theorem dX11_seesGroup_10 : decode cX11_seesGroup 10 = .ok (.aload_n 0, 1) := dq_42 (dq_suf 10 dt39bcX11_seesGroup_0 rfl rfl)
theorem dX11_seesGroup_11 : decode cX11_seesGroup 11 = .ok (.getfield 124, 3) := dq_180 (dq_suf 11 dt39bcX11_seesGroup_0 rfl rfl) rfl
theorem dX11_seesGroup_14 : decode cX11_seesGroup 14 = .ok (.bipush 60, 2) := dq_16 (dq_suf 14 dt39bcX11_seesGroup_0 rfl rfl) (by decide +kernel)
theorem dX11_seesGroup_16 : decode cX11_seesGroup 16 = .ok (.iload_n 1, 1) := dq_27 (dq_suf 0 dt39bcX11_seesGroup_1 rfl rfl)
theorem dX11_seesGroup_17 : decode cX11_seesGroup 17 = .ok (.imul, 1) := dq_104 (dq_suf 1 dt39bcX11_seesGroup_1 rfl rfl)
theorem dX11_seesGroup_18 : decode cX11_seesGroup 18 = .ok (.iload_n 3, 1) := dq_29 (dq_suf 2 dt39bcX11_seesGroup_1 rfl rfl)
theorem dX11_seesGroup_19 : decode cX11_seesGroup 19 = .ok (.iadd, 1) := dq_96 (dq_suf 3 dt39bcX11_seesGroup_1 rfl rfl)
theorem dX11_seesGroup_20 : decode cX11_seesGroup 20 = .ok (.baload, 1) := dq_51 (dq_suf 4 dt39bcX11_seesGroup_1 rfl rfl)
theorem dX11_seesGroup_21 : decode cX11_seesGroup 21 = .ok (.ifCond .eq 15, 3) := dq_153 (dq_suf 5 dt39bcX11_seesGroup_1 rfl rfl) (by decide +kernel)
theorem dX11_seesGroup_24 : decode cX11_seesGroup 24 = .ok (.aload_n 0, 1) := dq_42 (dq_suf 8 dt39bcX11_seesGroup_1 rfl rfl)
theorem dX11_seesGroup_25 : decode cX11_seesGroup 25 = .ok (.getfield 136, 3) := dq_180 (dq_suf 9 dt39bcX11_seesGroup_1 rfl rfl) rfl
theorem dX11_seesGroup_28 : decode cX11_seesGroup 28 = .ok (.iload_n 3, 1) := dq_29 (dq_suf 12 dt39bcX11_seesGroup_1 rfl rfl)
theorem dX11_seesGroup_29 : decode cX11_seesGroup 29 = .ok (.iaload, 1) := dq_46 (dq_suf 13 dt39bcX11_seesGroup_1 rfl rfl)
theorem dX11_seesGroup_30 : decode cX11_seesGroup 30 = .ok (.iload_n 2, 1) := dq_28 (dq_suf 14 dt39bcX11_seesGroup_1 rfl rfl)
theorem dX11_seesGroup_31 : decode cX11_seesGroup 31 = .ok (.if_icmp .ne 5, 3) := dq_160 (dq_suf 15 dt39bcX11_seesGroup_1 rfl rfl) (by decide +kernel)
theorem dX11_seesGroup_34 : decode cX11_seesGroup 34 = .ok (.iconst 1, 1) := dq_4 (dq_suf 2 dt39bcX11_seesGroup_2 rfl rfl)
theorem dX11_seesGroup_35 : decode cX11_seesGroup 35 = .ok (.ireturn, 1) := dq_172 (dq_suf 3 dt39bcX11_seesGroup_2 rfl rfl)
theorem dX11_seesGroup_36 : decode cX11_seesGroup 36 = .ok (.iinc 3 1, 3) := dq_132 (dq_suf 4 dt39bcX11_seesGroup_2 rfl rfl) rfl (by decide +kernel)
theorem dX11_seesGroup_39 : decode cX11_seesGroup 39 = .ok (.goto (-37), 3) := dq_167 (dq_suf 7 dt39bcX11_seesGroup_2 rfl rfl) (by decide +kernel)
theorem dX11_seesGroup_42 : decode cX11_seesGroup 42 = .ok (.iconst 0, 1) := dq_3 (dq_suf 10 dt39bcX11_seesGroup_2 rfl rfl)
theorem dX11_seesGroup_43 : decode cX11_seesGroup 43 = .ok (.ireturn, 1) := dq_172 (dq_suf 11 dt39bcX11_seesGroup_2 rfl rfl)
noncomputable def ds39bcX11_isAlike_3 : List UInt8 := 51 :: 159 :: 0 :: 5 :: 3 :: 172 :: 132 :: 3 :: 1 :: 167 :: 255 :: 218 :: 4 :: 172 :: []
noncomputable def ds39bcX11_isAlike_2 : List UInt8 := 60 :: 27 :: 104 :: 29 :: 96 :: 51 :: 42 :: 180 :: 0 :: 142 :: 16 :: 60 :: 28 :: 104 :: 29 :: 96 :: ds39bcX11_isAlike_3
noncomputable def ds39bcX11_isAlike_1 : List UInt8 := 172 :: 3 :: 62 :: 29 :: 42 :: 180 :: 1 :: 119 :: 162 :: 0 :: 36 :: 42 :: 180 :: 0 :: 142 :: 16 :: ds39bcX11_isAlike_2
noncomputable def ds39bcX11_isAlike_0 : List UInt8 := 42 :: 180 :: 0 :: 136 :: 27 :: 46 :: 42 :: 180 :: 0 :: 136 :: 28 :: 46 :: 159 :: 0 :: 5 :: 3 :: ds39bcX11_isAlike_1
theorem dt39bcX11_isAlike_0 : cX11_isAlike.data.toList.drop 0 = ds39bcX11_isAlike_0 := by decide +kernel
theorem dt39bcX11_isAlike_1 : cX11_isAlike.data.toList.drop 16 = ds39bcX11_isAlike_1 := dq_suf 16 dt39bcX11_isAlike_0 rfl rfl
theorem dt39bcX11_isAlike_2 : cX11_isAlike.data.toList.drop 32 = ds39bcX11_isAlike_2 := dq_suf 16 dt39bcX11_isAlike_1 rfl rfl
theorem dt39bcX11_isAlike_3 : cX11_isAlike.data.toList.drop 48 = ds39bcX11_isAlike_3 := dq_suf 16 dt39bcX11_isAlike_2 rfl rfl
theorem dX11_isAlike_0 : decode cX11_isAlike 0 = .ok (.aload_n 0, 1) := dq_42 (dq_suf 0 dt39bcX11_isAlike_0 rfl rfl)
theorem dX11_isAlike_1 : decode cX11_isAlike 1 = .ok (.getfield 136, 3) := dq_180 (dq_suf 1 dt39bcX11_isAlike_0 rfl rfl) rfl
theorem dX11_isAlike_4 : decode cX11_isAlike 4 = .ok (.iload_n 1, 1) := dq_27 (dq_suf 4 dt39bcX11_isAlike_0 rfl rfl)
theorem dX11_isAlike_5 : decode cX11_isAlike 5 = .ok (.iaload, 1) := dq_46 (dq_suf 5 dt39bcX11_isAlike_0 rfl rfl)
theorem dX11_isAlike_6 : decode cX11_isAlike 6 = .ok (.aload_n 0, 1) := dq_42 (dq_suf 6 dt39bcX11_isAlike_0 rfl rfl)
theorem dX11_isAlike_7 : decode cX11_isAlike 7 = .ok (.getfield 136, 3) := dq_180 (dq_suf 7 dt39bcX11_isAlike_0 rfl rfl) rfl
theorem dX11_isAlike_10 : decode cX11_isAlike 10 = .ok (.iload_n 2, 1) := dq_28 (dq_suf 10 dt39bcX11_isAlike_0 rfl rfl)
theorem dX11_isAlike_11 : decode cX11_isAlike 11 = .ok (.iaload, 1) := dq_46 (dq_suf 11 dt39bcX11_isAlike_0 rfl rfl)
theorem dX11_isAlike_12 : decode cX11_isAlike 12 = .ok (.if_icmp .eq 5, 3) := dq_159 (dq_suf 12 dt39bcX11_isAlike_0 rfl rfl) (by decide +kernel)
theorem dX11_isAlike_15 : decode cX11_isAlike 15 = .ok (.iconst 0, 1) := dq_3 (dq_suf 15 dt39bcX11_isAlike_0 rfl rfl)
theorem dX11_isAlike_16 : decode cX11_isAlike 16 = .ok (.ireturn, 1) := dq_172 (dq_suf 0 dt39bcX11_isAlike_1 rfl rfl)
theorem dX11_isAlike_17 : decode cX11_isAlike 17 = .ok (.iconst 0, 1) := dq_3 (dq_suf 1 dt39bcX11_isAlike_1 rfl rfl)
theorem dX11_isAlike_18 : decode cX11_isAlike 18 = .ok (.istore_n 3, 1) := dq_62 (dq_suf 2 dt39bcX11_isAlike_1 rfl rfl)
theorem dX11_isAlike_19 : decode cX11_isAlike 19 = .ok (.iload_n 3, 1) := dq_29 (dq_suf 3 dt39bcX11_isAlike_1 rfl rfl)
theorem dX11_isAlike_20 : decode cX11_isAlike 20 = .ok (.aload_n 0, 1) := dq_42 (dq_suf 4 dt39bcX11_isAlike_1 rfl rfl)
theorem dX11_isAlike_21 : decode cX11_isAlike 21 = .ok (.getfield 375, 3) := dq_180 (dq_suf 5 dt39bcX11_isAlike_1 rfl rfl) rfl
theorem dX11_isAlike_24 : decode cX11_isAlike 24 = .ok (.if_icmp .ge 36, 3) := dq_162 (dq_suf 8 dt39bcX11_isAlike_1 rfl rfl) (by decide +kernel)
theorem dX11_isAlike_27 : decode cX11_isAlike 27 = .ok (.aload_n 0, 1) := dq_42 (dq_suf 11 dt39bcX11_isAlike_1 rfl rfl)
theorem dX11_isAlike_28 : decode cX11_isAlike 28 = .ok (.getfield 142, 3) := dq_180 (dq_suf 12 dt39bcX11_isAlike_1 rfl rfl) rfl
theorem dX11_isAlike_31 : decode cX11_isAlike 31 = .ok (.bipush 60, 2) := dq_16 (dq_suf 15 dt39bcX11_isAlike_1 rfl rfl) (by decide +kernel)
theorem dX11_isAlike_33 : decode cX11_isAlike 33 = .ok (.iload_n 1, 1) := dq_27 (dq_suf 1 dt39bcX11_isAlike_2 rfl rfl)
theorem dX11_isAlike_34 : decode cX11_isAlike 34 = .ok (.imul, 1) := dq_104 (dq_suf 2 dt39bcX11_isAlike_2 rfl rfl)
theorem dX11_isAlike_35 : decode cX11_isAlike 35 = .ok (.iload_n 3, 1) := dq_29 (dq_suf 3 dt39bcX11_isAlike_2 rfl rfl)
theorem dX11_isAlike_36 : decode cX11_isAlike 36 = .ok (.iadd, 1) := dq_96 (dq_suf 4 dt39bcX11_isAlike_2 rfl rfl)
theorem dX11_isAlike_37 : decode cX11_isAlike 37 = .ok (.baload, 1) := dq_51 (dq_suf 5 dt39bcX11_isAlike_2 rfl rfl)
theorem dX11_isAlike_38 : decode cX11_isAlike 38 = .ok (.aload_n 0, 1) := dq_42 (dq_suf 6 dt39bcX11_isAlike_2 rfl rfl)
theorem dX11_isAlike_39 : decode cX11_isAlike 39 = .ok (.getfield 142, 3) := dq_180 (dq_suf 7 dt39bcX11_isAlike_2 rfl rfl) rfl
theorem dX11_isAlike_42 : decode cX11_isAlike 42 = .ok (.bipush 60, 2) := dq_16 (dq_suf 10 dt39bcX11_isAlike_2 rfl rfl) (by decide +kernel)
theorem dX11_isAlike_44 : decode cX11_isAlike 44 = .ok (.iload_n 2, 1) := dq_28 (dq_suf 12 dt39bcX11_isAlike_2 rfl rfl)
theorem dX11_isAlike_45 : decode cX11_isAlike 45 = .ok (.imul, 1) := dq_104 (dq_suf 13 dt39bcX11_isAlike_2 rfl rfl)
theorem dX11_isAlike_46 : decode cX11_isAlike 46 = .ok (.iload_n 3, 1) := dq_29 (dq_suf 14 dt39bcX11_isAlike_2 rfl rfl)
theorem dX11_isAlike_47 : decode cX11_isAlike 47 = .ok (.iadd, 1) := dq_96 (dq_suf 15 dt39bcX11_isAlike_2 rfl rfl)
theorem dX11_isAlike_48 : decode cX11_isAlike 48 = .ok (.baload, 1) := dq_51 (dq_suf 0 dt39bcX11_isAlike_3 rfl rfl)
theorem dX11_isAlike_49 : decode cX11_isAlike 49 = .ok (.if_icmp .eq 5, 3) := dq_159 (dq_suf 1 dt39bcX11_isAlike_3 rfl rfl) (by decide +kernel)
theorem dX11_isAlike_52 : decode cX11_isAlike 52 = .ok (.iconst 0, 1) := dq_3 (dq_suf 4 dt39bcX11_isAlike_3 rfl rfl)
theorem dX11_isAlike_53 : decode cX11_isAlike 53 = .ok (.ireturn, 1) := dq_172 (dq_suf 5 dt39bcX11_isAlike_3 rfl rfl)
theorem dX11_isAlike_54 : decode cX11_isAlike 54 = .ok (.iinc 3 1, 3) := dq_132 (dq_suf 6 dt39bcX11_isAlike_3 rfl rfl) rfl (by decide +kernel)
theorem dX11_isAlike_57 : decode cX11_isAlike 57 = .ok (.goto (-38), 3) := dq_167 (dq_suf 9 dt39bcX11_isAlike_3 rfl rfl) (by decide +kernel)
theorem dX11_isAlike_60 : decode cX11_isAlike 60 = .ok (.iconst 1, 1) := dq_4 (dq_suf 12 dt39bcX11_isAlike_3 rfl rfl)
theorem dX11_isAlike_61 : decode cX11_isAlike 61 = .ok (.ireturn, 1) := dq_172 (dq_suf 13 dt39bcX11_isAlike_3 rfl rfl)
noncomputable def ds39bcX11_look_3 : List UInt8 := 212 :: 177 :: []
noncomputable def ds39bcX11_look_2 : List UInt8 := 28 :: 182 :: 1 :: 137 :: 84 :: 132 :: 2 :: 1 :: 167 :: 255 :: 228 :: 132 :: 1 :: 1 :: 167 :: 255 :: ds39bcX11_look_3
noncomputable def ds39bcX11_look_1 : List UInt8 := 119 :: 162 :: 0 :: 26 :: 42 :: 180 :: 0 :: 142 :: 16 :: 60 :: 27 :: 104 :: 28 :: 96 :: 42 :: 27 :: ds39bcX11_look_2
noncomputable def ds39bcX11_look_0 : List UInt8 := 3 :: 60 :: 27 :: 42 :: 180 :: 1 :: 119 :: 162 :: 0 :: 42 :: 3 :: 61 :: 28 :: 42 :: 180 :: 1 :: ds39bcX11_look_1
theorem dt39bcX11_look_0 : cX11_look.data.toList.drop 0 = ds39bcX11_look_0 := by decide +kernel
theorem dt39bcX11_look_1 : cX11_look.data.toList.drop 16 = ds39bcX11_look_1 := dq_suf 16 dt39bcX11_look_0 rfl rfl
theorem dt39bcX11_look_2 : cX11_look.data.toList.drop 32 = ds39bcX11_look_2 := dq_suf 16 dt39bcX11_look_1 rfl rfl
theorem dt39bcX11_look_3 : cX11_look.data.toList.drop 48 = ds39bcX11_look_3 := dq_suf 16 dt39bcX11_look_2 rfl rfl
theorem dX11_look_0 : decode cX11_look 0 = .ok (.iconst 0, 1) := dq_3 (dq_suf 0 dt39bcX11_look_0 rfl rfl)
theorem dX11_look_1 : decode cX11_look 1 = .ok (.istore_n 1, 1) := dq_60 (dq_suf 1 dt39bcX11_look_0 rfl rfl)
theorem dX11_look_2 : decode cX11_look 2 = .ok (.iload_n 1, 1) := dq_27 (dq_suf 2 dt39bcX11_look_0 rfl rfl)
theorem dX11_look_3 : decode cX11_look 3 = .ok (.aload_n 0, 1) := dq_42 (dq_suf 3 dt39bcX11_look_0 rfl rfl)
theorem dX11_look_4 : decode cX11_look 4 = .ok (.getfield 375, 3) := dq_180 (dq_suf 4 dt39bcX11_look_0 rfl rfl) rfl
theorem dX11_look_7 : decode cX11_look 7 = .ok (.if_icmp .ge 42, 3) := dq_162 (dq_suf 7 dt39bcX11_look_0 rfl rfl) (by decide +kernel)
theorem dX11_look_10 : decode cX11_look 10 = .ok (.iconst 0, 1) := dq_3 (dq_suf 10 dt39bcX11_look_0 rfl rfl)
theorem dX11_look_11 : decode cX11_look 11 = .ok (.istore_n 2, 1) := dq_61 (dq_suf 11 dt39bcX11_look_0 rfl rfl)
theorem dX11_look_12 : decode cX11_look 12 = .ok (.iload_n 2, 1) := dq_28 (dq_suf 12 dt39bcX11_look_0 rfl rfl)
theorem dX11_look_13 : decode cX11_look 13 = .ok (.aload_n 0, 1) := dq_42 (dq_suf 13 dt39bcX11_look_0 rfl rfl)
theorem dX11_look_14 : decode cX11_look 14 = .ok (.getfield 375, 3) := dq_180 (dq_suf 14 dt39bcX11_look_0 rfl rfl) rfl
theorem dX11_look_17 : decode cX11_look 17 = .ok (.if_icmp .ge 26, 3) := dq_162 (dq_suf 1 dt39bcX11_look_1 rfl rfl) (by decide +kernel)
theorem dX11_look_20 : decode cX11_look 20 = .ok (.aload_n 0, 1) := dq_42 (dq_suf 4 dt39bcX11_look_1 rfl rfl)
theorem dX11_look_21 : decode cX11_look 21 = .ok (.getfield 142, 3) := dq_180 (dq_suf 5 dt39bcX11_look_1 rfl rfl) rfl
theorem dX11_look_24 : decode cX11_look 24 = .ok (.bipush 60, 2) := dq_16 (dq_suf 8 dt39bcX11_look_1 rfl rfl) (by decide +kernel)
theorem dX11_look_26 : decode cX11_look 26 = .ok (.iload_n 1, 1) := dq_27 (dq_suf 10 dt39bcX11_look_1 rfl rfl)
theorem dX11_look_27 : decode cX11_look 27 = .ok (.imul, 1) := dq_104 (dq_suf 11 dt39bcX11_look_1 rfl rfl)
theorem dX11_look_28 : decode cX11_look 28 = .ok (.iload_n 2, 1) := dq_28 (dq_suf 12 dt39bcX11_look_1 rfl rfl)
theorem dX11_look_29 : decode cX11_look 29 = .ok (.iadd, 1) := dq_96 (dq_suf 13 dt39bcX11_look_1 rfl rfl)
theorem dX11_look_30 : decode cX11_look 30 = .ok (.aload_n 0, 1) := dq_42 (dq_suf 14 dt39bcX11_look_1 rfl rfl)
theorem dX11_look_31 : decode cX11_look 31 = .ok (.iload_n 1, 1) := dq_27 (dq_suf 15 dt39bcX11_look_1 rfl rfl)
theorem dX11_look_32 : decode cX11_look 32 = .ok (.iload_n 2, 1) := dq_28 (dq_suf 0 dt39bcX11_look_2 rfl rfl)
theorem dX11_look_33 : decode cX11_look 33 = .ok (.invokevirtual 393, 3) := dq_182 (dq_suf 1 dt39bcX11_look_2 rfl rfl) rfl
theorem dX11_look_36 : decode cX11_look 36 = .ok (.bastore, 1) := dq_84 (dq_suf 4 dt39bcX11_look_2 rfl rfl)
theorem dX11_look_37 : decode cX11_look 37 = .ok (.iinc 2 1, 3) := dq_132 (dq_suf 5 dt39bcX11_look_2 rfl rfl) rfl (by decide +kernel)
theorem dX11_look_40 : decode cX11_look 40 = .ok (.goto (-28), 3) := dq_167 (dq_suf 8 dt39bcX11_look_2 rfl rfl) (by decide +kernel)
theorem dX11_look_43 : decode cX11_look 43 = .ok (.iinc 1 1, 3) := dq_132 (dq_suf 11 dt39bcX11_look_2 rfl rfl) rfl (by decide +kernel)
theorem dX11_look_46 : decode cX11_look 46 = .ok (.goto (-44), 3) := dq_167 (dq_suf 14 dt39bcX11_look_2 rfl rfl) (by decide +kernel)
theorem dX11_look_49 : decode cX11_look 49 = .ok (.return_, 1) := dq_177 (dq_suf 1 dt39bcX11_look_3 rfl rfl)
noncomputable def ds39bcX11_fold_20 : List UInt8 := 1 :: 167 :: 255 :: 136 :: 42 :: 29 :: 182 :: 1 :: 146 :: 29 :: 172 :: []
noncomputable def ds39bcX11_fold_19 : List UInt8 := 3 :: 84 :: 132 :: 6 :: 1 :: 167 :: 255 :: 180 :: 132 :: 5 :: 1 :: 167 :: 255 :: 151 :: 132 :: 4 :: ds39bcX11_fold_20
noncomputable def ds39bcX11_fold_18 : List UInt8 := 180 :: 0 :: 145 :: 21 :: 5 :: 46 :: 182 :: 1 :: 137 :: 153 :: 0 :: 7 :: 4 :: 167 :: 0 :: 4 :: ds39bcX11_fold_19
noncomputable def ds39bcX11_fold_17 : List UInt8 := 6 :: 46 :: 42 :: 180 :: 0 :: 145 :: 21 :: 4 :: 46 :: 160 :: 0 :: 23 :: 42 :: 21 :: 6 :: 42 :: ds39bcX11_fold_18
noncomputable def ds39bcX11_fold_16 : List UInt8 := 60 :: 21 :: 4 :: 104 :: 21 :: 5 :: 96 :: 51 :: 154 :: 0 :: 36 :: 42 :: 180 :: 0 :: 136 :: 21 :: ds39bcX11_fold_17
noncomputable def ds39bcX11_fold_15 : List UInt8 := 180 :: 0 :: 148 :: 16 :: 60 :: 21 :: 4 :: 104 :: 21 :: 5 :: 96 :: 42 :: 180 :: 0 :: 148 :: 16 :: ds39bcX11_fold_16
noncomputable def ds39bcX11_fold_14 : List UInt8 := 104 :: 21 :: 5 :: 96 :: 3 :: 84 :: 3 :: 54 :: 6 :: 21 :: 6 :: 27 :: 162 :: 0 :: 76 :: 42 :: ds39bcX11_fold_15
noncomputable def ds39bcX11_fold_13 : List UInt8 := 54 :: 5 :: 21 :: 5 :: 29 :: 162 :: 0 :: 105 :: 42 :: 180 :: 0 :: 148 :: 16 :: 60 :: 21 :: 4 :: ds39bcX11_fold_14
noncomputable def ds39bcX11_fold_12 : List UInt8 := 132 :: 4 :: 1 :: 167 :: 255 :: 224 :: 3 :: 54 :: 4 :: 21 :: 4 :: 29 :: 162 :: 0 :: 120 :: 3 :: ds39bcX11_fold_13
noncomputable def ds39bcX11_fold_11 : List UInt8 := 21 :: 4 :: 160 :: 0 :: 14 :: 42 :: 180 :: 0 :: 145 :: 29 :: 21 :: 4 :: 79 :: 132 :: 3 :: 1 :: ds39bcX11_fold_12
noncomputable def ds39bcX11_fold_10 : List UInt8 := 3 :: 54 :: 4 :: 21 :: 4 :: 27 :: 162 :: 0 :: 32 :: 42 :: 180 :: 0 :: 136 :: 21 :: 4 :: 46 :: ds39bcX11_fold_11
noncomputable def ds39bcX11_fold_9 : List UInt8 := 0 :: 139 :: 29 :: 46 :: 79 :: 132 :: 3 :: 1 :: 167 :: 255 :: 211 :: 167 :: 255 :: 156 :: 3 :: 62 :: ds39bcX11_fold_10
noncomputable def ds39bcX11_fold_8 : List UInt8 := 159 :: 0 :: 7 :: 4 :: 167 :: 0 :: 4 :: 3 :: 61 :: 42 :: 180 :: 0 :: 136 :: 29 :: 42 :: 180 :: ds39bcX11_fold_9
noncomputable def ds39bcX11_fold_7 : List UInt8 := 28 :: 154 :: 0 :: 18 :: 42 :: 180 :: 0 :: 139 :: 29 :: 46 :: 42 :: 180 :: 0 :: 136 :: 29 :: 46 :: ds39bcX11_fold_8
noncomputable def ds39bcX11_fold_6 : List UInt8 := 21 :: 4 :: 79 :: 132 :: 3 :: 1 :: 167 :: 255 :: 221 :: 3 :: 62 :: 29 :: 27 :: 162 :: 0 :: 46 :: ds39bcX11_fold_7
noncomputable def ds39bcX11_fold_5 : List UInt8 := 1 :: 143 :: 154 :: 0 :: 9 :: 132 :: 4 :: 1 :: 167 :: 255 :: 243 :: 42 :: 180 :: 0 :: 139 :: 29 :: ds39bcX11_fold_6
noncomputable def ds39bcX11_fold_4 : List UInt8 := 140 :: 3 :: 62 :: 29 :: 27 :: 162 :: 0 :: 36 :: 3 :: 54 :: 4 :: 42 :: 21 :: 4 :: 29 :: 182 :: ds39bcX11_fold_5
noncomputable def ds39bcX11_fold_3 : List UInt8 := 2 :: 1 :: 167 :: 255 :: 218 :: 4 :: 61 :: 28 :: 153 :: 0 :: 102 :: 3 :: 61 :: 42 :: 182 :: 1 :: ds39bcX11_fold_4
noncomputable def ds39bcX11_fold_2 : List UInt8 := 0 :: 9 :: 132 :: 3 :: 1 :: 167 :: 255 :: 238 :: 42 :: 180 :: 0 :: 136 :: 28 :: 29 :: 79 :: 132 :: ds39bcX11_fold_3
noncomputable def ds39bcX11_fold_1 : List UInt8 := 39 :: 3 :: 62 :: 42 :: 180 :: 0 :: 121 :: 29 :: 46 :: 42 :: 180 :: 0 :: 121 :: 28 :: 46 :: 159 :: ds39bcX11_fold_2
noncomputable def ds39bcX11_fold_0 : List UInt8 := 42 :: 3 :: 181 :: 0 :: 151 :: 42 :: 180 :: 1 :: 119 :: 60 :: 3 :: 61 :: 28 :: 27 :: 162 :: 0 :: ds39bcX11_fold_1
theorem dt39bcX11_fold_0 : cX11_fold.data.toList.drop 0 = ds39bcX11_fold_0 := by decide +kernel
theorem dt39bcX11_fold_1 : cX11_fold.data.toList.drop 16 = ds39bcX11_fold_1 := dq_suf 16 dt39bcX11_fold_0 rfl rfl
theorem dt39bcX11_fold_2 : cX11_fold.data.toList.drop 32 = ds39bcX11_fold_2 := dq_suf 16 dt39bcX11_fold_1 rfl rfl
theorem dt39bcX11_fold_3 : cX11_fold.data.toList.drop 48 = ds39bcX11_fold_3 := dq_suf 16 dt39bcX11_fold_2 rfl rfl
theorem dt39bcX11_fold_4 : cX11_fold.data.toList.drop 64 = ds39bcX11_fold_4 := dq_suf 16 dt39bcX11_fold_3 rfl rfl
theorem dt39bcX11_fold_5 : cX11_fold.data.toList.drop 80 = ds39bcX11_fold_5 := dq_suf 16 dt39bcX11_fold_4 rfl rfl
theorem dt39bcX11_fold_6 : cX11_fold.data.toList.drop 96 = ds39bcX11_fold_6 := dq_suf 16 dt39bcX11_fold_5 rfl rfl
theorem dt39bcX11_fold_7 : cX11_fold.data.toList.drop 112 = ds39bcX11_fold_7 := dq_suf 16 dt39bcX11_fold_6 rfl rfl
theorem dt39bcX11_fold_8 : cX11_fold.data.toList.drop 128 = ds39bcX11_fold_8 := dq_suf 16 dt39bcX11_fold_7 rfl rfl
theorem dt39bcX11_fold_9 : cX11_fold.data.toList.drop 144 = ds39bcX11_fold_9 := dq_suf 16 dt39bcX11_fold_8 rfl rfl
theorem dt39bcX11_fold_10 : cX11_fold.data.toList.drop 160 = ds39bcX11_fold_10 := dq_suf 16 dt39bcX11_fold_9 rfl rfl
theorem dt39bcX11_fold_11 : cX11_fold.data.toList.drop 176 = ds39bcX11_fold_11 := dq_suf 16 dt39bcX11_fold_10 rfl rfl
theorem dt39bcX11_fold_12 : cX11_fold.data.toList.drop 192 = ds39bcX11_fold_12 := dq_suf 16 dt39bcX11_fold_11 rfl rfl
theorem dt39bcX11_fold_13 : cX11_fold.data.toList.drop 208 = ds39bcX11_fold_13 := dq_suf 16 dt39bcX11_fold_12 rfl rfl
theorem dt39bcX11_fold_14 : cX11_fold.data.toList.drop 224 = ds39bcX11_fold_14 := dq_suf 16 dt39bcX11_fold_13 rfl rfl
theorem dt39bcX11_fold_15 : cX11_fold.data.toList.drop 240 = ds39bcX11_fold_15 := dq_suf 16 dt39bcX11_fold_14 rfl rfl
theorem dt39bcX11_fold_16 : cX11_fold.data.toList.drop 256 = ds39bcX11_fold_16 := dq_suf 16 dt39bcX11_fold_15 rfl rfl
theorem dt39bcX11_fold_17 : cX11_fold.data.toList.drop 272 = ds39bcX11_fold_17 := dq_suf 16 dt39bcX11_fold_16 rfl rfl
theorem dt39bcX11_fold_18 : cX11_fold.data.toList.drop 288 = ds39bcX11_fold_18 := dq_suf 16 dt39bcX11_fold_17 rfl rfl
theorem dt39bcX11_fold_19 : cX11_fold.data.toList.drop 304 = ds39bcX11_fold_19 := dq_suf 16 dt39bcX11_fold_18 rfl rfl
theorem dt39bcX11_fold_20 : cX11_fold.data.toList.drop 320 = ds39bcX11_fold_20 := dq_suf 16 dt39bcX11_fold_19 rfl rfl
theorem dX11_fold_0 : decode cX11_fold 0 = .ok (.aload_n 0, 1) := dq_42 (dq_suf 0 dt39bcX11_fold_0 rfl rfl)
theorem dX11_fold_1 : decode cX11_fold 1 = .ok (.iconst 0, 1) := dq_3 (dq_suf 1 dt39bcX11_fold_0 rfl rfl)
theorem dX11_fold_2 : decode cX11_fold 2 = .ok (.putfield 151, 3) := dq_181 (dq_suf 2 dt39bcX11_fold_0 rfl rfl) rfl
theorem dX11_fold_5 : decode cX11_fold 5 = .ok (.aload_n 0, 1) := dq_42 (dq_suf 5 dt39bcX11_fold_0 rfl rfl)
theorem dX11_fold_6 : decode cX11_fold 6 = .ok (.getfield 375, 3) := dq_180 (dq_suf 6 dt39bcX11_fold_0 rfl rfl) rfl
theorem dX11_fold_9 : decode cX11_fold 9 = .ok (.istore_n 1, 1) := dq_60 (dq_suf 9 dt39bcX11_fold_0 rfl rfl)
theorem dX11_fold_10 : decode cX11_fold 10 = .ok (.iconst 0, 1) := dq_3 (dq_suf 10 dt39bcX11_fold_0 rfl rfl)
theorem dX11_fold_11 : decode cX11_fold 11 = .ok (.istore_n 2, 1) := dq_61 (dq_suf 11 dt39bcX11_fold_0 rfl rfl)
theorem dX11_fold_12 : decode cX11_fold 12 = .ok (.iload_n 2, 1) := dq_28 (dq_suf 12 dt39bcX11_fold_0 rfl rfl)
theorem dX11_fold_13 : decode cX11_fold 13 = .ok (.iload_n 1, 1) := dq_27 (dq_suf 13 dt39bcX11_fold_0 rfl rfl)
theorem dX11_fold_14 : decode cX11_fold 14 = .ok (.if_icmp .ge 39, 3) := dq_162 (dq_suf 14 dt39bcX11_fold_0 rfl rfl) (by decide +kernel)
theorem dX11_fold_17 : decode cX11_fold 17 = .ok (.iconst 0, 1) := dq_3 (dq_suf 1 dt39bcX11_fold_1 rfl rfl)
theorem dX11_fold_18 : decode cX11_fold 18 = .ok (.istore_n 3, 1) := dq_62 (dq_suf 2 dt39bcX11_fold_1 rfl rfl)
theorem dX11_fold_19 : decode cX11_fold 19 = .ok (.aload_n 0, 1) := dq_42 (dq_suf 3 dt39bcX11_fold_1 rfl rfl)
theorem dX11_fold_20 : decode cX11_fold 20 = .ok (.getfield 121, 3) := dq_180 (dq_suf 4 dt39bcX11_fold_1 rfl rfl) rfl
theorem dX11_fold_23 : decode cX11_fold 23 = .ok (.iload_n 3, 1) := dq_29 (dq_suf 7 dt39bcX11_fold_1 rfl rfl)
theorem dX11_fold_24 : decode cX11_fold 24 = .ok (.iaload, 1) := dq_46 (dq_suf 8 dt39bcX11_fold_1 rfl rfl)
theorem dX11_fold_25 : decode cX11_fold 25 = .ok (.aload_n 0, 1) := dq_42 (dq_suf 9 dt39bcX11_fold_1 rfl rfl)
theorem dX11_fold_26 : decode cX11_fold 26 = .ok (.getfield 121, 3) := dq_180 (dq_suf 10 dt39bcX11_fold_1 rfl rfl) rfl
theorem dX11_fold_29 : decode cX11_fold 29 = .ok (.iload_n 2, 1) := dq_28 (dq_suf 13 dt39bcX11_fold_1 rfl rfl)
theorem dX11_fold_30 : decode cX11_fold 30 = .ok (.iaload, 1) := dq_46 (dq_suf 14 dt39bcX11_fold_1 rfl rfl)
theorem dX11_fold_31 : decode cX11_fold 31 = .ok (.if_icmp .eq 9, 3) := dq_159 (dq_suf 15 dt39bcX11_fold_1 rfl rfl) (by decide +kernel)
theorem dX11_fold_34 : decode cX11_fold 34 = .ok (.iinc 3 1, 3) := dq_132 (dq_suf 2 dt39bcX11_fold_2 rfl rfl) rfl (by decide +kernel)
theorem dX11_fold_37 : decode cX11_fold 37 = .ok (.goto (-18), 3) := dq_167 (dq_suf 5 dt39bcX11_fold_2 rfl rfl) (by decide +kernel)
theorem dX11_fold_40 : decode cX11_fold 40 = .ok (.aload_n 0, 1) := dq_42 (dq_suf 8 dt39bcX11_fold_2 rfl rfl)
theorem dX11_fold_41 : decode cX11_fold 41 = .ok (.getfield 136, 3) := dq_180 (dq_suf 9 dt39bcX11_fold_2 rfl rfl) rfl
theorem dX11_fold_44 : decode cX11_fold 44 = .ok (.iload_n 2, 1) := dq_28 (dq_suf 12 dt39bcX11_fold_2 rfl rfl)
theorem dX11_fold_45 : decode cX11_fold 45 = .ok (.iload_n 3, 1) := dq_29 (dq_suf 13 dt39bcX11_fold_2 rfl rfl)
theorem dX11_fold_46 : decode cX11_fold 46 = .ok (.iastore, 1) := dq_79 (dq_suf 14 dt39bcX11_fold_2 rfl rfl)
theorem dX11_fold_47 : decode cX11_fold 47 = .ok (.iinc 2 1, 3) := dq_132 (dq_suf 15 dt39bcX11_fold_2 rfl rfl) rfl (by decide +kernel)
theorem dX11_fold_50 : decode cX11_fold 50 = .ok (.goto (-38), 3) := dq_167 (dq_suf 2 dt39bcX11_fold_3 rfl rfl) (by decide +kernel)
theorem dX11_fold_53 : decode cX11_fold 53 = .ok (.iconst 1, 1) := dq_4 (dq_suf 5 dt39bcX11_fold_3 rfl rfl)
theorem dX11_fold_54 : decode cX11_fold 54 = .ok (.istore_n 2, 1) := dq_61 (dq_suf 6 dt39bcX11_fold_3 rfl rfl)
theorem dX11_fold_55 : decode cX11_fold 55 = .ok (.iload_n 2, 1) := dq_28 (dq_suf 7 dt39bcX11_fold_3 rfl rfl)
theorem dX11_fold_56 : decode cX11_fold 56 = .ok (.ifCond .eq 102, 3) := dq_153 (dq_suf 8 dt39bcX11_fold_3 rfl rfl) (by decide +kernel)
theorem dX11_fold_59 : decode cX11_fold 59 = .ok (.iconst 0, 1) := dq_3 (dq_suf 11 dt39bcX11_fold_3 rfl rfl)
theorem dX11_fold_60 : decode cX11_fold 60 = .ok (.istore_n 2, 1) := dq_61 (dq_suf 12 dt39bcX11_fold_3 rfl rfl)
theorem dX11_fold_61 : decode cX11_fold 61 = .ok (.aload_n 0, 1) := dq_42 (dq_suf 13 dt39bcX11_fold_3 rfl rfl)
theorem dX11_fold_62 : decode cX11_fold 62 = .ok (.invokevirtual 396, 3) := dq_182 (dq_suf 14 dt39bcX11_fold_3 rfl rfl) rfl
theorem dX11_fold_65 : decode cX11_fold 65 = .ok (.iconst 0, 1) := dq_3 (dq_suf 1 dt39bcX11_fold_4 rfl rfl)
theorem dX11_fold_66 : decode cX11_fold 66 = .ok (.istore_n 3, 1) := dq_62 (dq_suf 2 dt39bcX11_fold_4 rfl rfl)
theorem dX11_fold_67 : decode cX11_fold 67 = .ok (.iload_n 3, 1) := dq_29 (dq_suf 3 dt39bcX11_fold_4 rfl rfl)
theorem dX11_fold_68 : decode cX11_fold 68 = .ok (.iload_n 1, 1) := dq_27 (dq_suf 4 dt39bcX11_fold_4 rfl rfl)
theorem dX11_fold_69 : decode cX11_fold 69 = .ok (.if_icmp .ge 36, 3) := dq_162 (dq_suf 5 dt39bcX11_fold_4 rfl rfl) (by decide +kernel)
theorem dX11_fold_72 : decode cX11_fold 72 = .ok (.iconst 0, 1) := dq_3 (dq_suf 8 dt39bcX11_fold_4 rfl rfl)
theorem dX11_fold_73 : decode cX11_fold 73 = .ok (.istore 4, 2) := dq_54 (dq_suf 9 dt39bcX11_fold_4 rfl rfl) rfl
theorem dX11_fold_75 : decode cX11_fold 75 = .ok (.aload_n 0, 1) := dq_42 (dq_suf 11 dt39bcX11_fold_4 rfl rfl)
theorem dX11_fold_76 : decode cX11_fold 76 = .ok (.iload 4, 2) := dq_21 (dq_suf 12 dt39bcX11_fold_4 rfl rfl) rfl
theorem dX11_fold_78 : decode cX11_fold 78 = .ok (.iload_n 3, 1) := dq_29 (dq_suf 14 dt39bcX11_fold_4 rfl rfl)
theorem dX11_fold_79 : decode cX11_fold 79 = .ok (.invokevirtual 399, 3) := dq_182 (dq_suf 15 dt39bcX11_fold_4 rfl rfl) rfl
theorem dX11_fold_82 : decode cX11_fold 82 = .ok (.ifCond .ne 9, 3) := dq_154 (dq_suf 2 dt39bcX11_fold_5 rfl rfl) (by decide +kernel)
theorem dX11_fold_85 : decode cX11_fold 85 = .ok (.iinc 4 1, 3) := dq_132 (dq_suf 5 dt39bcX11_fold_5 rfl rfl) rfl (by decide +kernel)
theorem dX11_fold_88 : decode cX11_fold 88 = .ok (.goto (-13), 3) := dq_167 (dq_suf 8 dt39bcX11_fold_5 rfl rfl) (by decide +kernel)
theorem dX11_fold_91 : decode cX11_fold 91 = .ok (.aload_n 0, 1) := dq_42 (dq_suf 11 dt39bcX11_fold_5 rfl rfl)
theorem dX11_fold_92 : decode cX11_fold 92 = .ok (.getfield 139, 3) := dq_180 (dq_suf 12 dt39bcX11_fold_5 rfl rfl) rfl
theorem dX11_fold_95 : decode cX11_fold 95 = .ok (.iload_n 3, 1) := dq_29 (dq_suf 15 dt39bcX11_fold_5 rfl rfl)
theorem dX11_fold_96 : decode cX11_fold 96 = .ok (.iload 4, 2) := dq_21 (dq_suf 0 dt39bcX11_fold_6 rfl rfl) rfl
theorem dX11_fold_98 : decode cX11_fold 98 = .ok (.iastore, 1) := dq_79 (dq_suf 2 dt39bcX11_fold_6 rfl rfl)
theorem dX11_fold_99 : decode cX11_fold 99 = .ok (.iinc 3 1, 3) := dq_132 (dq_suf 3 dt39bcX11_fold_6 rfl rfl) rfl (by decide +kernel)
theorem dX11_fold_102 : decode cX11_fold 102 = .ok (.goto (-35), 3) := dq_167 (dq_suf 6 dt39bcX11_fold_6 rfl rfl) (by decide +kernel)
theorem dX11_fold_105 : decode cX11_fold 105 = .ok (.iconst 0, 1) := dq_3 (dq_suf 9 dt39bcX11_fold_6 rfl rfl)
theorem dX11_fold_106 : decode cX11_fold 106 = .ok (.istore_n 3, 1) := dq_62 (dq_suf 10 dt39bcX11_fold_6 rfl rfl)
theorem dX11_fold_107 : decode cX11_fold 107 = .ok (.iload_n 3, 1) := dq_29 (dq_suf 11 dt39bcX11_fold_6 rfl rfl)
theorem dX11_fold_108 : decode cX11_fold 108 = .ok (.iload_n 1, 1) := dq_27 (dq_suf 12 dt39bcX11_fold_6 rfl rfl)
theorem dX11_fold_109 : decode cX11_fold 109 = .ok (.if_icmp .ge 46, 3) := dq_162 (dq_suf 13 dt39bcX11_fold_6 rfl rfl) (by decide +kernel)
theorem dX11_fold_112 : decode cX11_fold 112 = .ok (.iload_n 2, 1) := dq_28 (dq_suf 0 dt39bcX11_fold_7 rfl rfl)
theorem dX11_fold_113 : decode cX11_fold 113 = .ok (.ifCond .ne 18, 3) := dq_154 (dq_suf 1 dt39bcX11_fold_7 rfl rfl) (by decide +kernel)
theorem dX11_fold_116 : decode cX11_fold 116 = .ok (.aload_n 0, 1) := dq_42 (dq_suf 4 dt39bcX11_fold_7 rfl rfl)
theorem dX11_fold_117 : decode cX11_fold 117 = .ok (.getfield 139, 3) := dq_180 (dq_suf 5 dt39bcX11_fold_7 rfl rfl) rfl
theorem dX11_fold_120 : decode cX11_fold 120 = .ok (.iload_n 3, 1) := dq_29 (dq_suf 8 dt39bcX11_fold_7 rfl rfl)
theorem dX11_fold_121 : decode cX11_fold 121 = .ok (.iaload, 1) := dq_46 (dq_suf 9 dt39bcX11_fold_7 rfl rfl)
theorem dX11_fold_122 : decode cX11_fold 122 = .ok (.aload_n 0, 1) := dq_42 (dq_suf 10 dt39bcX11_fold_7 rfl rfl)
theorem dX11_fold_123 : decode cX11_fold 123 = .ok (.getfield 136, 3) := dq_180 (dq_suf 11 dt39bcX11_fold_7 rfl rfl) rfl
theorem dX11_fold_126 : decode cX11_fold 126 = .ok (.iload_n 3, 1) := dq_29 (dq_suf 14 dt39bcX11_fold_7 rfl rfl)
theorem dX11_fold_127 : decode cX11_fold 127 = .ok (.iaload, 1) := dq_46 (dq_suf 15 dt39bcX11_fold_7 rfl rfl)
theorem dX11_fold_128 : decode cX11_fold 128 = .ok (.if_icmp .eq 7, 3) := dq_159 (dq_suf 0 dt39bcX11_fold_8 rfl rfl) (by decide +kernel)
theorem dX11_fold_131 : decode cX11_fold 131 = .ok (.iconst 1, 1) := dq_4 (dq_suf 3 dt39bcX11_fold_8 rfl rfl)
theorem dX11_fold_132 : decode cX11_fold 132 = .ok (.goto 4, 3) := dq_167 (dq_suf 4 dt39bcX11_fold_8 rfl rfl) (by decide +kernel)
theorem dX11_fold_135 : decode cX11_fold 135 = .ok (.iconst 0, 1) := dq_3 (dq_suf 7 dt39bcX11_fold_8 rfl rfl)
theorem dX11_fold_136 : decode cX11_fold 136 = .ok (.istore_n 2, 1) := dq_61 (dq_suf 8 dt39bcX11_fold_8 rfl rfl)
theorem dX11_fold_137 : decode cX11_fold 137 = .ok (.aload_n 0, 1) := dq_42 (dq_suf 9 dt39bcX11_fold_8 rfl rfl)
theorem dX11_fold_138 : decode cX11_fold 138 = .ok (.getfield 136, 3) := dq_180 (dq_suf 10 dt39bcX11_fold_8 rfl rfl) rfl
theorem dX11_fold_141 : decode cX11_fold 141 = .ok (.iload_n 3, 1) := dq_29 (dq_suf 13 dt39bcX11_fold_8 rfl rfl)
theorem dX11_fold_142 : decode cX11_fold 142 = .ok (.aload_n 0, 1) := dq_42 (dq_suf 14 dt39bcX11_fold_8 rfl rfl)
theorem dX11_fold_143 : decode cX11_fold 143 = .ok (.getfield 139, 3) := dq_180 (dq_suf 15 dt39bcX11_fold_8 rfl rfl) rfl
theorem dX11_fold_146 : decode cX11_fold 146 = .ok (.iload_n 3, 1) := dq_29 (dq_suf 2 dt39bcX11_fold_9 rfl rfl)
theorem dX11_fold_147 : decode cX11_fold 147 = .ok (.iaload, 1) := dq_46 (dq_suf 3 dt39bcX11_fold_9 rfl rfl)
theorem dX11_fold_148 : decode cX11_fold 148 = .ok (.iastore, 1) := dq_79 (dq_suf 4 dt39bcX11_fold_9 rfl rfl)
theorem dX11_fold_149 : decode cX11_fold 149 = .ok (.iinc 3 1, 3) := dq_132 (dq_suf 5 dt39bcX11_fold_9 rfl rfl) rfl (by decide +kernel)
theorem dX11_fold_152 : decode cX11_fold 152 = .ok (.goto (-45), 3) := dq_167 (dq_suf 8 dt39bcX11_fold_9 rfl rfl) (by decide +kernel)
theorem dX11_fold_155 : decode cX11_fold 155 = .ok (.goto (-100), 3) := dq_167 (dq_suf 11 dt39bcX11_fold_9 rfl rfl) (by decide +kernel)
theorem dX11_fold_158 : decode cX11_fold 158 = .ok (.iconst 0, 1) := dq_3 (dq_suf 14 dt39bcX11_fold_9 rfl rfl)
theorem dX11_fold_159 : decode cX11_fold 159 = .ok (.istore_n 3, 1) := dq_62 (dq_suf 15 dt39bcX11_fold_9 rfl rfl)
theorem dX11_fold_160 : decode cX11_fold 160 = .ok (.iconst 0, 1) := dq_3 (dq_suf 0 dt39bcX11_fold_10 rfl rfl)
theorem dX11_fold_161 : decode cX11_fold 161 = .ok (.istore 4, 2) := dq_54 (dq_suf 1 dt39bcX11_fold_10 rfl rfl) rfl
theorem dX11_fold_163 : decode cX11_fold 163 = .ok (.iload 4, 2) := dq_21 (dq_suf 3 dt39bcX11_fold_10 rfl rfl) rfl
theorem dX11_fold_165 : decode cX11_fold 165 = .ok (.iload_n 1, 1) := dq_27 (dq_suf 5 dt39bcX11_fold_10 rfl rfl)
theorem dX11_fold_166 : decode cX11_fold 166 = .ok (.if_icmp .ge 32, 3) := dq_162 (dq_suf 6 dt39bcX11_fold_10 rfl rfl) (by decide +kernel)
theorem dX11_fold_169 : decode cX11_fold 169 = .ok (.aload_n 0, 1) := dq_42 (dq_suf 9 dt39bcX11_fold_10 rfl rfl)
theorem dX11_fold_170 : decode cX11_fold 170 = .ok (.getfield 136, 3) := dq_180 (dq_suf 10 dt39bcX11_fold_10 rfl rfl) rfl
theorem dX11_fold_173 : decode cX11_fold 173 = .ok (.iload 4, 2) := dq_21 (dq_suf 13 dt39bcX11_fold_10 rfl rfl) rfl
theorem dX11_fold_175 : decode cX11_fold 175 = .ok (.iaload, 1) := dq_46 (dq_suf 15 dt39bcX11_fold_10 rfl rfl)
theorem dX11_fold_176 : decode cX11_fold 176 = .ok (.iload 4, 2) := dq_21 (dq_suf 0 dt39bcX11_fold_11 rfl rfl) rfl
theorem dX11_fold_178 : decode cX11_fold 178 = .ok (.if_icmp .ne 14, 3) := dq_160 (dq_suf 2 dt39bcX11_fold_11 rfl rfl) (by decide +kernel)
theorem dX11_fold_181 : decode cX11_fold 181 = .ok (.aload_n 0, 1) := dq_42 (dq_suf 5 dt39bcX11_fold_11 rfl rfl)
theorem dX11_fold_182 : decode cX11_fold 182 = .ok (.getfield 145, 3) := dq_180 (dq_suf 6 dt39bcX11_fold_11 rfl rfl) rfl
theorem dX11_fold_185 : decode cX11_fold 185 = .ok (.iload_n 3, 1) := dq_29 (dq_suf 9 dt39bcX11_fold_11 rfl rfl)
theorem dX11_fold_186 : decode cX11_fold 186 = .ok (.iload 4, 2) := dq_21 (dq_suf 10 dt39bcX11_fold_11 rfl rfl) rfl
theorem dX11_fold_188 : decode cX11_fold 188 = .ok (.iastore, 1) := dq_79 (dq_suf 12 dt39bcX11_fold_11 rfl rfl)
theorem dX11_fold_189 : decode cX11_fold 189 = .ok (.iinc 3 1, 3) := dq_132 (dq_suf 13 dt39bcX11_fold_11 rfl rfl) rfl (by decide +kernel)
theorem dX11_fold_192 : decode cX11_fold 192 = .ok (.iinc 4 1, 3) := dq_132 (dq_suf 0 dt39bcX11_fold_12 rfl rfl) rfl (by decide +kernel)
theorem dX11_fold_195 : decode cX11_fold 195 = .ok (.goto (-32), 3) := dq_167 (dq_suf 3 dt39bcX11_fold_12 rfl rfl) (by decide +kernel)
theorem dX11_fold_198 : decode cX11_fold 198 = .ok (.iconst 0, 1) := dq_3 (dq_suf 6 dt39bcX11_fold_12 rfl rfl)
theorem dX11_fold_199 : decode cX11_fold 199 = .ok (.istore 4, 2) := dq_54 (dq_suf 7 dt39bcX11_fold_12 rfl rfl) rfl
theorem dX11_fold_201 : decode cX11_fold 201 = .ok (.iload 4, 2) := dq_21 (dq_suf 9 dt39bcX11_fold_12 rfl rfl) rfl
theorem dX11_fold_203 : decode cX11_fold 203 = .ok (.iload_n 3, 1) := dq_29 (dq_suf 11 dt39bcX11_fold_12 rfl rfl)
theorem dX11_fold_204 : decode cX11_fold 204 = .ok (.if_icmp .ge 120, 3) := dq_162 (dq_suf 12 dt39bcX11_fold_12 rfl rfl) (by decide +kernel)
theorem dX11_fold_207 : decode cX11_fold 207 = .ok (.iconst 0, 1) := dq_3 (dq_suf 15 dt39bcX11_fold_12 rfl rfl)
theorem dX11_fold_208 : decode cX11_fold 208 = .ok (.istore 5, 2) := dq_54 (dq_suf 0 dt39bcX11_fold_13 rfl rfl) rfl
theorem dX11_fold_210 : decode cX11_fold 210 = .ok (.iload 5, 2) := dq_21 (dq_suf 2 dt39bcX11_fold_13 rfl rfl) rfl
theorem dX11_fold_212 : decode cX11_fold 212 = .ok (.iload_n 3, 1) := dq_29 (dq_suf 4 dt39bcX11_fold_13 rfl rfl)
theorem dX11_fold_213 : decode cX11_fold 213 = .ok (.if_icmp .ge 105, 3) := dq_162 (dq_suf 5 dt39bcX11_fold_13 rfl rfl) (by decide +kernel)
theorem dX11_fold_216 : decode cX11_fold 216 = .ok (.aload_n 0, 1) := dq_42 (dq_suf 8 dt39bcX11_fold_13 rfl rfl)
theorem dX11_fold_217 : decode cX11_fold 217 = .ok (.getfield 148, 3) := dq_180 (dq_suf 9 dt39bcX11_fold_13 rfl rfl) rfl
theorem dX11_fold_220 : decode cX11_fold 220 = .ok (.bipush 60, 2) := dq_16 (dq_suf 12 dt39bcX11_fold_13 rfl rfl) (by decide +kernel)
theorem dX11_fold_222 : decode cX11_fold 222 = .ok (.iload 4, 2) := dq_21 (dq_suf 14 dt39bcX11_fold_13 rfl rfl) rfl
theorem dX11_fold_224 : decode cX11_fold 224 = .ok (.imul, 1) := dq_104 (dq_suf 0 dt39bcX11_fold_14 rfl rfl)
theorem dX11_fold_225 : decode cX11_fold 225 = .ok (.iload 5, 2) := dq_21 (dq_suf 1 dt39bcX11_fold_14 rfl rfl) rfl
theorem dX11_fold_227 : decode cX11_fold 227 = .ok (.iadd, 1) := dq_96 (dq_suf 3 dt39bcX11_fold_14 rfl rfl)
theorem dX11_fold_228 : decode cX11_fold 228 = .ok (.iconst 0, 1) := dq_3 (dq_suf 4 dt39bcX11_fold_14 rfl rfl)
theorem dX11_fold_229 : decode cX11_fold 229 = .ok (.bastore, 1) := dq_84 (dq_suf 5 dt39bcX11_fold_14 rfl rfl)
theorem dX11_fold_230 : decode cX11_fold 230 = .ok (.iconst 0, 1) := dq_3 (dq_suf 6 dt39bcX11_fold_14 rfl rfl)
theorem dX11_fold_231 : decode cX11_fold 231 = .ok (.istore 6, 2) := dq_54 (dq_suf 7 dt39bcX11_fold_14 rfl rfl) rfl
theorem dX11_fold_233 : decode cX11_fold 233 = .ok (.iload 6, 2) := dq_21 (dq_suf 9 dt39bcX11_fold_14 rfl rfl) rfl
theorem dX11_fold_235 : decode cX11_fold 235 = .ok (.iload_n 1, 1) := dq_27 (dq_suf 11 dt39bcX11_fold_14 rfl rfl)
theorem dX11_fold_236 : decode cX11_fold 236 = .ok (.if_icmp .ge 76, 3) := dq_162 (dq_suf 12 dt39bcX11_fold_14 rfl rfl) (by decide +kernel)
theorem dX11_fold_239 : decode cX11_fold 239 = .ok (.aload_n 0, 1) := dq_42 (dq_suf 15 dt39bcX11_fold_14 rfl rfl)
theorem dX11_fold_240 : decode cX11_fold 240 = .ok (.getfield 148, 3) := dq_180 (dq_suf 0 dt39bcX11_fold_15 rfl rfl) rfl
theorem dX11_fold_243 : decode cX11_fold 243 = .ok (.bipush 60, 2) := dq_16 (dq_suf 3 dt39bcX11_fold_15 rfl rfl) (by decide +kernel)
theorem dX11_fold_245 : decode cX11_fold 245 = .ok (.iload 4, 2) := dq_21 (dq_suf 5 dt39bcX11_fold_15 rfl rfl) rfl
theorem dX11_fold_247 : decode cX11_fold 247 = .ok (.imul, 1) := dq_104 (dq_suf 7 dt39bcX11_fold_15 rfl rfl)
theorem dX11_fold_248 : decode cX11_fold 248 = .ok (.iload 5, 2) := dq_21 (dq_suf 8 dt39bcX11_fold_15 rfl rfl) rfl
theorem dX11_fold_250 : decode cX11_fold 250 = .ok (.iadd, 1) := dq_96 (dq_suf 10 dt39bcX11_fold_15 rfl rfl)
theorem dX11_fold_251 : decode cX11_fold 251 = .ok (.aload_n 0, 1) := dq_42 (dq_suf 11 dt39bcX11_fold_15 rfl rfl)
theorem dX11_fold_252 : decode cX11_fold 252 = .ok (.getfield 148, 3) := dq_180 (dq_suf 12 dt39bcX11_fold_15 rfl rfl) rfl
theorem dX11_fold_255 : decode cX11_fold 255 = .ok (.bipush 60, 2) := dq_16 (dq_suf 15 dt39bcX11_fold_15 rfl rfl) (by decide +kernel)
theorem dX11_fold_257 : decode cX11_fold 257 = .ok (.iload 4, 2) := dq_21 (dq_suf 1 dt39bcX11_fold_16 rfl rfl) rfl
theorem dX11_fold_259 : decode cX11_fold 259 = .ok (.imul, 1) := dq_104 (dq_suf 3 dt39bcX11_fold_16 rfl rfl)
theorem dX11_fold_260 : decode cX11_fold 260 = .ok (.iload 5, 2) := dq_21 (dq_suf 4 dt39bcX11_fold_16 rfl rfl) rfl
theorem dX11_fold_262 : decode cX11_fold 262 = .ok (.iadd, 1) := dq_96 (dq_suf 6 dt39bcX11_fold_16 rfl rfl)
theorem dX11_fold_263 : decode cX11_fold 263 = .ok (.baload, 1) := dq_51 (dq_suf 7 dt39bcX11_fold_16 rfl rfl)
theorem dX11_fold_264 : decode cX11_fold 264 = .ok (.ifCond .ne 36, 3) := dq_154 (dq_suf 8 dt39bcX11_fold_16 rfl rfl) (by decide +kernel)
theorem dX11_fold_267 : decode cX11_fold 267 = .ok (.aload_n 0, 1) := dq_42 (dq_suf 11 dt39bcX11_fold_16 rfl rfl)
theorem dX11_fold_268 : decode cX11_fold 268 = .ok (.getfield 136, 3) := dq_180 (dq_suf 12 dt39bcX11_fold_16 rfl rfl) rfl
theorem dX11_fold_271 : decode cX11_fold 271 = .ok (.iload 6, 2) := dq_21 (dq_suf 15 dt39bcX11_fold_16 rfl rfl) rfl
theorem dX11_fold_273 : decode cX11_fold 273 = .ok (.iaload, 1) := dq_46 (dq_suf 1 dt39bcX11_fold_17 rfl rfl)
theorem dX11_fold_274 : decode cX11_fold 274 = .ok (.aload_n 0, 1) := dq_42 (dq_suf 2 dt39bcX11_fold_17 rfl rfl)
theorem dX11_fold_275 : decode cX11_fold 275 = .ok (.getfield 145, 3) := dq_180 (dq_suf 3 dt39bcX11_fold_17 rfl rfl) rfl
theorem dX11_fold_278 : decode cX11_fold 278 = .ok (.iload 4, 2) := dq_21 (dq_suf 6 dt39bcX11_fold_17 rfl rfl) rfl
theorem dX11_fold_280 : decode cX11_fold 280 = .ok (.iaload, 1) := dq_46 (dq_suf 8 dt39bcX11_fold_17 rfl rfl)
theorem dX11_fold_281 : decode cX11_fold 281 = .ok (.if_icmp .ne 23, 3) := dq_160 (dq_suf 9 dt39bcX11_fold_17 rfl rfl) (by decide +kernel)
theorem dX11_fold_284 : decode cX11_fold 284 = .ok (.aload_n 0, 1) := dq_42 (dq_suf 12 dt39bcX11_fold_17 rfl rfl)
theorem dX11_fold_285 : decode cX11_fold 285 = .ok (.iload 6, 2) := dq_21 (dq_suf 13 dt39bcX11_fold_17 rfl rfl) rfl
theorem dX11_fold_287 : decode cX11_fold 287 = .ok (.aload_n 0, 1) := dq_42 (dq_suf 15 dt39bcX11_fold_17 rfl rfl)
theorem dX11_fold_288 : decode cX11_fold 288 = .ok (.getfield 145, 3) := dq_180 (dq_suf 0 dt39bcX11_fold_18 rfl rfl) rfl
theorem dX11_fold_291 : decode cX11_fold 291 = .ok (.iload 5, 2) := dq_21 (dq_suf 3 dt39bcX11_fold_18 rfl rfl) rfl
theorem dX11_fold_293 : decode cX11_fold 293 = .ok (.iaload, 1) := dq_46 (dq_suf 5 dt39bcX11_fold_18 rfl rfl)
theorem dX11_fold_294 : decode cX11_fold 294 = .ok (.invokevirtual 393, 3) := dq_182 (dq_suf 6 dt39bcX11_fold_18 rfl rfl) rfl
theorem dX11_fold_297 : decode cX11_fold 297 = .ok (.ifCond .eq 7, 3) := dq_153 (dq_suf 9 dt39bcX11_fold_18 rfl rfl) (by decide +kernel)
theorem dX11_fold_300 : decode cX11_fold 300 = .ok (.iconst 1, 1) := dq_4 (dq_suf 12 dt39bcX11_fold_18 rfl rfl)
theorem dX11_fold_301 : decode cX11_fold 301 = .ok (.goto 4, 3) := dq_167 (dq_suf 13 dt39bcX11_fold_18 rfl rfl) (by decide +kernel)
theorem dX11_fold_304 : decode cX11_fold 304 = .ok (.iconst 0, 1) := dq_3 (dq_suf 0 dt39bcX11_fold_19 rfl rfl)
theorem dX11_fold_305 : decode cX11_fold 305 = .ok (.bastore, 1) := dq_84 (dq_suf 1 dt39bcX11_fold_19 rfl rfl)
theorem dX11_fold_306 : decode cX11_fold 306 = .ok (.iinc 6 1, 3) := dq_132 (dq_suf 2 dt39bcX11_fold_19 rfl rfl) rfl (by decide +kernel)
theorem dX11_fold_309 : decode cX11_fold 309 = .ok (.goto (-76), 3) := dq_167 (dq_suf 5 dt39bcX11_fold_19 rfl rfl) (by decide +kernel)
theorem dX11_fold_312 : decode cX11_fold 312 = .ok (.iinc 5 1, 3) := dq_132 (dq_suf 8 dt39bcX11_fold_19 rfl rfl) rfl (by decide +kernel)
theorem dX11_fold_315 : decode cX11_fold 315 = .ok (.goto (-105), 3) := dq_167 (dq_suf 11 dt39bcX11_fold_19 rfl rfl) (by decide +kernel)
theorem dX11_fold_318 : decode cX11_fold 318 = .ok (.iinc 4 1, 3) := dq_132 (dq_suf 14 dt39bcX11_fold_19 rfl rfl) rfl (by decide +kernel)
theorem dX11_fold_321 : decode cX11_fold 321 = .ok (.goto (-120), 3) := dq_167 (dq_suf 1 dt39bcX11_fold_20 rfl rfl) (by decide +kernel)
theorem dX11_fold_324 : decode cX11_fold 324 = .ok (.aload_n 0, 1) := dq_42 (dq_suf 4 dt39bcX11_fold_20 rfl rfl)
theorem dX11_fold_325 : decode cX11_fold 325 = .ok (.iload_n 3, 1) := dq_29 (dq_suf 5 dt39bcX11_fold_20 rfl rfl)
theorem dX11_fold_326 : decode cX11_fold 326 = .ok (.invokevirtual 402, 3) := dq_182 (dq_suf 6 dt39bcX11_fold_20 rfl rfl) rfl
theorem dX11_fold_329 : decode cX11_fold 329 = .ok (.iload_n 3, 1) := dq_29 (dq_suf 9 dt39bcX11_fold_20 rfl rfl)
theorem dX11_fold_330 : decode cX11_fold 330 = .ok (.ireturn, 1) := dq_172 (dq_suf 10 dt39bcX11_fold_20 rfl rfl)
noncomputable def ds39bcX11_settle_6 : List UInt8 := 194 :: 42 :: 27 :: 181 :: 1 :: 119 :: 177 :: []
noncomputable def ds39bcX11_settle_5 : List UInt8 := 104 :: 29 :: 96 :: 51 :: 84 :: 132 :: 3 :: 1 :: 167 :: 255 :: 226 :: 132 :: 2 :: 1 :: 167 :: 255 :: ds39bcX11_settle_6
noncomputable def ds39bcX11_settle_4 : List UInt8 := 180 :: 0 :: 124 :: 16 :: 60 :: 28 :: 104 :: 29 :: 96 :: 42 :: 180 :: 0 :: 148 :: 16 :: 60 :: 28 :: ds39bcX11_settle_5
noncomputable def ds39bcX11_settle_3 : List UInt8 := 79 :: 42 :: 180 :: 0 :: 127 :: 28 :: 2 :: 79 :: 3 :: 62 :: 29 :: 27 :: 162 :: 0 :: 31 :: 42 :: ds39bcX11_settle_4
noncomputable def ds39bcX11_settle_2 : List UInt8 := 28 :: 27 :: 162 :: 0 :: 63 :: 42 :: 180 :: 0 :: 121 :: 28 :: 42 :: 180 :: 0 :: 139 :: 28 :: 46 :: ds39bcX11_settle_3
noncomputable def ds39bcX11_settle_1 : List UInt8 := 42 :: 180 :: 0 :: 145 :: 28 :: 46 :: 46 :: 79 :: 132 :: 2 :: 1 :: 167 :: 255 :: 231 :: 3 :: 61 :: ds39bcX11_settle_2
noncomputable def ds39bcX11_settle_0 : List UInt8 := 3 :: 61 :: 28 :: 27 :: 162 :: 0 :: 26 :: 42 :: 180 :: 0 :: 139 :: 28 :: 42 :: 180 :: 0 :: 121 :: ds39bcX11_settle_1
theorem dt39bcX11_settle_0 : cX11_settle.data.toList.drop 0 = ds39bcX11_settle_0 := by decide +kernel
theorem dt39bcX11_settle_1 : cX11_settle.data.toList.drop 16 = ds39bcX11_settle_1 := dq_suf 16 dt39bcX11_settle_0 rfl rfl
theorem dt39bcX11_settle_2 : cX11_settle.data.toList.drop 32 = ds39bcX11_settle_2 := dq_suf 16 dt39bcX11_settle_1 rfl rfl
theorem dt39bcX11_settle_3 : cX11_settle.data.toList.drop 48 = ds39bcX11_settle_3 := dq_suf 16 dt39bcX11_settle_2 rfl rfl
theorem dt39bcX11_settle_4 : cX11_settle.data.toList.drop 64 = ds39bcX11_settle_4 := dq_suf 16 dt39bcX11_settle_3 rfl rfl
theorem dt39bcX11_settle_5 : cX11_settle.data.toList.drop 80 = ds39bcX11_settle_5 := dq_suf 16 dt39bcX11_settle_4 rfl rfl
theorem dt39bcX11_settle_6 : cX11_settle.data.toList.drop 96 = ds39bcX11_settle_6 := dq_suf 16 dt39bcX11_settle_5 rfl rfl
theorem dX11_settle_0 : decode cX11_settle 0 = .ok (.iconst 0, 1) := dq_3 (dq_suf 0 dt39bcX11_settle_0 rfl rfl)
theorem dX11_settle_1 : decode cX11_settle 1 = .ok (.istore_n 2, 1) := dq_61 (dq_suf 1 dt39bcX11_settle_0 rfl rfl)
theorem dX11_settle_2 : decode cX11_settle 2 = .ok (.iload_n 2, 1) := dq_28 (dq_suf 2 dt39bcX11_settle_0 rfl rfl)
theorem dX11_settle_3 : decode cX11_settle 3 = .ok (.iload_n 1, 1) := dq_27 (dq_suf 3 dt39bcX11_settle_0 rfl rfl)
theorem dX11_settle_4 : decode cX11_settle 4 = .ok (.if_icmp .ge 26, 3) := dq_162 (dq_suf 4 dt39bcX11_settle_0 rfl rfl) (by decide +kernel)
theorem dX11_settle_7 : decode cX11_settle 7 = .ok (.aload_n 0, 1) := dq_42 (dq_suf 7 dt39bcX11_settle_0 rfl rfl)
theorem dX11_settle_8 : decode cX11_settle 8 = .ok (.getfield 139, 3) := dq_180 (dq_suf 8 dt39bcX11_settle_0 rfl rfl) rfl
theorem dX11_settle_11 : decode cX11_settle 11 = .ok (.iload_n 2, 1) := dq_28 (dq_suf 11 dt39bcX11_settle_0 rfl rfl)
theorem dX11_settle_12 : decode cX11_settle 12 = .ok (.aload_n 0, 1) := dq_42 (dq_suf 12 dt39bcX11_settle_0 rfl rfl)
theorem dX11_settle_13 : decode cX11_settle 13 = .ok (.getfield 121, 3) := dq_180 (dq_suf 13 dt39bcX11_settle_0 rfl rfl) rfl
theorem dX11_settle_16 : decode cX11_settle 16 = .ok (.aload_n 0, 1) := dq_42 (dq_suf 0 dt39bcX11_settle_1 rfl rfl)
theorem dX11_settle_17 : decode cX11_settle 17 = .ok (.getfield 145, 3) := dq_180 (dq_suf 1 dt39bcX11_settle_1 rfl rfl) rfl
theorem dX11_settle_20 : decode cX11_settle 20 = .ok (.iload_n 2, 1) := dq_28 (dq_suf 4 dt39bcX11_settle_1 rfl rfl)
theorem dX11_settle_21 : decode cX11_settle 21 = .ok (.iaload, 1) := dq_46 (dq_suf 5 dt39bcX11_settle_1 rfl rfl)
theorem dX11_settle_22 : decode cX11_settle 22 = .ok (.iaload, 1) := dq_46 (dq_suf 6 dt39bcX11_settle_1 rfl rfl)
theorem dX11_settle_23 : decode cX11_settle 23 = .ok (.iastore, 1) := dq_79 (dq_suf 7 dt39bcX11_settle_1 rfl rfl)
theorem dX11_settle_24 : decode cX11_settle 24 = .ok (.iinc 2 1, 3) := dq_132 (dq_suf 8 dt39bcX11_settle_1 rfl rfl) rfl (by decide +kernel)
theorem dX11_settle_27 : decode cX11_settle 27 = .ok (.goto (-25), 3) := dq_167 (dq_suf 11 dt39bcX11_settle_1 rfl rfl) (by decide +kernel)
theorem dX11_settle_30 : decode cX11_settle 30 = .ok (.iconst 0, 1) := dq_3 (dq_suf 14 dt39bcX11_settle_1 rfl rfl)
theorem dX11_settle_31 : decode cX11_settle 31 = .ok (.istore_n 2, 1) := dq_61 (dq_suf 15 dt39bcX11_settle_1 rfl rfl)
theorem dX11_settle_32 : decode cX11_settle 32 = .ok (.iload_n 2, 1) := dq_28 (dq_suf 0 dt39bcX11_settle_2 rfl rfl)
theorem dX11_settle_33 : decode cX11_settle 33 = .ok (.iload_n 1, 1) := dq_27 (dq_suf 1 dt39bcX11_settle_2 rfl rfl)
theorem dX11_settle_34 : decode cX11_settle 34 = .ok (.if_icmp .ge 63, 3) := dq_162 (dq_suf 2 dt39bcX11_settle_2 rfl rfl) (by decide +kernel)
theorem dX11_settle_37 : decode cX11_settle 37 = .ok (.aload_n 0, 1) := dq_42 (dq_suf 5 dt39bcX11_settle_2 rfl rfl)
theorem dX11_settle_38 : decode cX11_settle 38 = .ok (.getfield 121, 3) := dq_180 (dq_suf 6 dt39bcX11_settle_2 rfl rfl) rfl
theorem dX11_settle_41 : decode cX11_settle 41 = .ok (.iload_n 2, 1) := dq_28 (dq_suf 9 dt39bcX11_settle_2 rfl rfl)
theorem dX11_settle_42 : decode cX11_settle 42 = .ok (.aload_n 0, 1) := dq_42 (dq_suf 10 dt39bcX11_settle_2 rfl rfl)
theorem dX11_settle_43 : decode cX11_settle 43 = .ok (.getfield 139, 3) := dq_180 (dq_suf 11 dt39bcX11_settle_2 rfl rfl) rfl
theorem dX11_settle_46 : decode cX11_settle 46 = .ok (.iload_n 2, 1) := dq_28 (dq_suf 14 dt39bcX11_settle_2 rfl rfl)
theorem dX11_settle_47 : decode cX11_settle 47 = .ok (.iaload, 1) := dq_46 (dq_suf 15 dt39bcX11_settle_2 rfl rfl)
theorem dX11_settle_48 : decode cX11_settle 48 = .ok (.iastore, 1) := dq_79 (dq_suf 0 dt39bcX11_settle_3 rfl rfl)
theorem dX11_settle_49 : decode cX11_settle 49 = .ok (.aload_n 0, 1) := dq_42 (dq_suf 1 dt39bcX11_settle_3 rfl rfl)
theorem dX11_settle_50 : decode cX11_settle 50 = .ok (.getfield 127, 3) := dq_180 (dq_suf 2 dt39bcX11_settle_3 rfl rfl) rfl
theorem dX11_settle_53 : decode cX11_settle 53 = .ok (.iload_n 2, 1) := dq_28 (dq_suf 5 dt39bcX11_settle_3 rfl rfl)
theorem dX11_settle_54 : decode cX11_settle 54 = .ok (.iconst (-1), 1) := dq_2 (dq_suf 6 dt39bcX11_settle_3 rfl rfl)
theorem dX11_settle_55 : decode cX11_settle 55 = .ok (.iastore, 1) := dq_79 (dq_suf 7 dt39bcX11_settle_3 rfl rfl)
theorem dX11_settle_56 : decode cX11_settle 56 = .ok (.iconst 0, 1) := dq_3 (dq_suf 8 dt39bcX11_settle_3 rfl rfl)
theorem dX11_settle_57 : decode cX11_settle 57 = .ok (.istore_n 3, 1) := dq_62 (dq_suf 9 dt39bcX11_settle_3 rfl rfl)
theorem dX11_settle_58 : decode cX11_settle 58 = .ok (.iload_n 3, 1) := dq_29 (dq_suf 10 dt39bcX11_settle_3 rfl rfl)
theorem dX11_settle_59 : decode cX11_settle 59 = .ok (.iload_n 1, 1) := dq_27 (dq_suf 11 dt39bcX11_settle_3 rfl rfl)
theorem dX11_settle_60 : decode cX11_settle 60 = .ok (.if_icmp .ge 31, 3) := dq_162 (dq_suf 12 dt39bcX11_settle_3 rfl rfl) (by decide +kernel)
theorem dX11_settle_63 : decode cX11_settle 63 = .ok (.aload_n 0, 1) := dq_42 (dq_suf 15 dt39bcX11_settle_3 rfl rfl)
theorem dX11_settle_64 : decode cX11_settle 64 = .ok (.getfield 124, 3) := dq_180 (dq_suf 0 dt39bcX11_settle_4 rfl rfl) rfl
theorem dX11_settle_67 : decode cX11_settle 67 = .ok (.bipush 60, 2) := dq_16 (dq_suf 3 dt39bcX11_settle_4 rfl rfl) (by decide +kernel)
theorem dX11_settle_69 : decode cX11_settle 69 = .ok (.iload_n 2, 1) := dq_28 (dq_suf 5 dt39bcX11_settle_4 rfl rfl)
theorem dX11_settle_70 : decode cX11_settle 70 = .ok (.imul, 1) := dq_104 (dq_suf 6 dt39bcX11_settle_4 rfl rfl)
theorem dX11_settle_71 : decode cX11_settle 71 = .ok (.iload_n 3, 1) := dq_29 (dq_suf 7 dt39bcX11_settle_4 rfl rfl)
theorem dX11_settle_72 : decode cX11_settle 72 = .ok (.iadd, 1) := dq_96 (dq_suf 8 dt39bcX11_settle_4 rfl rfl)
theorem dX11_settle_73 : decode cX11_settle 73 = .ok (.aload_n 0, 1) := dq_42 (dq_suf 9 dt39bcX11_settle_4 rfl rfl)
theorem dX11_settle_74 : decode cX11_settle 74 = .ok (.getfield 148, 3) := dq_180 (dq_suf 10 dt39bcX11_settle_4 rfl rfl) rfl
theorem dX11_settle_77 : decode cX11_settle 77 = .ok (.bipush 60, 2) := dq_16 (dq_suf 13 dt39bcX11_settle_4 rfl rfl) (by decide +kernel)
theorem dX11_settle_79 : decode cX11_settle 79 = .ok (.iload_n 2, 1) := dq_28 (dq_suf 15 dt39bcX11_settle_4 rfl rfl)
theorem dX11_settle_80 : decode cX11_settle 80 = .ok (.imul, 1) := dq_104 (dq_suf 0 dt39bcX11_settle_5 rfl rfl)
theorem dX11_settle_81 : decode cX11_settle 81 = .ok (.iload_n 3, 1) := dq_29 (dq_suf 1 dt39bcX11_settle_5 rfl rfl)
theorem dX11_settle_82 : decode cX11_settle 82 = .ok (.iadd, 1) := dq_96 (dq_suf 2 dt39bcX11_settle_5 rfl rfl)
theorem dX11_settle_83 : decode cX11_settle 83 = .ok (.baload, 1) := dq_51 (dq_suf 3 dt39bcX11_settle_5 rfl rfl)
theorem dX11_settle_84 : decode cX11_settle 84 = .ok (.bastore, 1) := dq_84 (dq_suf 4 dt39bcX11_settle_5 rfl rfl)
theorem dX11_settle_85 : decode cX11_settle 85 = .ok (.iinc 3 1, 3) := dq_132 (dq_suf 5 dt39bcX11_settle_5 rfl rfl) rfl (by decide +kernel)
theorem dX11_settle_88 : decode cX11_settle 88 = .ok (.goto (-30), 3) := dq_167 (dq_suf 8 dt39bcX11_settle_5 rfl rfl) (by decide +kernel)
theorem dX11_settle_91 : decode cX11_settle 91 = .ok (.iinc 2 1, 3) := dq_132 (dq_suf 11 dt39bcX11_settle_5 rfl rfl) rfl (by decide +kernel)
theorem dX11_settle_94 : decode cX11_settle 94 = .ok (.goto (-62), 3) := dq_167 (dq_suf 14 dt39bcX11_settle_5 rfl rfl) (by decide +kernel)
theorem dX11_settle_97 : decode cX11_settle 97 = .ok (.aload_n 0, 1) := dq_42 (dq_suf 1 dt39bcX11_settle_6 rfl rfl)
theorem dX11_settle_98 : decode cX11_settle 98 = .ok (.iload_n 1, 1) := dq_27 (dq_suf 2 dt39bcX11_settle_6 rfl rfl)
theorem dX11_settle_99 : decode cX11_settle 99 = .ok (.putfield 375, 3) := dq_181 (dq_suf 3 dt39bcX11_settle_6 rfl rfl) rfl
theorem dX11_settle_102 : decode cX11_settle 102 = .ok (.return_, 1) := dq_177 (dq_suf 6 dt39bcX11_settle_6 rfl rfl)
noncomputable def ds39bcX11_cut_8 : List UInt8 := 182 :: 1 :: 146 :: 28 :: 172 :: []
noncomputable def ds39bcX11_cut_7 : List UInt8 := 51 :: 84 :: 132 :: 4 :: 1 :: 167 :: 255 :: 213 :: 132 :: 3 :: 1 :: 167 :: 255 :: 199 :: 42 :: 28 :: ds39bcX11_cut_8
noncomputable def ds39bcX11_cut_6 : List UInt8 := 60 :: 42 :: 180 :: 0 :: 145 :: 29 :: 46 :: 104 :: 42 :: 180 :: 0 :: 145 :: 21 :: 4 :: 46 :: 96 :: ds39bcX11_cut_7
noncomputable def ds39bcX11_cut_5 : List UInt8 := 42 :: 180 :: 0 :: 148 :: 16 :: 60 :: 29 :: 104 :: 21 :: 4 :: 96 :: 42 :: 180 :: 0 :: 124 :: 16 :: ds39bcX11_cut_6
noncomputable def ds39bcX11_cut_4 : List UInt8 := 3 :: 62 :: 29 :: 28 :: 162 :: 0 :: 58 :: 3 :: 54 :: 4 :: 21 :: 4 :: 28 :: 162 :: 0 :: 43 :: ds39bcX11_cut_5
noncomputable def ds39bcX11_cut_3 : List UInt8 := 42 :: 180 :: 0 :: 145 :: 28 :: 29 :: 79 :: 132 :: 2 :: 1 :: 132 :: 3 :: 1 :: 167 :: 255 :: 216 :: ds39bcX11_cut_4
noncomputable def ds39bcX11_cut_2 : List UInt8 := 0 :: 27 :: 42 :: 180 :: 0 :: 124 :: 16 :: 60 :: 27 :: 104 :: 29 :: 96 :: 51 :: 153 :: 0 :: 13 :: ds39bcX11_cut_3
noncomputable def ds39bcX11_cut_1 : List UInt8 := 79 :: 4 :: 61 :: 3 :: 62 :: 29 :: 42 :: 180 :: 1 :: 119 :: 162 :: 0 :: 38 :: 29 :: 27 :: 159 :: ds39bcX11_cut_2
noncomputable def ds39bcX11_cut_0 : List UInt8 := 42 :: 27 :: 182 :: 1 :: 128 :: 154 :: 0 :: 5 :: 3 :: 172 :: 42 :: 180 :: 0 :: 145 :: 3 :: 27 :: ds39bcX11_cut_1
theorem dt39bcX11_cut_0 : cX11_cut.data.toList.drop 0 = ds39bcX11_cut_0 := by decide +kernel
theorem dt39bcX11_cut_1 : cX11_cut.data.toList.drop 16 = ds39bcX11_cut_1 := dq_suf 16 dt39bcX11_cut_0 rfl rfl
theorem dt39bcX11_cut_2 : cX11_cut.data.toList.drop 32 = ds39bcX11_cut_2 := dq_suf 16 dt39bcX11_cut_1 rfl rfl
theorem dt39bcX11_cut_3 : cX11_cut.data.toList.drop 48 = ds39bcX11_cut_3 := dq_suf 16 dt39bcX11_cut_2 rfl rfl
theorem dt39bcX11_cut_4 : cX11_cut.data.toList.drop 64 = ds39bcX11_cut_4 := dq_suf 16 dt39bcX11_cut_3 rfl rfl
theorem dt39bcX11_cut_5 : cX11_cut.data.toList.drop 80 = ds39bcX11_cut_5 := dq_suf 16 dt39bcX11_cut_4 rfl rfl
theorem dt39bcX11_cut_6 : cX11_cut.data.toList.drop 96 = ds39bcX11_cut_6 := dq_suf 16 dt39bcX11_cut_5 rfl rfl
theorem dt39bcX11_cut_7 : cX11_cut.data.toList.drop 112 = ds39bcX11_cut_7 := dq_suf 16 dt39bcX11_cut_6 rfl rfl
theorem dt39bcX11_cut_8 : cX11_cut.data.toList.drop 128 = ds39bcX11_cut_8 := dq_suf 16 dt39bcX11_cut_7 rfl rfl
theorem dX11_cut_0 : decode cX11_cut 0 = .ok (.aload_n 0, 1) := dq_42 (dq_suf 0 dt39bcX11_cut_0 rfl rfl)
theorem dX11_cut_1 : decode cX11_cut 1 = .ok (.iload_n 1, 1) := dq_27 (dq_suf 1 dt39bcX11_cut_0 rfl rfl)
theorem dX11_cut_2 : decode cX11_cut 2 = .ok (.invokevirtual 384, 3) := dq_182 (dq_suf 2 dt39bcX11_cut_0 rfl rfl) rfl
theorem dX11_cut_5 : decode cX11_cut 5 = .ok (.ifCond .ne 5, 3) := dq_154 (dq_suf 5 dt39bcX11_cut_0 rfl rfl) (by decide +kernel)
theorem dX11_cut_8 : decode cX11_cut 8 = .ok (.iconst 0, 1) := dq_3 (dq_suf 8 dt39bcX11_cut_0 rfl rfl)
theorem dX11_cut_9 : decode cX11_cut 9 = .ok (.ireturn, 1) := dq_172 (dq_suf 9 dt39bcX11_cut_0 rfl rfl)
theorem dX11_cut_10 : decode cX11_cut 10 = .ok (.aload_n 0, 1) := dq_42 (dq_suf 10 dt39bcX11_cut_0 rfl rfl)
theorem dX11_cut_11 : decode cX11_cut 11 = .ok (.getfield 145, 3) := dq_180 (dq_suf 11 dt39bcX11_cut_0 rfl rfl) rfl
theorem dX11_cut_14 : decode cX11_cut 14 = .ok (.iconst 0, 1) := dq_3 (dq_suf 14 dt39bcX11_cut_0 rfl rfl)
theorem dX11_cut_15 : decode cX11_cut 15 = .ok (.iload_n 1, 1) := dq_27 (dq_suf 15 dt39bcX11_cut_0 rfl rfl)
theorem dX11_cut_16 : decode cX11_cut 16 = .ok (.iastore, 1) := dq_79 (dq_suf 0 dt39bcX11_cut_1 rfl rfl)
theorem dX11_cut_17 : decode cX11_cut 17 = .ok (.iconst 1, 1) := dq_4 (dq_suf 1 dt39bcX11_cut_1 rfl rfl)
theorem dX11_cut_18 : decode cX11_cut 18 = .ok (.istore_n 2, 1) := dq_61 (dq_suf 2 dt39bcX11_cut_1 rfl rfl)
theorem dX11_cut_19 : decode cX11_cut 19 = .ok (.iconst 0, 1) := dq_3 (dq_suf 3 dt39bcX11_cut_1 rfl rfl)
theorem dX11_cut_20 : decode cX11_cut 20 = .ok (.istore_n 3, 1) := dq_62 (dq_suf 4 dt39bcX11_cut_1 rfl rfl)
theorem dX11_cut_21 : decode cX11_cut 21 = .ok (.iload_n 3, 1) := dq_29 (dq_suf 5 dt39bcX11_cut_1 rfl rfl)
theorem dX11_cut_22 : decode cX11_cut 22 = .ok (.aload_n 0, 1) := dq_42 (dq_suf 6 dt39bcX11_cut_1 rfl rfl)
theorem dX11_cut_23 : decode cX11_cut 23 = .ok (.getfield 375, 3) := dq_180 (dq_suf 7 dt39bcX11_cut_1 rfl rfl) rfl
theorem dX11_cut_26 : decode cX11_cut 26 = .ok (.if_icmp .ge 38, 3) := dq_162 (dq_suf 10 dt39bcX11_cut_1 rfl rfl) (by decide +kernel)
theorem dX11_cut_29 : decode cX11_cut 29 = .ok (.iload_n 3, 1) := dq_29 (dq_suf 13 dt39bcX11_cut_1 rfl rfl)
theorem dX11_cut_30 : decode cX11_cut 30 = .ok (.iload_n 1, 1) := dq_27 (dq_suf 14 dt39bcX11_cut_1 rfl rfl)
theorem dX11_cut_31 : decode cX11_cut 31 = .ok (.if_icmp .eq 27, 3) := dq_159 (dq_suf 15 dt39bcX11_cut_1 rfl rfl) (by decide +kernel)
theorem dX11_cut_34 : decode cX11_cut 34 = .ok (.aload_n 0, 1) := dq_42 (dq_suf 2 dt39bcX11_cut_2 rfl rfl)
theorem dX11_cut_35 : decode cX11_cut 35 = .ok (.getfield 124, 3) := dq_180 (dq_suf 3 dt39bcX11_cut_2 rfl rfl) rfl
theorem dX11_cut_38 : decode cX11_cut 38 = .ok (.bipush 60, 2) := dq_16 (dq_suf 6 dt39bcX11_cut_2 rfl rfl) (by decide +kernel)
theorem dX11_cut_40 : decode cX11_cut 40 = .ok (.iload_n 1, 1) := dq_27 (dq_suf 8 dt39bcX11_cut_2 rfl rfl)
theorem dX11_cut_41 : decode cX11_cut 41 = .ok (.imul, 1) := dq_104 (dq_suf 9 dt39bcX11_cut_2 rfl rfl)
theorem dX11_cut_42 : decode cX11_cut 42 = .ok (.iload_n 3, 1) := dq_29 (dq_suf 10 dt39bcX11_cut_2 rfl rfl)
theorem dX11_cut_43 : decode cX11_cut 43 = .ok (.iadd, 1) := dq_96 (dq_suf 11 dt39bcX11_cut_2 rfl rfl)
theorem dX11_cut_44 : decode cX11_cut 44 = .ok (.baload, 1) := dq_51 (dq_suf 12 dt39bcX11_cut_2 rfl rfl)
theorem dX11_cut_45 : decode cX11_cut 45 = .ok (.ifCond .eq 13, 3) := dq_153 (dq_suf 13 dt39bcX11_cut_2 rfl rfl) (by decide +kernel)
theorem dX11_cut_48 : decode cX11_cut 48 = .ok (.aload_n 0, 1) := dq_42 (dq_suf 0 dt39bcX11_cut_3 rfl rfl)
theorem dX11_cut_49 : decode cX11_cut 49 = .ok (.getfield 145, 3) := dq_180 (dq_suf 1 dt39bcX11_cut_3 rfl rfl) rfl
theorem dX11_cut_52 : decode cX11_cut 52 = .ok (.iload_n 2, 1) := dq_28 (dq_suf 4 dt39bcX11_cut_3 rfl rfl)
theorem dX11_cut_53 : decode cX11_cut 53 = .ok (.iload_n 3, 1) := dq_29 (dq_suf 5 dt39bcX11_cut_3 rfl rfl)
theorem dX11_cut_54 : decode cX11_cut 54 = .ok (.iastore, 1) := dq_79 (dq_suf 6 dt39bcX11_cut_3 rfl rfl)
theorem dX11_cut_55 : decode cX11_cut 55 = .ok (.iinc 2 1, 3) := dq_132 (dq_suf 7 dt39bcX11_cut_3 rfl rfl) rfl (by decide +kernel)
theorem dX11_cut_58 : decode cX11_cut 58 = .ok (.iinc 3 1, 3) := dq_132 (dq_suf 10 dt39bcX11_cut_3 rfl rfl) rfl (by decide +kernel)
theorem dX11_cut_61 : decode cX11_cut 61 = .ok (.goto (-40), 3) := dq_167 (dq_suf 13 dt39bcX11_cut_3 rfl rfl) (by decide +kernel)
theorem dX11_cut_64 : decode cX11_cut 64 = .ok (.iconst 0, 1) := dq_3 (dq_suf 0 dt39bcX11_cut_4 rfl rfl)
theorem dX11_cut_65 : decode cX11_cut 65 = .ok (.istore_n 3, 1) := dq_62 (dq_suf 1 dt39bcX11_cut_4 rfl rfl)
theorem dX11_cut_66 : decode cX11_cut 66 = .ok (.iload_n 3, 1) := dq_29 (dq_suf 2 dt39bcX11_cut_4 rfl rfl)
theorem dX11_cut_67 : decode cX11_cut 67 = .ok (.iload_n 2, 1) := dq_28 (dq_suf 3 dt39bcX11_cut_4 rfl rfl)
theorem dX11_cut_68 : decode cX11_cut 68 = .ok (.if_icmp .ge 58, 3) := dq_162 (dq_suf 4 dt39bcX11_cut_4 rfl rfl) (by decide +kernel)
theorem dX11_cut_71 : decode cX11_cut 71 = .ok (.iconst 0, 1) := dq_3 (dq_suf 7 dt39bcX11_cut_4 rfl rfl)
theorem dX11_cut_72 : decode cX11_cut 72 = .ok (.istore 4, 2) := dq_54 (dq_suf 8 dt39bcX11_cut_4 rfl rfl) rfl
theorem dX11_cut_74 : decode cX11_cut 74 = .ok (.iload 4, 2) := dq_21 (dq_suf 10 dt39bcX11_cut_4 rfl rfl) rfl
theorem dX11_cut_76 : decode cX11_cut 76 = .ok (.iload_n 2, 1) := dq_28 (dq_suf 12 dt39bcX11_cut_4 rfl rfl)
theorem dX11_cut_77 : decode cX11_cut 77 = .ok (.if_icmp .ge 43, 3) := dq_162 (dq_suf 13 dt39bcX11_cut_4 rfl rfl) (by decide +kernel)
theorem dX11_cut_80 : decode cX11_cut 80 = .ok (.aload_n 0, 1) := dq_42 (dq_suf 0 dt39bcX11_cut_5 rfl rfl)
theorem dX11_cut_81 : decode cX11_cut 81 = .ok (.getfield 148, 3) := dq_180 (dq_suf 1 dt39bcX11_cut_5 rfl rfl) rfl
theorem dX11_cut_84 : decode cX11_cut 84 = .ok (.bipush 60, 2) := dq_16 (dq_suf 4 dt39bcX11_cut_5 rfl rfl) (by decide +kernel)
theorem dX11_cut_86 : decode cX11_cut 86 = .ok (.iload_n 3, 1) := dq_29 (dq_suf 6 dt39bcX11_cut_5 rfl rfl)
theorem dX11_cut_87 : decode cX11_cut 87 = .ok (.imul, 1) := dq_104 (dq_suf 7 dt39bcX11_cut_5 rfl rfl)
theorem dX11_cut_88 : decode cX11_cut 88 = .ok (.iload 4, 2) := dq_21 (dq_suf 8 dt39bcX11_cut_5 rfl rfl) rfl
theorem dX11_cut_90 : decode cX11_cut 90 = .ok (.iadd, 1) := dq_96 (dq_suf 10 dt39bcX11_cut_5 rfl rfl)
theorem dX11_cut_91 : decode cX11_cut 91 = .ok (.aload_n 0, 1) := dq_42 (dq_suf 11 dt39bcX11_cut_5 rfl rfl)
theorem dX11_cut_92 : decode cX11_cut 92 = .ok (.getfield 124, 3) := dq_180 (dq_suf 12 dt39bcX11_cut_5 rfl rfl) rfl
theorem dX11_cut_95 : decode cX11_cut 95 = .ok (.bipush 60, 2) := dq_16 (dq_suf 15 dt39bcX11_cut_5 rfl rfl) (by decide +kernel)
theorem dX11_cut_97 : decode cX11_cut 97 = .ok (.aload_n 0, 1) := dq_42 (dq_suf 1 dt39bcX11_cut_6 rfl rfl)
theorem dX11_cut_98 : decode cX11_cut 98 = .ok (.getfield 145, 3) := dq_180 (dq_suf 2 dt39bcX11_cut_6 rfl rfl) rfl
theorem dX11_cut_101 : decode cX11_cut 101 = .ok (.iload_n 3, 1) := dq_29 (dq_suf 5 dt39bcX11_cut_6 rfl rfl)
theorem dX11_cut_102 : decode cX11_cut 102 = .ok (.iaload, 1) := dq_46 (dq_suf 6 dt39bcX11_cut_6 rfl rfl)
theorem dX11_cut_103 : decode cX11_cut 103 = .ok (.imul, 1) := dq_104 (dq_suf 7 dt39bcX11_cut_6 rfl rfl)
theorem dX11_cut_104 : decode cX11_cut 104 = .ok (.aload_n 0, 1) := dq_42 (dq_suf 8 dt39bcX11_cut_6 rfl rfl)
theorem dX11_cut_105 : decode cX11_cut 105 = .ok (.getfield 145, 3) := dq_180 (dq_suf 9 dt39bcX11_cut_6 rfl rfl) rfl
theorem dX11_cut_108 : decode cX11_cut 108 = .ok (.iload 4, 2) := dq_21 (dq_suf 12 dt39bcX11_cut_6 rfl rfl) rfl
theorem dX11_cut_110 : decode cX11_cut 110 = .ok (.iaload, 1) := dq_46 (dq_suf 14 dt39bcX11_cut_6 rfl rfl)
theorem dX11_cut_111 : decode cX11_cut 111 = .ok (.iadd, 1) := dq_96 (dq_suf 15 dt39bcX11_cut_6 rfl rfl)
theorem dX11_cut_112 : decode cX11_cut 112 = .ok (.baload, 1) := dq_51 (dq_suf 0 dt39bcX11_cut_7 rfl rfl)
theorem dX11_cut_113 : decode cX11_cut 113 = .ok (.bastore, 1) := dq_84 (dq_suf 1 dt39bcX11_cut_7 rfl rfl)
theorem dX11_cut_114 : decode cX11_cut 114 = .ok (.iinc 4 1, 3) := dq_132 (dq_suf 2 dt39bcX11_cut_7 rfl rfl) rfl (by decide +kernel)
theorem dX11_cut_117 : decode cX11_cut 117 = .ok (.goto (-43), 3) := dq_167 (dq_suf 5 dt39bcX11_cut_7 rfl rfl) (by decide +kernel)
theorem dX11_cut_120 : decode cX11_cut 120 = .ok (.iinc 3 1, 3) := dq_132 (dq_suf 8 dt39bcX11_cut_7 rfl rfl) rfl (by decide +kernel)
theorem dX11_cut_123 : decode cX11_cut 123 = .ok (.goto (-57), 3) := dq_167 (dq_suf 11 dt39bcX11_cut_7 rfl rfl) (by decide +kernel)
theorem dX11_cut_126 : decode cX11_cut 126 = .ok (.aload_n 0, 1) := dq_42 (dq_suf 14 dt39bcX11_cut_7 rfl rfl)
theorem dX11_cut_127 : decode cX11_cut 127 = .ok (.iload_n 2, 1) := dq_28 (dq_suf 15 dt39bcX11_cut_7 rfl rfl)
theorem dX11_cut_128 : decode cX11_cut 128 = .ok (.invokevirtual 402, 3) := dq_182 (dq_suf 0 dt39bcX11_cut_8 rfl rfl) rfl
theorem dX11_cut_131 : decode cX11_cut 131 = .ok (.iload_n 2, 1) := dq_28 (dq_suf 3 dt39bcX11_cut_8 rfl rfl)
theorem dX11_cut_132 : decode cX11_cut 132 = .ok (.ireturn, 1) := dq_172 (dq_suf 4 dt39bcX11_cut_8 rfl rfl)
