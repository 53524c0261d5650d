noncomputable def ds38cX11_init_28 : List UInt8 := 79 :: 42 :: 180 :: 0 :: 33 :: 27 :: 2 :: 79 :: 132 :: 1 :: 1 :: 167 :: 255 :: 233 :: 177 :: []
noncomputable def ds38cX11_init_27 : List UInt8 := 2 :: 79 :: 3 :: 60 :: 27 :: 16 :: 8 :: 162 :: 0 :: 23 :: 42 :: 180 :: 0 :: 30 :: 27 :: 2 :: ds38cX11_init_28
noncomputable def ds38cX11_init_26 : List UInt8 := 23 :: 3 :: 2 :: 79 :: 42 :: 180 :: 0 :: 20 :: 4 :: 2 :: 79 :: 42 :: 180 :: 0 :: 23 :: 4 :: ds38cX11_init_27
noncomputable def ds38cX11_init_25 : List UInt8 := 180 :: 0 :: 16 :: 4 :: 4 :: 79 :: 42 :: 180 :: 0 :: 20 :: 3 :: 2 :: 79 :: 42 :: 180 :: 0 :: ds38cX11_init_26
noncomputable def ds38cX11_init_24 : List UInt8 := 60 :: 188 :: 10 :: 181 :: 0 :: 145 :: 42 :: 17 :: 14 :: 16 :: 188 :: 4 :: 181 :: 0 :: 148 :: 42 :: ds38cX11_init_25
noncomputable def ds38cX11_init_23 : List UInt8 := 188 :: 10 :: 181 :: 0 :: 139 :: 42 :: 17 :: 14 :: 16 :: 188 :: 4 :: 181 :: 0 :: 142 :: 42 :: 16 :: ds38cX11_init_24
noncomputable def ds38cX11_init_22 : List UInt8 := 188 :: 4 :: 181 :: 0 :: 133 :: 42 :: 16 :: 60 :: 188 :: 10 :: 181 :: 0 :: 136 :: 42 :: 16 :: 60 :: ds38cX11_init_23
noncomputable def ds38cX11_init_21 : List UInt8 := 181 :: 0 :: 127 :: 42 :: 17 :: 52 :: 28 :: 188 :: 10 :: 181 :: 0 :: 130 :: 42 :: 17 :: 70 :: 80 :: ds38cX11_init_22
noncomputable def ds38cX11_init_20 : List UInt8 := 0 :: 121 :: 42 :: 17 :: 14 :: 16 :: 188 :: 4 :: 181 :: 0 :: 124 :: 42 :: 16 :: 60 :: 188 :: 10 :: ds38cX11_init_21
noncomputable def ds38cX11_init_19 : List UInt8 := 115 :: 42 :: 17 :: 5 :: 20 :: 188 :: 10 :: 181 :: 0 :: 118 :: 42 :: 16 :: 60 :: 188 :: 10 :: 181 :: ds38cX11_init_20
noncomputable def ds38cX11_init_18 : List UInt8 := 42 :: 16 :: 10 :: 188 :: 10 :: 181 :: 0 :: 112 :: 42 :: 17 :: 5 :: 20 :: 188 :: 10 :: 181 :: 0 :: ds38cX11_init_19
noncomputable def ds38cX11_init_17 : List UInt8 := 1 :: 214 :: 188 :: 10 :: 181 :: 0 :: 106 :: 42 :: 17 :: 18 :: 92 :: 188 :: 10 :: 181 :: 0 :: 109 :: ds38cX11_init_18
noncomputable def ds38cX11_init_16 : List UInt8 := 188 :: 10 :: 181 :: 0 :: 100 :: 42 :: 17 :: 1 :: 214 :: 188 :: 10 :: 181 :: 0 :: 103 :: 42 :: 17 :: ds38cX11_init_17
noncomputable def ds38cX11_init_15 : List UInt8 := 181 :: 0 :: 94 :: 42 :: 17 :: 1 :: 214 :: 188 :: 10 :: 181 :: 0 :: 97 :: 42 :: 17 :: 1 :: 214 :: ds38cX11_init_16
noncomputable def ds38cX11_init_14 : List UInt8 := 88 :: 42 :: 17 :: 5 :: 20 :: 188 :: 10 :: 181 :: 0 :: 91 :: 42 :: 17 :: 1 :: 214 :: 188 :: 4 :: ds38cX11_init_15
noncomputable def ds38cX11_init_13 : List UInt8 := 17 :: 14 :: 16 :: 188 :: 4 :: 181 :: 0 :: 84 :: 42 :: 17 :: 5 :: 20 :: 188 :: 10 :: 181 :: 0 :: ds38cX11_init_14
noncomputable def ds38cX11_init_12 : List UInt8 := 16 :: 60 :: 188 :: 10 :: 181 :: 0 :: 78 :: 42 :: 16 :: 60 :: 188 :: 10 :: 181 :: 0 :: 81 :: 42 :: ds38cX11_init_13
noncomputable def ds38cX11_init_11 : List UInt8 := 88 :: 188 :: 10 :: 181 :: 0 :: 72 :: 42 :: 17 :: 2 :: 88 :: 188 :: 10 :: 181 :: 0 :: 75 :: 42 :: ds38cX11_init_12
noncomputable def ds38cX11_init_10 : List UInt8 := 188 :: 10 :: 181 :: 0 :: 66 :: 42 :: 16 :: 10 :: 188 :: 10 :: 181 :: 0 :: 69 :: 42 :: 17 :: 2 :: ds38cX11_init_11
noncomputable def ds38cX11_init_9 : List UInt8 := 181 :: 0 :: 60 :: 42 :: 17 :: 1 :: 44 :: 188 :: 10 :: 181 :: 0 :: 63 :: 42 :: 17 :: 7 :: 208 :: ds38cX11_init_10
noncomputable def ds38cX11_init_8 : List UInt8 := 54 :: 42 :: 17 :: 1 :: 154 :: 188 :: 10 :: 181 :: 0 :: 57 :: 42 :: 17 :: 11 :: 184 :: 188 :: 10 :: ds38cX11_init_9
noncomputable def ds38cX11_init_7 : List UInt8 := 17 :: 11 :: 184 :: 188 :: 10 :: 181 :: 0 :: 51 :: 42 :: 17 :: 1 :: 154 :: 188 :: 10 :: 181 :: 0 :: ds38cX11_init_8
noncomputable def ds38cX11_init_6 : List UInt8 := 184 :: 188 :: 10 :: 181 :: 0 :: 45 :: 42 :: 17 :: 11 :: 184 :: 188 :: 10 :: 181 :: 0 :: 48 :: 42 :: ds38cX11_init_7
noncomputable def ds38cX11_init_5 : List UInt8 := 10 :: 181 :: 0 :: 39 :: 42 :: 17 :: 11 :: 184 :: 188 :: 10 :: 181 :: 0 :: 42 :: 42 :: 17 :: 11 :: ds38cX11_init_6
noncomputable def ds38cX11_init_4 : List UInt8 := 8 :: 188 :: 10 :: 181 :: 0 :: 33 :: 42 :: 2 :: 181 :: 0 :: 36 :: 42 :: 17 :: 11 :: 184 :: 188 :: ds38cX11_init_5
noncomputable def ds38cX11_init_3 : List UInt8 := 23 :: 42 :: 5 :: 181 :: 0 :: 26 :: 42 :: 16 :: 8 :: 188 :: 10 :: 181 :: 0 :: 30 :: 42 :: 16 :: ds38cX11_init_4
noncomputable def ds38cX11_init_2 : List UInt8 := 17 :: 1 :: 44 :: 188 :: 10 :: 181 :: 0 :: 20 :: 42 :: 17 :: 1 :: 44 :: 188 :: 10 :: 181 :: 0 :: ds38cX11_init_3
noncomputable def ds38cX11_init_1 : List UInt8 := 160 :: 188 :: 8 :: 181 :: 0 :: 13 :: 42 :: 17 :: 1 :: 44 :: 188 :: 10 :: 181 :: 0 :: 16 :: 42 :: ds38cX11_init_2
noncomputable def ds38cX11_init_0 : List UInt8 := 42 :: 183 :: 0 :: 1 :: 42 :: 17 :: 15 :: 160 :: 188 :: 8 :: 181 :: 0 :: 7 :: 42 :: 17 :: 15 :: ds38cX11_init_1
theorem dt38cX11_init_0 : cX11_init.data.toList.drop 0 = ds38cX11_init_0 := by decide +kernel
theorem dt38cX11_init_1 : cX11_init.data.toList.drop 16 = ds38cX11_init_1 := dq_suf 16 dt38cX11_init_0 rfl rfl
theorem dt38cX11_init_2 : cX11_init.data.toList.drop 32 = ds38cX11_init_2 := dq_suf 16 dt38cX11_init_1 rfl rfl
theorem dt38cX11_init_3 : cX11_init.data.toList.drop 48 = ds38cX11_init_3 := dq_suf 16 dt38cX11_init_2 rfl rfl
theorem dt38cX11_init_4 : cX11_init.data.toList.drop 64 = ds38cX11_init_4 := dq_suf 16 dt38cX11_init_3 rfl rfl
theorem dt38cX11_init_5 : cX11_init.data.toList.drop 80 = ds38cX11_init_5 := dq_suf 16 dt38cX11_init_4 rfl rfl
theorem dt38cX11_init_6 : cX11_init.data.toList.drop 96 = ds38cX11_init_6 := dq_suf 16 dt38cX11_init_5 rfl rfl
theorem dt38cX11_init_7 : cX11_init.data.toList.drop 112 = ds38cX11_init_7 := dq_suf 16 dt38cX11_init_6 rfl rfl
theorem dt38cX11_init_8 : cX11_init.data.toList.drop 128 = ds38cX11_init_8 := dq_suf 16 dt38cX11_init_7 rfl rfl
theorem dt38cX11_init_9 : cX11_init.data.toList.drop 144 = ds38cX11_init_9 := dq_suf 16 dt38cX11_init_8 rfl rfl
theorem dt38cX11_init_10 : cX11_init.data.toList.drop 160 = ds38cX11_init_10 := dq_suf 16 dt38cX11_init_9 rfl rfl
theorem dt38cX11_init_11 : cX11_init.data.toList.drop 176 = ds38cX11_init_11 := dq_suf 16 dt38cX11_init_10 rfl rfl
theorem dt38cX11_init_12 : cX11_init.data.toList.drop 192 = ds38cX11_init_12 := dq_suf 16 dt38cX11_init_11 rfl rfl
theorem dt38cX11_init_13 : cX11_init.data.toList.drop 208 = ds38cX11_init_13 := dq_suf 16 dt38cX11_init_12 rfl rfl
theorem dt38cX11_init_14 : cX11_init.data.toList.drop 224 = ds38cX11_init_14 := dq_suf 16 dt38cX11_init_13 rfl rfl
theorem dt38cX11_init_15 : cX11_init.data.toList.drop 240 = ds38cX11_init_15 := dq_suf 16 dt38cX11_init_14 rfl rfl
theorem dt38cX11_init_16 : cX11_init.data.toList.drop 256 = ds38cX11_init_16 := dq_suf 16 dt38cX11_init_15 rfl rfl
theorem dt38cX11_init_17 : cX11_init.data.toList.drop 272 = ds38cX11_init_17 := dq_suf 16 dt38cX11_init_16 rfl rfl
theorem dt38cX11_init_18 : cX11_init.data.toList.drop 288 = ds38cX11_init_18 := dq_suf 16 dt38cX11_init_17 rfl rfl
theorem dt38cX11_init_19 : cX11_init.data.toList.drop 304 = ds38cX11_init_19 := dq_suf 16 dt38cX11_init_18 rfl rfl
theorem dt38cX11_init_20 : cX11_init.data.toList.drop 320 = ds38cX11_init_20 := dq_suf 16 dt38cX11_init_19 rfl rfl
theorem dt38cX11_init_21 : cX11_init.data.toList.drop 336 = ds38cX11_init_21 := dq_suf 16 dt38cX11_init_20 rfl rfl
theorem dt38cX11_init_22 : cX11_init.data.toList.drop 352 = ds38cX11_init_22 := dq_suf 16 dt38cX11_init_21 rfl rfl
theorem dt38cX11_init_23 : cX11_init.data.toList.drop 368 = ds38cX11_init_23 := dq_suf 16 dt38cX11_init_22 rfl rfl
theorem dt38cX11_init_24 : cX11_init.data.toList.drop 384 = ds38cX11_init_24 := dq_suf 16 dt38cX11_init_23 rfl rfl
theorem dt38cX11_init_25 : cX11_init.data.toList.drop 400 = ds38cX11_init_25 := dq_suf 16 dt38cX11_init_24 rfl rfl
theorem dt38cX11_init_26 : cX11_init.data.toList.drop 416 = ds38cX11_init_26 := dq_suf 16 dt38cX11_init_25 rfl rfl
theorem dt38cX11_init_27 : cX11_init.data.toList.drop 432 = ds38cX11_init_27 := dq_suf 16 dt38cX11_init_26 rfl rfl
theorem dt38cX11_init_28 : cX11_init.data.toList.drop 448 = ds38cX11_init_28 := dq_suf 16 dt38cX11_init_27 rfl rfl
theorem dX11_init_0 : decode cX11_init 0 = .ok (.aload_n 0, 1) := dq_42 (dq_suf 0 dt38cX11_init_0 rfl rfl)
theorem dX11_init_1 : decode cX11_init 1 = .ok (.invokespecial 1, 3) := dq_183 (dq_suf 1 dt38cX11_init_0 rfl rfl) rfl
theorem dX11_init_4 : decode cX11_init 4 = .ok (.aload_n 0, 1) := dq_42 (dq_suf 4 dt38cX11_init_0 rfl rfl)
theorem dX11_init_5 : decode cX11_init 5 = .ok (.sipush 4000, 3) := dq_17 (dq_suf 5 dt38cX11_init_0 rfl rfl) (by decide +kernel)
theorem dX11_init_8 : decode cX11_init 8 = .ok (.newarray .byte, 2) := by decide +kernel
theorem dX11_init_10 : decode cX11_init 10 = .ok (.putfield 7, 3) := dq_181 (dq_suf 10 dt38cX11_init_0 rfl rfl) rfl
theorem dX11_init_13 : decode cX11_init 13 = .ok (.aload_n 0, 1) := dq_42 (dq_suf 13 dt38cX11_init_0 rfl rfl)
theorem dX11_init_14 : decode cX11_init 14 = .ok (.sipush 4000, 3) := dq_17 (dq_suf 14 dt38cX11_init_0 rfl rfl) (by decide +kernel)
theorem dX11_init_17 : decode cX11_init 17 = .ok (.newarray .byte, 2) := by decide +kernel
theorem dX11_init_19 : decode cX11_init 19 = .ok (.putfield 13, 3) := dq_181 (dq_suf 3 dt38cX11_init_1 rfl rfl) rfl
theorem dX11_init_22 : decode cX11_init 22 = .ok (.aload_n 0, 1) := dq_42 (dq_suf 6 dt38cX11_init_1 rfl rfl)
theorem dX11_init_23 : decode cX11_init 23 = .ok (.sipush 300, 3) := dq_17 (dq_suf 7 dt38cX11_init_1 rfl rfl) (by decide +kernel)
theorem dX11_init_26 : decode cX11_init 26 = .ok (.newarray .int, 2) := by decide +kernel
theorem dX11_init_28 : decode cX11_init 28 = .ok (.putfield 16, 3) := dq_181 (dq_suf 12 dt38cX11_init_1 rfl rfl) rfl
theorem dX11_init_31 : decode cX11_init 31 = .ok (.aload_n 0, 1) := dq_42 (dq_suf 15 dt38cX11_init_1 rfl rfl)
theorem dX11_init_32 : decode cX11_init 32 = .ok (.sipush 300, 3) := dq_17 (dq_suf 0 dt38cX11_init_2 rfl rfl) (by decide +kernel)
theorem dX11_init_35 : decode cX11_init 35 = .ok (.newarray .int, 2) := by decide +kernel
theorem dX11_init_37 : decode cX11_init 37 = .ok (.putfield 20, 3) := dq_181 (dq_suf 5 dt38cX11_init_2 rfl rfl) rfl
theorem dX11_init_40 : decode cX11_init 40 = .ok (.aload_n 0, 1) := dq_42 (dq_suf 8 dt38cX11_init_2 rfl rfl)
theorem dX11_init_41 : decode cX11_init 41 = .ok (.sipush 300, 3) := dq_17 (dq_suf 9 dt38cX11_init_2 rfl rfl) (by decide +kernel)
theorem dX11_init_44 : decode cX11_init 44 = .ok (.newarray .int, 2) := by decide +kernel
theorem dX11_init_46 : decode cX11_init 46 = .ok (.putfield 23, 3) := dq_181 (dq_suf 14 dt38cX11_init_2 rfl rfl) rfl
theorem dX11_init_49 : decode cX11_init 49 = .ok (.aload_n 0, 1) := dq_42 (dq_suf 1 dt38cX11_init_3 rfl rfl)
theorem dX11_init_50 : decode cX11_init 50 = .ok (.iconst 2, 1) := dq_5 (dq_suf 2 dt38cX11_init_3 rfl rfl)
theorem dX11_init_51 : decode cX11_init 51 = .ok (.putfield 26, 3) := dq_181 (dq_suf 3 dt38cX11_init_3 rfl rfl) rfl
theorem dX11_init_54 : decode cX11_init 54 = .ok (.aload_n 0, 1) := dq_42 (dq_suf 6 dt38cX11_init_3 rfl rfl)
theorem dX11_init_55 : decode cX11_init 55 = .ok (.bipush 8, 2) := dq_16 (dq_suf 7 dt38cX11_init_3 rfl rfl) (by decide +kernel)
theorem dX11_init_57 : decode cX11_init 57 = .ok (.newarray .int, 2) := by decide +kernel
theorem dX11_init_59 : decode cX11_init 59 = .ok (.putfield 30, 3) := dq_181 (dq_suf 11 dt38cX11_init_3 rfl rfl) rfl
theorem dX11_init_62 : decode cX11_init 62 = .ok (.aload_n 0, 1) := dq_42 (dq_suf 14 dt38cX11_init_3 rfl rfl)
theorem dX11_init_63 : decode cX11_init 63 = .ok (.bipush 8, 2) := dq_16 (dq_suf 15 dt38cX11_init_3 rfl rfl) (by decide +kernel)
theorem dX11_init_65 : decode cX11_init 65 = .ok (.newarray .int, 2) := by decide +kernel
theorem dX11_init_67 : decode cX11_init 67 = .ok (.putfield 33, 3) := dq_181 (dq_suf 3 dt38cX11_init_4 rfl rfl) rfl
theorem dX11_init_70 : decode cX11_init 70 = .ok (.aload_n 0, 1) := dq_42 (dq_suf 6 dt38cX11_init_4 rfl rfl)
theorem dX11_init_71 : decode cX11_init 71 = .ok (.iconst (-1), 1) := dq_2 (dq_suf 7 dt38cX11_init_4 rfl rfl)
theorem dX11_init_72 : decode cX11_init 72 = .ok (.putfield 36, 3) := dq_181 (dq_suf 8 dt38cX11_init_4 rfl rfl) rfl
theorem dX11_init_75 : decode cX11_init 75 = .ok (.aload_n 0, 1) := dq_42 (dq_suf 11 dt38cX11_init_4 rfl rfl)
theorem dX11_init_76 : decode cX11_init 76 = .ok (.sipush 3000, 3) := dq_17 (dq_suf 12 dt38cX11_init_4 rfl rfl) (by decide +kernel)
theorem dX11_init_79 : decode cX11_init 79 = .ok (.newarray .int, 2) := by decide +kernel
theorem dX11_init_81 : decode cX11_init 81 = .ok (.putfield 39, 3) := dq_181 (dq_suf 1 dt38cX11_init_5 rfl rfl) rfl
theorem dX11_init_84 : decode cX11_init 84 = .ok (.aload_n 0, 1) := dq_42 (dq_suf 4 dt38cX11_init_5 rfl rfl)
theorem dX11_init_85 : decode cX11_init 85 = .ok (.sipush 3000, 3) := dq_17 (dq_suf 5 dt38cX11_init_5 rfl rfl) (by decide +kernel)
theorem dX11_init_88 : decode cX11_init 88 = .ok (.newarray .int, 2) := by decide +kernel
theorem dX11_init_90 : decode cX11_init 90 = .ok (.putfield 42, 3) := dq_181 (dq_suf 10 dt38cX11_init_5 rfl rfl) rfl
theorem dX11_init_93 : decode cX11_init 93 = .ok (.aload_n 0, 1) := dq_42 (dq_suf 13 dt38cX11_init_5 rfl rfl)
theorem dX11_init_94 : decode cX11_init 94 = .ok (.sipush 3000, 3) := dq_17 (dq_suf 14 dt38cX11_init_5 rfl rfl) (by decide +kernel)
theorem dX11_init_97 : decode cX11_init 97 = .ok (.newarray .int, 2) := by decide +kernel
theorem dX11_init_99 : decode cX11_init 99 = .ok (.putfield 45, 3) := dq_181 (dq_suf 3 dt38cX11_init_6 rfl rfl) rfl
theorem dX11_init_102 : decode cX11_init 102 = .ok (.aload_n 0, 1) := dq_42 (dq_suf 6 dt38cX11_init_6 rfl rfl)
theorem dX11_init_103 : decode cX11_init 103 = .ok (.sipush 3000, 3) := dq_17 (dq_suf 7 dt38cX11_init_6 rfl rfl) (by decide +kernel)
theorem dX11_init_106 : decode cX11_init 106 = .ok (.newarray .int, 2) := by decide +kernel
theorem dX11_init_108 : decode cX11_init 108 = .ok (.putfield 48, 3) := dq_181 (dq_suf 12 dt38cX11_init_6 rfl rfl) rfl
theorem dX11_init_111 : decode cX11_init 111 = .ok (.aload_n 0, 1) := dq_42 (dq_suf 15 dt38cX11_init_6 rfl rfl)
theorem dX11_init_112 : decode cX11_init 112 = .ok (.sipush 3000, 3) := dq_17 (dq_suf 0 dt38cX11_init_7 rfl rfl) (by decide +kernel)
theorem dX11_init_115 : decode cX11_init 115 = .ok (.newarray .int, 2) := by decide +kernel
theorem dX11_init_117 : decode cX11_init 117 = .ok (.putfield 51, 3) := dq_181 (dq_suf 5 dt38cX11_init_7 rfl rfl) rfl
theorem dX11_init_120 : decode cX11_init 120 = .ok (.aload_n 0, 1) := dq_42 (dq_suf 8 dt38cX11_init_7 rfl rfl)
theorem dX11_init_121 : decode cX11_init 121 = .ok (.sipush 410, 3) := dq_17 (dq_suf 9 dt38cX11_init_7 rfl rfl) (by decide +kernel)
theorem dX11_init_124 : decode cX11_init 124 = .ok (.newarray .int, 2) := by decide +kernel
theorem dX11_init_126 : decode cX11_init 126 = .ok (.putfield 54, 3) := dq_181 (dq_suf 14 dt38cX11_init_7 rfl rfl) rfl
theorem dX11_init_129 : decode cX11_init 129 = .ok (.aload_n 0, 1) := dq_42 (dq_suf 1 dt38cX11_init_8 rfl rfl)
theorem dX11_init_130 : decode cX11_init 130 = .ok (.sipush 410, 3) := dq_17 (dq_suf 2 dt38cX11_init_8 rfl rfl) (by decide +kernel)
theorem dX11_init_133 : decode cX11_init 133 = .ok (.newarray .int, 2) := by decide +kernel
theorem dX11_init_135 : decode cX11_init 135 = .ok (.putfield 57, 3) := dq_181 (dq_suf 7 dt38cX11_init_8 rfl rfl) rfl
theorem dX11_init_138 : decode cX11_init 138 = .ok (.aload_n 0, 1) := dq_42 (dq_suf 10 dt38cX11_init_8 rfl rfl)
theorem dX11_init_139 : decode cX11_init 139 = .ok (.sipush 3000, 3) := dq_17 (dq_suf 11 dt38cX11_init_8 rfl rfl) (by decide +kernel)
theorem dX11_init_142 : decode cX11_init 142 = .ok (.newarray .int, 2) := by decide +kernel
theorem dX11_init_144 : decode cX11_init 144 = .ok (.putfield 60, 3) := dq_181 (dq_suf 0 dt38cX11_init_9 rfl rfl) rfl
theorem dX11_init_147 : decode cX11_init 147 = .ok (.aload_n 0, 1) := dq_42 (dq_suf 3 dt38cX11_init_9 rfl rfl)
theorem dX11_init_148 : decode cX11_init 148 = .ok (.sipush 300, 3) := dq_17 (dq_suf 4 dt38cX11_init_9 rfl rfl) (by decide +kernel)
theorem dX11_init_151 : decode cX11_init 151 = .ok (.newarray .int, 2) := by decide +kernel
theorem dX11_init_153 : decode cX11_init 153 = .ok (.putfield 63, 3) := dq_181 (dq_suf 9 dt38cX11_init_9 rfl rfl) rfl
theorem dX11_init_156 : decode cX11_init 156 = .ok (.aload_n 0, 1) := dq_42 (dq_suf 12 dt38cX11_init_9 rfl rfl)
theorem dX11_init_157 : decode cX11_init 157 = .ok (.sipush 2000, 3) := dq_17 (dq_suf 13 dt38cX11_init_9 rfl rfl) (by decide +kernel)
theorem dX11_init_160 : decode cX11_init 160 = .ok (.newarray .int, 2) := by decide +kernel
theorem dX11_init_162 : decode cX11_init 162 = .ok (.putfield 66, 3) := dq_181 (dq_suf 2 dt38cX11_init_10 rfl rfl) rfl
theorem dX11_init_165 : decode cX11_init 165 = .ok (.aload_n 0, 1) := dq_42 (dq_suf 5 dt38cX11_init_10 rfl rfl)
theorem dX11_init_166 : decode cX11_init 166 = .ok (.bipush 10, 2) := dq_16 (dq_suf 6 dt38cX11_init_10 rfl rfl) (by decide +kernel)
theorem dX11_init_168 : decode cX11_init 168 = .ok (.newarray .int, 2) := by decide +kernel
theorem dX11_init_170 : decode cX11_init 170 = .ok (.putfield 69, 3) := dq_181 (dq_suf 10 dt38cX11_init_10 rfl rfl) rfl
theorem dX11_init_173 : decode cX11_init 173 = .ok (.aload_n 0, 1) := dq_42 (dq_suf 13 dt38cX11_init_10 rfl rfl)
theorem dX11_init_174 : decode cX11_init 174 = .ok (.sipush 600, 3) := dq_17 (dq_suf 14 dt38cX11_init_10 rfl rfl) (by decide +kernel)
theorem dX11_init_177 : decode cX11_init 177 = .ok (.newarray .int, 2) := by decide +kernel
theorem dX11_init_179 : decode cX11_init 179 = .ok (.putfield 72, 3) := dq_181 (dq_suf 3 dt38cX11_init_11 rfl rfl) rfl
theorem dX11_init_182 : decode cX11_init 182 = .ok (.aload_n 0, 1) := dq_42 (dq_suf 6 dt38cX11_init_11 rfl rfl)
theorem dX11_init_183 : decode cX11_init 183 = .ok (.sipush 600, 3) := dq_17 (dq_suf 7 dt38cX11_init_11 rfl rfl) (by decide +kernel)
theorem dX11_init_186 : decode cX11_init 186 = .ok (.newarray .int, 2) := by decide +kernel
theorem dX11_init_188 : decode cX11_init 188 = .ok (.putfield 75, 3) := dq_181 (dq_suf 12 dt38cX11_init_11 rfl rfl) rfl
theorem dX11_init_191 : decode cX11_init 191 = .ok (.aload_n 0, 1) := dq_42 (dq_suf 15 dt38cX11_init_11 rfl rfl)
theorem dX11_init_192 : decode cX11_init 192 = .ok (.bipush 60, 2) := dq_16 (dq_suf 0 dt38cX11_init_12 rfl rfl) (by decide +kernel)
theorem dX11_init_194 : decode cX11_init 194 = .ok (.newarray .int, 2) := by decide +kernel
theorem dX11_init_196 : decode cX11_init 196 = .ok (.putfield 78, 3) := dq_181 (dq_suf 4 dt38cX11_init_12 rfl rfl) rfl
theorem dX11_init_199 : decode cX11_init 199 = .ok (.aload_n 0, 1) := dq_42 (dq_suf 7 dt38cX11_init_12 rfl rfl)
theorem dX11_init_200 : decode cX11_init 200 = .ok (.bipush 60, 2) := dq_16 (dq_suf 8 dt38cX11_init_12 rfl rfl) (by decide +kernel)
theorem dX11_init_202 : decode cX11_init 202 = .ok (.newarray .int, 2) := by decide +kernel
theorem dX11_init_204 : decode cX11_init 204 = .ok (.putfield 81, 3) := dq_181 (dq_suf 12 dt38cX11_init_12 rfl rfl) rfl
theorem dX11_init_207 : decode cX11_init 207 = .ok (.aload_n 0, 1) := dq_42 (dq_suf 15 dt38cX11_init_12 rfl rfl)
theorem dX11_init_208 : decode cX11_init 208 = .ok (.sipush 3600, 3) := dq_17 (dq_suf 0 dt38cX11_init_13 rfl rfl) (by decide +kernel)
theorem dX11_init_211 : decode cX11_init 211 = .ok (.newarray .boolean, 2) := by decide +kernel
theorem dX11_init_213 : decode cX11_init 213 = .ok (.putfield 84, 3) := dq_181 (dq_suf 5 dt38cX11_init_13 rfl rfl) rfl
theorem dX11_init_216 : decode cX11_init 216 = .ok (.aload_n 0, 1) := dq_42 (dq_suf 8 dt38cX11_init_13 rfl rfl)
theorem dX11_init_217 : decode cX11_init 217 = .ok (.sipush 1300, 3) := dq_17 (dq_suf 9 dt38cX11_init_13 rfl rfl) (by decide +kernel)
theorem dX11_init_220 : decode cX11_init 220 = .ok (.newarray .int, 2) := by decide +kernel
theorem dX11_init_222 : decode cX11_init 222 = .ok (.putfield 88, 3) := dq_181 (dq_suf 14 dt38cX11_init_13 rfl rfl) rfl
theorem dX11_init_225 : decode cX11_init 225 = .ok (.aload_n 0, 1) := dq_42 (dq_suf 1 dt38cX11_init_14 rfl rfl)
theorem dX11_init_226 : decode cX11_init 226 = .ok (.sipush 1300, 3) := dq_17 (dq_suf 2 dt38cX11_init_14 rfl rfl) (by decide +kernel)
theorem dX11_init_229 : decode cX11_init 229 = .ok (.newarray .int, 2) := by decide +kernel
theorem dX11_init_231 : decode cX11_init 231 = .ok (.putfield 91, 3) := dq_181 (dq_suf 7 dt38cX11_init_14 rfl rfl) rfl
theorem dX11_init_234 : decode cX11_init 234 = .ok (.aload_n 0, 1) := dq_42 (dq_suf 10 dt38cX11_init_14 rfl rfl)
theorem dX11_init_235 : decode cX11_init 235 = .ok (.sipush 470, 3) := dq_17 (dq_suf 11 dt38cX11_init_14 rfl rfl) (by decide +kernel)
theorem dX11_init_238 : decode cX11_init 238 = .ok (.newarray .boolean, 2) := by decide +kernel
theorem dX11_init_240 : decode cX11_init 240 = .ok (.putfield 94, 3) := dq_181 (dq_suf 0 dt38cX11_init_15 rfl rfl) rfl
theorem dX11_init_243 : decode cX11_init 243 = .ok (.aload_n 0, 1) := dq_42 (dq_suf 3 dt38cX11_init_15 rfl rfl)
theorem dX11_init_244 : decode cX11_init 244 = .ok (.sipush 470, 3) := dq_17 (dq_suf 4 dt38cX11_init_15 rfl rfl) (by decide +kernel)
theorem dX11_init_247 : decode cX11_init 247 = .ok (.newarray .int, 2) := by decide +kernel
theorem dX11_init_249 : decode cX11_init 249 = .ok (.putfield 97, 3) := dq_181 (dq_suf 9 dt38cX11_init_15 rfl rfl) rfl
theorem dX11_init_252 : decode cX11_init 252 = .ok (.aload_n 0, 1) := dq_42 (dq_suf 12 dt38cX11_init_15 rfl rfl)
theorem dX11_init_253 : decode cX11_init 253 = .ok (.sipush 470, 3) := dq_17 (dq_suf 13 dt38cX11_init_15 rfl rfl) (by decide +kernel)
theorem dX11_init_256 : decode cX11_init 256 = .ok (.newarray .int, 2) := by decide +kernel
theorem dX11_init_258 : decode cX11_init 258 = .ok (.putfield 100, 3) := dq_181 (dq_suf 2 dt38cX11_init_16 rfl rfl) rfl
theorem dX11_init_261 : decode cX11_init 261 = .ok (.aload_n 0, 1) := dq_42 (dq_suf 5 dt38cX11_init_16 rfl rfl)
theorem dX11_init_262 : decode cX11_init 262 = .ok (.sipush 470, 3) := dq_17 (dq_suf 6 dt38cX11_init_16 rfl rfl) (by decide +kernel)
theorem dX11_init_265 : decode cX11_init 265 = .ok (.newarray .int, 2) := by decide +kernel
theorem dX11_init_267 : decode cX11_init 267 = .ok (.putfield 103, 3) := dq_181 (dq_suf 11 dt38cX11_init_16 rfl rfl) rfl
theorem dX11_init_270 : decode cX11_init 270 = .ok (.aload_n 0, 1) := dq_42 (dq_suf 14 dt38cX11_init_16 rfl rfl)
theorem dX11_init_271 : decode cX11_init 271 = .ok (.sipush 470, 3) := dq_17 (dq_suf 15 dt38cX11_init_16 rfl rfl) (by decide +kernel)
theorem dX11_init_274 : decode cX11_init 274 = .ok (.newarray .int, 2) := by decide +kernel
theorem dX11_init_276 : decode cX11_init 276 = .ok (.putfield 106, 3) := dq_181 (dq_suf 4 dt38cX11_init_17 rfl rfl) rfl
theorem dX11_init_279 : decode cX11_init 279 = .ok (.aload_n 0, 1) := dq_42 (dq_suf 7 dt38cX11_init_17 rfl rfl)
theorem dX11_init_280 : decode cX11_init 280 = .ok (.sipush 4700, 3) := dq_17 (dq_suf 8 dt38cX11_init_17 rfl rfl) (by decide +kernel)
theorem dX11_init_283 : decode cX11_init 283 = .ok (.newarray .int, 2) := by decide +kernel
theorem dX11_init_285 : decode cX11_init 285 = .ok (.putfield 109, 3) := dq_181 (dq_suf 13 dt38cX11_init_17 rfl rfl) rfl
theorem dX11_init_288 : decode cX11_init 288 = .ok (.aload_n 0, 1) := dq_42 (dq_suf 0 dt38cX11_init_18 rfl rfl)
theorem dX11_init_289 : decode cX11_init 289 = .ok (.bipush 10, 2) := dq_16 (dq_suf 1 dt38cX11_init_18 rfl rfl) (by decide +kernel)
theorem dX11_init_291 : decode cX11_init 291 = .ok (.newarray .int, 2) := by decide +kernel
theorem dX11_init_293 : decode cX11_init 293 = .ok (.putfield 112, 3) := dq_181 (dq_suf 5 dt38cX11_init_18 rfl rfl) rfl
theorem dX11_init_296 : decode cX11_init 296 = .ok (.aload_n 0, 1) := dq_42 (dq_suf 8 dt38cX11_init_18 rfl rfl)
theorem dX11_init_297 : decode cX11_init 297 = .ok (.sipush 1300, 3) := dq_17 (dq_suf 9 dt38cX11_init_18 rfl rfl) (by decide +kernel)
theorem dX11_init_300 : decode cX11_init 300 = .ok (.newarray .int, 2) := by decide +kernel
theorem dX11_init_302 : decode cX11_init 302 = .ok (.putfield 115, 3) := dq_181 (dq_suf 14 dt38cX11_init_18 rfl rfl) rfl
theorem dX11_init_305 : decode cX11_init 305 = .ok (.aload_n 0, 1) := dq_42 (dq_suf 1 dt38cX11_init_19 rfl rfl)
theorem dX11_init_306 : decode cX11_init 306 = .ok (.sipush 1300, 3) := dq_17 (dq_suf 2 dt38cX11_init_19 rfl rfl) (by decide +kernel)
theorem dX11_init_309 : decode cX11_init 309 = .ok (.newarray .int, 2) := by decide +kernel
theorem dX11_init_311 : decode cX11_init 311 = .ok (.putfield 118, 3) := dq_181 (dq_suf 7 dt38cX11_init_19 rfl rfl) rfl
theorem dX11_init_314 : decode cX11_init 314 = .ok (.aload_n 0, 1) := dq_42 (dq_suf 10 dt38cX11_init_19 rfl rfl)
theorem dX11_init_315 : decode cX11_init 315 = .ok (.bipush 60, 2) := dq_16 (dq_suf 11 dt38cX11_init_19 rfl rfl) (by decide +kernel)
theorem dX11_init_317 : decode cX11_init 317 = .ok (.newarray .int, 2) := by decide +kernel
theorem dX11_init_319 : decode cX11_init 319 = .ok (.putfield 121, 3) := dq_181 (dq_suf 15 dt38cX11_init_19 rfl rfl) rfl
theorem dX11_init_322 : decode cX11_init 322 = .ok (.aload_n 0, 1) := dq_42 (dq_suf 2 dt38cX11_init_20 rfl rfl)
theorem dX11_init_323 : decode cX11_init 323 = .ok (.sipush 3600, 3) := dq_17 (dq_suf 3 dt38cX11_init_20 rfl rfl) (by decide +kernel)
theorem dX11_init_326 : decode cX11_init 326 = .ok (.newarray .boolean, 2) := by decide +kernel
theorem dX11_init_328 : decode cX11_init 328 = .ok (.putfield 124, 3) := dq_181 (dq_suf 8 dt38cX11_init_20 rfl rfl) rfl
theorem dX11_init_331 : decode cX11_init 331 = .ok (.aload_n 0, 1) := dq_42 (dq_suf 11 dt38cX11_init_20 rfl rfl)
theorem dX11_init_332 : decode cX11_init 332 = .ok (.bipush 60, 2) := dq_16 (dq_suf 12 dt38cX11_init_20 rfl rfl) (by decide +kernel)
theorem dX11_init_334 : decode cX11_init 334 = .ok (.newarray .int, 2) := by decide +kernel
theorem dX11_init_336 : decode cX11_init 336 = .ok (.putfield 127, 3) := dq_181 (dq_suf 0 dt38cX11_init_21 rfl rfl) rfl
theorem dX11_init_339 : decode cX11_init 339 = .ok (.aload_n 0, 1) := dq_42 (dq_suf 3 dt38cX11_init_21 rfl rfl)
theorem dX11_init_340 : decode cX11_init 340 = .ok (.sipush 13340, 3) := dq_17 (dq_suf 4 dt38cX11_init_21 rfl rfl) (by decide +kernel)
theorem dX11_init_343 : decode cX11_init 343 = .ok (.newarray .int, 2) := by decide +kernel
theorem dX11_init_345 : decode cX11_init 345 = .ok (.putfield 130, 3) := dq_181 (dq_suf 9 dt38cX11_init_21 rfl rfl) rfl
theorem dX11_init_348 : decode cX11_init 348 = .ok (.aload_n 0, 1) := dq_42 (dq_suf 12 dt38cX11_init_21 rfl rfl)
theorem dX11_init_349 : decode cX11_init 349 = .ok (.sipush 18000, 3) := dq_17 (dq_suf 13 dt38cX11_init_21 rfl rfl) (by decide +kernel)
theorem dX11_init_352 : decode cX11_init 352 = .ok (.newarray .boolean, 2) := by decide +kernel
theorem dX11_init_354 : decode cX11_init 354 = .ok (.putfield 133, 3) := dq_181 (dq_suf 2 dt38cX11_init_22 rfl rfl) rfl
theorem dX11_init_357 : decode cX11_init 357 = .ok (.aload_n 0, 1) := dq_42 (dq_suf 5 dt38cX11_init_22 rfl rfl)
theorem dX11_init_358 : decode cX11_init 358 = .ok (.bipush 60, 2) := dq_16 (dq_suf 6 dt38cX11_init_22 rfl rfl) (by decide +kernel)
theorem dX11_init_360 : decode cX11_init 360 = .ok (.newarray .int, 2) := by decide +kernel
theorem dX11_init_362 : decode cX11_init 362 = .ok (.putfield 136, 3) := dq_181 (dq_suf 10 dt38cX11_init_22 rfl rfl) rfl
theorem dX11_init_365 : decode cX11_init 365 = .ok (.aload_n 0, 1) := dq_42 (dq_suf 13 dt38cX11_init_22 rfl rfl)
theorem dX11_init_366 : decode cX11_init 366 = .ok (.bipush 60, 2) := dq_16 (dq_suf 14 dt38cX11_init_22 rfl rfl) (by decide +kernel)
theorem dX11_init_368 : decode cX11_init 368 = .ok (.newarray .int, 2) := by decide +kernel
theorem dX11_init_370 : decode cX11_init 370 = .ok (.putfield 139, 3) := dq_181 (dq_suf 2 dt38cX11_init_23 rfl rfl) rfl
theorem dX11_init_373 : decode cX11_init 373 = .ok (.aload_n 0, 1) := dq_42 (dq_suf 5 dt38cX11_init_23 rfl rfl)
theorem dX11_init_374 : decode cX11_init 374 = .ok (.sipush 3600, 3) := dq_17 (dq_suf 6 dt38cX11_init_23 rfl rfl) (by decide +kernel)
theorem dX11_init_377 : decode cX11_init 377 = .ok (.newarray .boolean, 2) := by decide +kernel
theorem dX11_init_379 : decode cX11_init 379 = .ok (.putfield 142, 3) := dq_181 (dq_suf 11 dt38cX11_init_23 rfl rfl) rfl
theorem dX11_init_382 : decode cX11_init 382 = .ok (.aload_n 0, 1) := dq_42 (dq_suf 14 dt38cX11_init_23 rfl rfl)
theorem dX11_init_383 : decode cX11_init 383 = .ok (.bipush 60, 2) := dq_16 (dq_suf 15 dt38cX11_init_23 rfl rfl) (by decide +kernel)
theorem dX11_init_385 : decode cX11_init 385 = .ok (.newarray .int, 2) := by decide +kernel
theorem dX11_init_387 : decode cX11_init 387 = .ok (.putfield 145, 3) := dq_181 (dq_suf 3 dt38cX11_init_24 rfl rfl) rfl
theorem dX11_init_390 : decode cX11_init 390 = .ok (.aload_n 0, 1) := dq_42 (dq_suf 6 dt38cX11_init_24 rfl rfl)
theorem dX11_init_391 : decode cX11_init 391 = .ok (.sipush 3600, 3) := dq_17 (dq_suf 7 dt38cX11_init_24 rfl rfl) (by decide +kernel)
theorem dX11_init_394 : decode cX11_init 394 = .ok (.newarray .boolean, 2) := by decide +kernel
theorem dX11_init_396 : decode cX11_init 396 = .ok (.putfield 148, 3) := dq_181 (dq_suf 12 dt38cX11_init_24 rfl rfl) rfl
theorem dX11_init_399 : decode cX11_init 399 = .ok (.aload_n 0, 1) := dq_42 (dq_suf 15 dt38cX11_init_24 rfl rfl)
theorem dX11_init_400 : decode cX11_init 400 = .ok (.getfield 16, 3) := dq_180 (dq_suf 0 dt38cX11_init_25 rfl rfl) rfl
theorem dX11_init_403 : decode cX11_init 403 = .ok (.iconst 1, 1) := dq_4 (dq_suf 3 dt38cX11_init_25 rfl rfl)
theorem dX11_init_404 : decode cX11_init 404 = .ok (.iconst 1, 1) := dq_4 (dq_suf 4 dt38cX11_init_25 rfl rfl)
theorem dX11_init_405 : decode cX11_init 405 = .ok (.iastore, 1) := dq_79 (dq_suf 5 dt38cX11_init_25 rfl rfl)
theorem dX11_init_406 : decode cX11_init 406 = .ok (.aload_n 0, 1) := dq_42 (dq_suf 6 dt38cX11_init_25 rfl rfl)
theorem dX11_init_407 : decode cX11_init 407 = .ok (.getfield 20, 3) := dq_180 (dq_suf 7 dt38cX11_init_25 rfl rfl) rfl
theorem dX11_init_410 : decode cX11_init 410 = .ok (.iconst 0, 1) := dq_3 (dq_suf 10 dt38cX11_init_25 rfl rfl)
theorem dX11_init_411 : decode cX11_init 411 = .ok (.iconst (-1), 1) := dq_2 (dq_suf 11 dt38cX11_init_25 rfl rfl)
theorem dX11_init_412 : decode cX11_init 412 = .ok (.iastore, 1) := dq_79 (dq_suf 12 dt38cX11_init_25 rfl rfl)
theorem dX11_init_413 : decode cX11_init 413 = .ok (.aload_n 0, 1) := dq_42 (dq_suf 13 dt38cX11_init_25 rfl rfl)
theorem dX11_init_414 : decode cX11_init 414 = .ok (.getfield 23, 3) := dq_180 (dq_suf 14 dt38cX11_init_25 rfl rfl) rfl
theorem dX11_init_417 : decode cX11_init 417 = .ok (.iconst 0, 1) := dq_3 (dq_suf 1 dt38cX11_init_26 rfl rfl)
theorem dX11_init_418 : decode cX11_init 418 = .ok (.iconst (-1), 1) := dq_2 (dq_suf 2 dt38cX11_init_26 rfl rfl)
theorem dX11_init_419 : decode cX11_init 419 = .ok (.iastore, 1) := dq_79 (dq_suf 3 dt38cX11_init_26 rfl rfl)
theorem dX11_init_420 : decode cX11_init 420 = .ok (.aload_n 0, 1) := dq_42 (dq_suf 4 dt38cX11_init_26 rfl rfl)
theorem dX11_init_421 : decode cX11_init 421 = .ok (.getfield 20, 3) := dq_180 (dq_suf 5 dt38cX11_init_26 rfl rfl) rfl
theorem dX11_init_424 : decode cX11_init 424 = .ok (.iconst 1, 1) := dq_4 (dq_suf 8 dt38cX11_init_26 rfl rfl)
theorem dX11_init_425 : decode cX11_init 425 = .ok (.iconst (-1), 1) := dq_2 (dq_suf 9 dt38cX11_init_26 rfl rfl)
theorem dX11_init_426 : decode cX11_init 426 = .ok (.iastore, 1) := dq_79 (dq_suf 10 dt38cX11_init_26 rfl rfl)
theorem dX11_init_427 : decode cX11_init 427 = .ok (.aload_n 0, 1) := dq_42 (dq_suf 11 dt38cX11_init_26 rfl rfl)
theorem dX11_init_428 : decode cX11_init 428 = .ok (.getfield 23, 3) := dq_180 (dq_suf 12 dt38cX11_init_26 rfl rfl) rfl
theorem dX11_init_431 : decode cX11_init 431 = .ok (.iconst 1, 1) := dq_4 (dq_suf 15 dt38cX11_init_26 rfl rfl)
theorem dX11_init_432 : decode cX11_init 432 = .ok (.iconst (-1), 1) := dq_2 (dq_suf 0 dt38cX11_init_27 rfl rfl)
theorem dX11_init_433 : decode cX11_init 433 = .ok (.iastore, 1) := dq_79 (dq_suf 1 dt38cX11_init_27 rfl rfl)
theorem dX11_init_434 : decode cX11_init 434 = .ok (.iconst 0, 1) := dq_3 (dq_suf 2 dt38cX11_init_27 rfl rfl)
theorem dX11_init_435 : decode cX11_init 435 = .ok (.istore_n 1, 1) := dq_60 (dq_suf 3 dt38cX11_init_27 rfl rfl)
theorem dX11_init_436 : decode cX11_init 436 = .ok (.iload_n 1, 1) := dq_27 (dq_suf 4 dt38cX11_init_27 rfl rfl)
theorem dX11_init_437 : decode cX11_init 437 = .ok (.bipush 8, 2) := dq_16 (dq_suf 5 dt38cX11_init_27 rfl rfl) (by decide +kernel)
theorem dX11_init_439 : decode cX11_init 439 = .ok (.if_icmp .ge 23, 3) := dq_162 (dq_suf 7 dt38cX11_init_27 rfl rfl) (by decide +kernel)
theorem dX11_init_442 : decode cX11_init 442 = .ok (.aload_n 0, 1) := dq_42 (dq_suf 10 dt38cX11_init_27 rfl rfl)
theorem dX11_init_443 : decode cX11_init 443 = .ok (.getfield 30, 3) := dq_180 (dq_suf 11 dt38cX11_init_27 rfl rfl) rfl
theorem dX11_init_446 : decode cX11_init 446 = .ok (.iload_n 1, 1) := dq_27 (dq_suf 14 dt38cX11_init_27 rfl rfl)
theorem dX11_init_447 : decode cX11_init 447 = .ok (.iconst (-1), 1) := dq_2 (dq_suf 15 dt38cX11_init_27 rfl rfl)
theorem dX11_init_448 : decode cX11_init 448 = .ok (.iastore, 1) := dq_79 (dq_suf 0 dt38cX11_init_28 rfl rfl)
theorem dX11_init_449 : decode cX11_init 449 = .ok (.aload_n 0, 1) := dq_42 (dq_suf 1 dt38cX11_init_28 rfl rfl)
theorem dX11_init_450 : decode cX11_init 450 = .ok (.getfield 33, 3) := dq_180 (dq_suf 2 dt38cX11_init_28 rfl rfl) rfl
theorem dX11_init_453 : decode cX11_init 453 = .ok (.iload_n 1, 1) := dq_27 (dq_suf 5 dt38cX11_init_28 rfl rfl)
theorem dX11_init_454 : decode cX11_init 454 = .ok (.iconst (-1), 1) := dq_2 (dq_suf 6 dt38cX11_init_28 rfl rfl)
theorem dX11_init_455 : decode cX11_init 455 = .ok (.iastore, 1) := dq_79 (dq_suf 7 dt38cX11_init_28 rfl rfl)
theorem dX11_init_456 : decode cX11_init 456 = .ok (.iinc 1 1, 3) := dq_132 (dq_suf 8 dt38cX11_init_28 rfl rfl) rfl (by decide +kernel)
theorem dX11_init_459 : decode cX11_init 459 = .ok (.goto (-23), 3) := dq_167 (dq_suf 11 dt38cX11_init_28 rfl rfl) (by decide +kernel)
theorem dX11_init_462 : decode cX11_init 462 = .ok (.return_, 1) := dq_177 (dq_suf 14 dt38cX11_init_28 rfl rfl)
noncomputable def ds38cX11_in_0 : List UInt8 := 26 :: 27 :: 161 :: 0 :: 12 :: 26 :: 28 :: 163 :: 0 :: 7 :: 4 :: 167 :: 0 :: 4 :: 3 :: 172 :: []
theorem dt38cX11_in_0 : cX11_in.data.toList.drop 0 = ds38cX11_in_0 := by decide +kernel
theorem dX11_in_0 : decode cX11_in 0 = .ok (.iload_n 0, 1) := dq_26 (dq_suf 0 dt38cX11_in_0 rfl rfl)
theorem dX11_in_1 : decode cX11_in 1 = .ok (.iload_n 1, 1) := dq_27 (dq_suf 1 dt38cX11_in_0 rfl rfl)
theorem dX11_in_2 : decode cX11_in 2 = .ok (.if_icmp .lt 12, 3) := dq_161 (dq_suf 2 dt38cX11_in_0 rfl rfl) (by decide +kernel)
theorem dX11_in_5 : decode cX11_in 5 = .ok (.iload_n 0, 1) := dq_26 (dq_suf 5 dt38cX11_in_0 rfl rfl)
theorem dX11_in_6 : decode cX11_in 6 = .ok (.iload_n 2, 1) := dq_28 (dq_suf 6 dt38cX11_in_0 rfl rfl)
theorem dX11_in_7 : decode cX11_in 7 = .ok (.if_icmp .gt 7, 3) := dq_163 (dq_suf 7 dt38cX11_in_0 rfl rfl) (by decide +kernel)
theorem dX11_in_10 : decode cX11_in 10 = .ok (.iconst 1, 1) := dq_4 (dq_suf 10 dt38cX11_in_0 rfl rfl)
theorem dX11_in_11 : decode cX11_in 11 = .ok (.goto 4, 3) := dq_167 (dq_suf 11 dt38cX11_in_0 rfl rfl) (by decide +kernel)
theorem dX11_in_14 : decode cX11_in 14 = .ok (.iconst 0, 1) := dq_3 (dq_suf 14 dt38cX11_in_0 rfl rfl)
theorem dX11_in_15 : decode cX11_in 15 = .ok (.ireturn, 1) := dq_172 (dq_suf 15 dt38cX11_in_0 rfl rfl)
noncomputable def ds38cX11_feed_3 : List UInt8 := 180 :: 0 :: 154 :: 172 :: []
noncomputable def ds38cX11_feed_2 : List UInt8 := 182 :: 0 :: 157 :: 42 :: 21 :: 4 :: 182 :: 0 :: 157 :: 42 :: 21 :: 5 :: 182 :: 0 :: 157 :: 42 :: ds38cX11_feed_3
noncomputable def ds38cX11_feed_1 : List UInt8 := 0 :: 5 :: 2 :: 172 :: 42 :: 27 :: 182 :: 0 :: 157 :: 42 :: 28 :: 182 :: 0 :: 157 :: 42 :: 29 :: ds38cX11_feed_2
noncomputable def ds38cX11_feed_0 : List UInt8 := 42 :: 3 :: 181 :: 0 :: 151 :: 42 :: 180 :: 0 :: 154 :: 16 :: 20 :: 96 :: 17 :: 15 :: 160 :: 164 :: ds38cX11_feed_1
theorem dt38cX11_feed_0 : cX11_feed.data.toList.drop 0 = ds38cX11_feed_0 := by decide +kernel
theorem dt38cX11_feed_1 : cX11_feed.data.toList.drop 16 = ds38cX11_feed_1 := dq_suf 16 dt38cX11_feed_0 rfl rfl
theorem dt38cX11_feed_2 : cX11_feed.data.toList.drop 32 = ds38cX11_feed_2 := dq_suf 16 dt38cX11_feed_1 rfl rfl
theorem dt38cX11_feed_3 : cX11_feed.data.toList.drop 48 = ds38cX11_feed_3 := dq_suf 16 dt38cX11_feed_2 rfl rfl
theorem dX11_feed_0 : decode cX11_feed 0 = .ok (.aload_n 0, 1) := dq_42 (dq_suf 0 dt38cX11_feed_0 rfl rfl)
theorem dX11_feed_1 : decode cX11_feed 1 = .ok (.iconst 0, 1) := dq_3 (dq_suf 1 dt38cX11_feed_0 rfl rfl)
theorem dX11_feed_2 : decode cX11_feed 2 = .ok (.putfield 151, 3) := dq_181 (dq_suf 2 dt38cX11_feed_0 rfl rfl) rfl
theorem dX11_feed_5 : decode cX11_feed 5 = .ok (.aload_n 0, 1) := dq_42 (dq_suf 5 dt38cX11_feed_0 rfl rfl)
theorem dX11_feed_6 : decode cX11_feed 6 = .ok (.getfield 154, 3) := dq_180 (dq_suf 6 dt38cX11_feed_0 rfl rfl) rfl
theorem dX11_feed_9 : decode cX11_feed 9 = .ok (.bipush 20, 2) := dq_16 (dq_suf 9 dt38cX11_feed_0 rfl rfl) (by decide +kernel)
theorem dX11_feed_11 : decode cX11_feed 11 = .ok (.iadd, 1) := dq_96 (dq_suf 11 dt38cX11_feed_0 rfl rfl)
theorem dX11_feed_12 : decode cX11_feed 12 = .ok (.sipush 4000, 3) := dq_17 (dq_suf 12 dt38cX11_feed_0 rfl rfl) (by decide +kernel)
theorem dX11_feed_15 : decode cX11_feed 15 = .ok (.if_icmp .le 5, 3) := dq_164 (dq_suf 15 dt38cX11_feed_0 rfl rfl) (by decide +kernel)
theorem dX11_feed_18 : decode cX11_feed 18 = .ok (.iconst (-1), 1) := dq_2 (dq_suf 2 dt38cX11_feed_1 rfl rfl)
theorem dX11_feed_19 : decode cX11_feed 19 = .ok (.ireturn, 1) := dq_172 (dq_suf 3 dt38cX11_feed_1 rfl rfl)
theorem dX11_feed_20 : decode cX11_feed 20 = .ok (.aload_n 0, 1) := dq_42 (dq_suf 4 dt38cX11_feed_1 rfl rfl)
theorem dX11_feed_21 : decode cX11_feed 21 = .ok (.iload_n 1, 1) := dq_27 (dq_suf 5 dt38cX11_feed_1 rfl rfl)
theorem dX11_feed_22 : decode cX11_feed 22 = .ok (.invokevirtual 157, 3) := dq_182 (dq_suf 6 dt38cX11_feed_1 rfl rfl) rfl
theorem dX11_feed_25 : decode cX11_feed 25 = .ok (.aload_n 0, 1) := dq_42 (dq_suf 9 dt38cX11_feed_1 rfl rfl)
theorem dX11_feed_26 : decode cX11_feed 26 = .ok (.iload_n 2, 1) := dq_28 (dq_suf 10 dt38cX11_feed_1 rfl rfl)
theorem dX11_feed_27 : decode cX11_feed 27 = .ok (.invokevirtual 157, 3) := dq_182 (dq_suf 11 dt38cX11_feed_1 rfl rfl) rfl
theorem dX11_feed_30 : decode cX11_feed 30 = .ok (.aload_n 0, 1) := dq_42 (dq_suf 14 dt38cX11_feed_1 rfl rfl)
theorem dX11_feed_31 : decode cX11_feed 31 = .ok (.iload_n 3, 1) := dq_29 (dq_suf 15 dt38cX11_feed_1 rfl rfl)
theorem dX11_feed_32 : decode cX11_feed 32 = .ok (.invokevirtual 157, 3) := dq_182 (dq_suf 0 dt38cX11_feed_2 rfl rfl) rfl
theorem dX11_feed_35 : decode cX11_feed 35 = .ok (.aload_n 0, 1) := dq_42 (dq_suf 3 dt38cX11_feed_2 rfl rfl)
theorem dX11_feed_36 : decode cX11_feed 36 = .ok (.iload 4, 2) := dq_21 (dq_suf 4 dt38cX11_feed_2 rfl rfl) rfl
theorem dX11_feed_38 : decode cX11_feed 38 = .ok (.invokevirtual 157, 3) := dq_182 (dq_suf 6 dt38cX11_feed_2 rfl rfl) rfl
theorem dX11_feed_41 : decode cX11_feed 41 = .ok (.aload_n 0, 1) := dq_42 (dq_suf 9 dt38cX11_feed_2 rfl rfl)
theorem dX11_feed_42 : decode cX11_feed 42 = .ok (.iload 5, 2) := dq_21 (dq_suf 10 dt38cX11_feed_2 rfl rfl) rfl
theorem dX11_feed_44 : decode cX11_feed 44 = .ok (.invokevirtual 157, 3) := dq_182 (dq_suf 12 dt38cX11_feed_2 rfl rfl) rfl
theorem dX11_feed_47 : decode cX11_feed 47 = .ok (.aload_n 0, 1) := dq_42 (dq_suf 15 dt38cX11_feed_2 rfl rfl)
theorem dX11_feed_48 : decode cX11_feed 48 = .ok (.getfield 154, 3) := dq_180 (dq_suf 0 dt38cX11_feed_3 rfl rfl) rfl
theorem dX11_feed_51 : decode cX11_feed 51 = .ok (.ireturn, 1) := dq_172 (dq_suf 3 dt38cX11_feed_3 rfl rfl)
noncomputable def ds38cX11_four_2 : List UInt8 := 248 :: 167 :: 255 :: 226 :: 177 :: []
noncomputable def ds38cX11_four_1 : List UInt8 := 28 :: 122 :: 145 :: 84 :: 42 :: 89 :: 180 :: 0 :: 154 :: 4 :: 96 :: 181 :: 0 :: 154 :: 132 :: 2 :: ds38cX11_four_2
noncomputable def ds38cX11_four_0 : List UInt8 := 16 :: 24 :: 61 :: 28 :: 155 :: 0 :: 32 :: 42 :: 180 :: 0 :: 7 :: 42 :: 180 :: 0 :: 154 :: 27 :: ds38cX11_four_1
theorem dt38cX11_four_0 : cX11_four.data.toList.drop 0 = ds38cX11_four_0 := by decide +kernel
theorem dt38cX11_four_1 : cX11_four.data.toList.drop 16 = ds38cX11_four_1 := dq_suf 16 dt38cX11_four_0 rfl rfl
theorem dt38cX11_four_2 : cX11_four.data.toList.drop 32 = ds38cX11_four_2 := dq_suf 16 dt38cX11_four_1 rfl rfl
theorem dX11_four_0 : decode cX11_four 0 = .ok (.bipush 24, 2) := dq_16 (dq_suf 0 dt38cX11_four_0 rfl rfl) (by decide +kernel)
theorem dX11_four_2 : decode cX11_four 2 = .ok (.istore_n 2, 1) := dq_61 (dq_suf 2 dt38cX11_four_0 rfl rfl)
theorem dX11_four_3 : decode cX11_four 3 = .ok (.iload_n 2, 1) := dq_28 (dq_suf 3 dt38cX11_four_0 rfl rfl)
theorem dX11_four_4 : decode cX11_four 4 = .ok (.ifCond .lt 32, 3) := dq_155 (dq_suf 4 dt38cX11_four_0 rfl rfl) (by decide +kernel)
theorem dX11_four_7 : decode cX11_four 7 = .ok (.aload_n 0, 1) := dq_42 (dq_suf 7 dt38cX11_four_0 rfl rfl)
theorem dX11_four_8 : decode cX11_four 8 = .ok (.getfield 7, 3) := dq_180 (dq_suf 8 dt38cX11_four_0 rfl rfl) rfl
theorem dX11_four_11 : decode cX11_four 11 = .ok (.aload_n 0, 1) := dq_42 (dq_suf 11 dt38cX11_four_0 rfl rfl)
theorem dX11_four_12 : decode cX11_four 12 = .ok (.getfield 154, 3) := dq_180 (dq_suf 12 dt38cX11_four_0 rfl rfl) rfl
theorem dX11_four_15 : decode cX11_four 15 = .ok (.iload_n 1, 1) := dq_27 (dq_suf 15 dt38cX11_four_0 rfl rfl)
theorem dX11_four_16 : decode cX11_four 16 = .ok (.iload_n 2, 1) := dq_28 (dq_suf 0 dt38cX11_four_1 rfl rfl)
theorem dX11_four_17 : decode cX11_four 17 = .ok (.ishr, 1) := dq_122 (dq_suf 1 dt38cX11_four_1 rfl rfl)
theorem dX11_four_18 : decode cX11_four 18 = .ok (.i2b, 1) := dq_145 (dq_suf 2 dt38cX11_four_1 rfl rfl)
theorem dX11_four_19 : decode cX11_four 19 = .ok (.bastore, 1) := dq_84 (dq_suf 3 dt38cX11_four_1 rfl rfl)
theorem dX11_four_20 : decode cX11_four 20 = .ok (.aload_n 0, 1) := dq_42 (dq_suf 4 dt38cX11_four_1 rfl rfl)
theorem dX11_four_21 : decode cX11_four 21 = .ok (.dup, 1) := dq_89 (dq_suf 5 dt38cX11_four_1 rfl rfl)
theorem dX11_four_22 : decode cX11_four 22 = .ok (.getfield 154, 3) := dq_180 (dq_suf 6 dt38cX11_four_1 rfl rfl) rfl
theorem dX11_four_25 : decode cX11_four 25 = .ok (.iconst 1, 1) := dq_4 (dq_suf 9 dt38cX11_four_1 rfl rfl)
theorem dX11_four_26 : decode cX11_four 26 = .ok (.iadd, 1) := dq_96 (dq_suf 10 dt38cX11_four_1 rfl rfl)
theorem dX11_four_27 : decode cX11_four 27 = .ok (.putfield 154, 3) := dq_181 (dq_suf 11 dt38cX11_four_1 rfl rfl) rfl
theorem dX11_four_30 : decode cX11_four 30 = .ok (.iinc 2 (-8), 3) := dq_132 (dq_suf 14 dt38cX11_four_1 rfl rfl) rfl (by decide +kernel)
theorem dX11_four_33 : decode cX11_four 33 = .ok (.goto (-30), 3) := dq_167 (dq_suf 1 dt38cX11_four_2 rfl rfl) (by decide +kernel)
theorem dX11_four_36 : decode cX11_four 36 = .ok (.return_, 1) := dq_177 (dq_suf 4 dt38cX11_four_2 rfl rfl)
noncomputable def ds38cX11_end_1 : List UInt8 := 5 :: 2 :: 172 :: 42 :: 27 :: 181 :: 0 :: 154 :: 27 :: 172 :: []
noncomputable def ds38cX11_end_0 : List UInt8 := 42 :: 3 :: 181 :: 0 :: 151 :: 27 :: 3 :: 42 :: 180 :: 0 :: 154 :: 184 :: 0 :: 161 :: 154 :: 0 :: ds38cX11_end_1
theorem dt38cX11_end_0 : cX11_end.data.toList.drop 0 = ds38cX11_end_0 := by decide +kernel
theorem dt38cX11_end_1 : cX11_end.data.toList.drop 16 = ds38cX11_end_1 := dq_suf 16 dt38cX11_end_0 rfl rfl
theorem dX11_end_0 : decode cX11_end 0 = .ok (.aload_n 0, 1) := dq_42 (dq_suf 0 dt38cX11_end_0 rfl rfl)
theorem dX11_end_1 : decode cX11_end 1 = .ok (.iconst 0, 1) := dq_3 (dq_suf 1 dt38cX11_end_0 rfl rfl)
theorem dX11_end_2 : decode cX11_end 2 = .ok (.putfield 151, 3) := dq_181 (dq_suf 2 dt38cX11_end_0 rfl rfl) rfl
theorem dX11_end_5 : decode cX11_end 5 = .ok (.iload_n 1, 1) := dq_27 (dq_suf 5 dt38cX11_end_0 rfl rfl)
theorem dX11_end_6 : decode cX11_end 6 = .ok (.iconst 0, 1) := dq_3 (dq_suf 6 dt38cX11_end_0 rfl rfl)
theorem dX11_end_7 : decode cX11_end 7 = .ok (.aload_n 0, 1) := dq_42 (dq_suf 7 dt38cX11_end_0 rfl rfl)
theorem dX11_end_8 : decode cX11_end 8 = .ok (.getfield 154, 3) := dq_180 (dq_suf 8 dt38cX11_end_0 rfl rfl) rfl
theorem dX11_end_11 : decode cX11_end 11 = .ok (.invokestatic 161, 3) := dq_184 (dq_suf 11 dt38cX11_end_0 rfl rfl) rfl
theorem dX11_end_14 : decode cX11_end 14 = .ok (.ifCond .ne 5, 3) := dq_154 (dq_suf 14 dt38cX11_end_0 rfl rfl) (by decide +kernel)
theorem dX11_end_17 : decode cX11_end 17 = .ok (.iconst (-1), 1) := dq_2 (dq_suf 1 dt38cX11_end_1 rfl rfl)
theorem dX11_end_18 : decode cX11_end 18 = .ok (.ireturn, 1) := dq_172 (dq_suf 2 dt38cX11_end_1 rfl rfl)
theorem dX11_end_19 : decode cX11_end 19 = .ok (.aload_n 0, 1) := dq_42 (dq_suf 3 dt38cX11_end_1 rfl rfl)
theorem dX11_end_20 : decode cX11_end 20 = .ok (.iload_n 1, 1) := dq_27 (dq_suf 4 dt38cX11_end_1 rfl rfl)
theorem dX11_end_21 : decode cX11_end 21 = .ok (.putfield 154, 3) := dq_181 (dq_suf 5 dt38cX11_end_1 rfl rfl) rfl
theorem dX11_end_24 : decode cX11_end 24 = .ok (.iload_n 1, 1) := dq_27 (dq_suf 8 dt38cX11_end_1 rfl rfl)
theorem dX11_end_25 : decode cX11_end 25 = .ok (.ireturn, 1) := dq_172 (dq_suf 9 dt38cX11_end_1 rfl rfl)
noncomputable def ds38cX11_take_2 : List UInt8 := 233 :: 42 :: 42 :: 180 :: 0 :: 165 :: 181 :: 0 :: 154 :: 42 :: 180 :: 0 :: 154 :: 172 :: []
noncomputable def ds38cX11_take_1 : List UInt8 := 180 :: 0 :: 7 :: 27 :: 42 :: 180 :: 0 :: 13 :: 27 :: 51 :: 84 :: 132 :: 1 :: 1 :: 167 :: 255 :: ds38cX11_take_2
noncomputable def ds38cX11_take_0 : List UInt8 := 42 :: 3 :: 181 :: 0 :: 151 :: 3 :: 60 :: 27 :: 42 :: 180 :: 0 :: 165 :: 162 :: 0 :: 21 :: 42 :: ds38cX11_take_1
theorem dt38cX11_take_0 : cX11_take.data.toList.drop 0 = ds38cX11_take_0 := by decide +kernel
theorem dt38cX11_take_1 : cX11_take.data.toList.drop 16 = ds38cX11_take_1 := dq_suf 16 dt38cX11_take_0 rfl rfl
theorem dt38cX11_take_2 : cX11_take.data.toList.drop 32 = ds38cX11_take_2 := dq_suf 16 dt38cX11_take_1 rfl rfl
theorem dX11_take_0 : decode cX11_take 0 = .ok (.aload_n 0, 1) := dq_42 (dq_suf 0 dt38cX11_take_0 rfl rfl)
theorem dX11_take_1 : decode cX11_take 1 = .ok (.iconst 0, 1) := dq_3 (dq_suf 1 dt38cX11_take_0 rfl rfl)
theorem dX11_take_2 : decode cX11_take 2 = .ok (.putfield 151, 3) := dq_181 (dq_suf 2 dt38cX11_take_0 rfl rfl) rfl
theorem dX11_take_5 : decode cX11_take 5 = .ok (.iconst 0, 1) := dq_3 (dq_suf 5 dt38cX11_take_0 rfl rfl)
theorem dX11_take_6 : decode cX11_take 6 = .ok (.istore_n 1, 1) := dq_60 (dq_suf 6 dt38cX11_take_0 rfl rfl)
theorem dX11_take_7 : decode cX11_take 7 = .ok (.iload_n 1, 1) := dq_27 (dq_suf 7 dt38cX11_take_0 rfl rfl)
theorem dX11_take_8 : decode cX11_take 8 = .ok (.aload_n 0, 1) := dq_42 (dq_suf 8 dt38cX11_take_0 rfl rfl)
theorem dX11_take_9 : decode cX11_take 9 = .ok (.getfield 165, 3) := dq_180 (dq_suf 9 dt38cX11_take_0 rfl rfl) rfl
theorem dX11_take_12 : decode cX11_take 12 = .ok (.if_icmp .ge 21, 3) := dq_162 (dq_suf 12 dt38cX11_take_0 rfl rfl) (by decide +kernel)
theorem dX11_take_15 : decode cX11_take 15 = .ok (.aload_n 0, 1) := dq_42 (dq_suf 15 dt38cX11_take_0 rfl rfl)
theorem dX11_take_16 : decode cX11_take 16 = .ok (.getfield 7, 3) := dq_180 (dq_suf 0 dt38cX11_take_1 rfl rfl) rfl
theorem dX11_take_19 : decode cX11_take 19 = .ok (.iload_n 1, 1) := dq_27 (dq_suf 3 dt38cX11_take_1 rfl rfl)
theorem dX11_take_20 : decode cX11_take 20 = .ok (.aload_n 0, 1) := dq_42 (dq_suf 4 dt38cX11_take_1 rfl rfl)
theorem dX11_take_21 : decode cX11_take 21 = .ok (.getfield 13, 3) := dq_180 (dq_suf 5 dt38cX11_take_1 rfl rfl) rfl
theorem dX11_take_24 : decode cX11_take 24 = .ok (.iload_n 1, 1) := dq_27 (dq_suf 8 dt38cX11_take_1 rfl rfl)
theorem dX11_take_25 : decode cX11_take 25 = .ok (.baload, 1) := dq_51 (dq_suf 9 dt38cX11_take_1 rfl rfl)
theorem dX11_take_26 : decode cX11_take 26 = .ok (.bastore, 1) := dq_84 (dq_suf 10 dt38cX11_take_1 rfl rfl)
theorem dX11_take_27 : decode cX11_take 27 = .ok (.iinc 1 1, 3) := dq_132 (dq_suf 11 dt38cX11_take_1 rfl rfl) rfl (by decide +kernel)
theorem dX11_take_30 : decode cX11_take 30 = .ok (.goto (-23), 3) := dq_167 (dq_suf 14 dt38cX11_take_1 rfl rfl) (by decide +kernel)
theorem dX11_take_33 : decode cX11_take 33 = .ok (.aload_n 0, 1) := dq_42 (dq_suf 1 dt38cX11_take_2 rfl rfl)
theorem dX11_take_34 : decode cX11_take 34 = .ok (.aload_n 0, 1) := dq_42 (dq_suf 2 dt38cX11_take_2 rfl rfl)
theorem dX11_take_35 : decode cX11_take 35 = .ok (.getfield 165, 3) := dq_180 (dq_suf 3 dt38cX11_take_2 rfl rfl) rfl
theorem dX11_take_38 : decode cX11_take 38 = .ok (.putfield 154, 3) := dq_181 (dq_suf 6 dt38cX11_take_2 rfl rfl) rfl
theorem dX11_take_41 : decode cX11_take 41 = .ok (.aload_n 0, 1) := dq_42 (dq_suf 9 dt38cX11_take_2 rfl rfl)
theorem dX11_take_42 : decode cX11_take 42 = .ok (.getfield 154, 3) := dq_180 (dq_suf 10 dt38cX11_take_2 rfl rfl) rfl
theorem dX11_take_45 : decode cX11_take 45 = .ok (.ireturn, 1) := dq_172 (dq_suf 13 dt38cX11_take_2 rfl rfl)
noncomputable def ds38cX11_alter_1 : List UInt8 := 154 :: 0 :: 5 :: 3 :: 172 :: 42 :: 180 :: 0 :: 7 :: 27 :: 28 :: 145 :: 84 :: 4 :: 172 :: []
noncomputable def ds38cX11_alter_0 : List UInt8 := 42 :: 3 :: 181 :: 0 :: 151 :: 27 :: 3 :: 42 :: 180 :: 0 :: 154 :: 4 :: 100 :: 184 :: 0 :: 161 :: ds38cX11_alter_1
theorem dt38cX11_alter_0 : cX11_alter.data.toList.drop 0 = ds38cX11_alter_0 := by decide +kernel
theorem dt38cX11_alter_1 : cX11_alter.data.toList.drop 16 = ds38cX11_alter_1 := dq_suf 16 dt38cX11_alter_0 rfl rfl
theorem dX11_alter_0 : decode cX11_alter 0 = .ok (.aload_n 0, 1) := dq_42 (dq_suf 0 dt38cX11_alter_0 rfl rfl)
theorem dX11_alter_1 : decode cX11_alter 1 = .ok (.iconst 0, 1) := dq_3 (dq_suf 1 dt38cX11_alter_0 rfl rfl)
theorem dX11_alter_2 : decode cX11_alter 2 = .ok (.putfield 151, 3) := dq_181 (dq_suf 2 dt38cX11_alter_0 rfl rfl) rfl
theorem dX11_alter_5 : decode cX11_alter 5 = .ok (.iload_n 1, 1) := dq_27 (dq_suf 5 dt38cX11_alter_0 rfl rfl)
theorem dX11_alter_6 : decode cX11_alter 6 = .ok (.iconst 0, 1) := dq_3 (dq_suf 6 dt38cX11_alter_0 rfl rfl)
theorem dX11_alter_7 : decode cX11_alter 7 = .ok (.aload_n 0, 1) := dq_42 (dq_suf 7 dt38cX11_alter_0 rfl rfl)
theorem dX11_alter_8 : decode cX11_alter 8 = .ok (.getfield 154, 3) := dq_180 (dq_suf 8 dt38cX11_alter_0 rfl rfl) rfl
theorem dX11_alter_11 : decode cX11_alter 11 = .ok (.iconst 1, 1) := dq_4 (dq_suf 11 dt38cX11_alter_0 rfl rfl)
theorem dX11_alter_12 : decode cX11_alter 12 = .ok (.isub, 1) := dq_100 (dq_suf 12 dt38cX11_alter_0 rfl rfl)
theorem dX11_alter_13 : decode cX11_alter 13 = .ok (.invokestatic 161, 3) := dq_184 (dq_suf 13 dt38cX11_alter_0 rfl rfl) rfl
theorem dX11_alter_16 : decode cX11_alter 16 = .ok (.ifCond .ne 5, 3) := dq_154 (dq_suf 0 dt38cX11_alter_1 rfl rfl) (by decide +kernel)
theorem dX11_alter_19 : decode cX11_alter 19 = .ok (.iconst 0, 1) := dq_3 (dq_suf 3 dt38cX11_alter_1 rfl rfl)
theorem dX11_alter_20 : decode cX11_alter 20 = .ok (.ireturn, 1) := dq_172 (dq_suf 4 dt38cX11_alter_1 rfl rfl)
theorem dX11_alter_21 : decode cX11_alter 21 = .ok (.aload_n 0, 1) := dq_42 (dq_suf 5 dt38cX11_alter_1 rfl rfl)
theorem dX11_alter_22 : decode cX11_alter 22 = .ok (.getfield 7, 3) := dq_180 (dq_suf 6 dt38cX11_alter_1 rfl rfl) rfl
theorem dX11_alter_25 : decode cX11_alter 25 = .ok (.iload_n 1, 1) := dq_27 (dq_suf 9 dt38cX11_alter_1 rfl rfl)
theorem dX11_alter_26 : decode cX11_alter 26 = .ok (.iload_n 2, 1) := dq_28 (dq_suf 10 dt38cX11_alter_1 rfl rfl)
theorem dX11_alter_27 : decode cX11_alter 27 = .ok (.i2b, 1) := dq_145 (dq_suf 11 dt38cX11_alter_1 rfl rfl)
theorem dX11_alter_28 : decode cX11_alter 28 = .ok (.bastore, 1) := dq_84 (dq_suf 12 dt38cX11_alter_1 rfl rfl)
theorem dX11_alter_29 : decode cX11_alter 29 = .ok (.iconst 1, 1) := dq_4 (dq_suf 13 dt38cX11_alter_1 rfl rfl)
theorem dX11_alter_30 : decode cX11_alter 30 = .ok (.ireturn, 1) := dq_172 (dq_suf 14 dt38cX11_alter_1 rfl rfl)
noncomputable def ds38cX11_out_2 : List UInt8 := 2 :: 172 :: []
noncomputable def ds38cX11_out_1 : List UInt8 := 153 :: 0 :: 16 :: 42 :: 180 :: 0 :: 13 :: 27 :: 51 :: 17 :: 0 :: 255 :: 126 :: 167 :: 0 :: 4 :: ds38cX11_out_2
noncomputable def ds38cX11_out_0 : List UInt8 := 42 :: 3 :: 181 :: 0 :: 151 :: 27 :: 3 :: 42 :: 180 :: 0 :: 165 :: 4 :: 100 :: 184 :: 0 :: 161 :: ds38cX11_out_1
theorem dt38cX11_out_0 : cX11_out.data.toList.drop 0 = ds38cX11_out_0 := by decide +kernel
theorem dt38cX11_out_1 : cX11_out.data.toList.drop 16 = ds38cX11_out_1 := dq_suf 16 dt38cX11_out_0 rfl rfl
theorem dt38cX11_out_2 : cX11_out.data.toList.drop 32 = ds38cX11_out_2 := dq_suf 16 dt38cX11_out_1 rfl rfl
theorem dX11_out_0 : decode cX11_out 0 = .ok (.aload_n 0, 1) := dq_42 (dq_suf 0 dt38cX11_out_0 rfl rfl)
theorem dX11_out_1 : decode cX11_out 1 = .ok (.iconst 0, 1) := dq_3 (dq_suf 1 dt38cX11_out_0 rfl rfl)
theorem dX11_out_2 : decode cX11_out 2 = .ok (.putfield 151, 3) := dq_181 (dq_suf 2 dt38cX11_out_0 rfl rfl) rfl
theorem dX11_out_5 : decode cX11_out 5 = .ok (.iload_n 1, 1) := dq_27 (dq_suf 5 dt38cX11_out_0 rfl rfl)
theorem dX11_out_6 : decode cX11_out 6 = .ok (.iconst 0, 1) := dq_3 (dq_suf 6 dt38cX11_out_0 rfl rfl)
theorem dX11_out_7 : decode cX11_out 7 = .ok (.aload_n 0, 1) := dq_42 (dq_suf 7 dt38cX11_out_0 rfl rfl)
theorem dX11_out_8 : decode cX11_out 8 = .ok (.getfield 165, 3) := dq_180 (dq_suf 8 dt38cX11_out_0 rfl rfl) rfl
theorem dX11_out_11 : decode cX11_out 11 = .ok (.iconst 1, 1) := dq_4 (dq_suf 11 dt38cX11_out_0 rfl rfl)
theorem dX11_out_12 : decode cX11_out 12 = .ok (.isub, 1) := dq_100 (dq_suf 12 dt38cX11_out_0 rfl rfl)
theorem dX11_out_13 : decode cX11_out 13 = .ok (.invokestatic 161, 3) := dq_184 (dq_suf 13 dt38cX11_out_0 rfl rfl) rfl
theorem dX11_out_16 : decode cX11_out 16 = .ok (.ifCond .eq 16, 3) := dq_153 (dq_suf 0 dt38cX11_out_1 rfl rfl) (by decide +kernel)
theorem dX11_out_19 : decode cX11_out 19 = .ok (.aload_n 0, 1) := dq_42 (dq_suf 3 dt38cX11_out_1 rfl rfl)
theorem dX11_out_20 : decode cX11_out 20 = .ok (.getfield 13, 3) := dq_180 (dq_suf 4 dt38cX11_out_1 rfl rfl) rfl
theorem dX11_out_23 : decode cX11_out 23 = .ok (.iload_n 1, 1) := dq_27 (dq_suf 7 dt38cX11_out_1 rfl rfl)
theorem dX11_out_24 : decode cX11_out 24 = .ok (.baload, 1) := dq_51 (dq_suf 8 dt38cX11_out_1 rfl rfl)
theorem dX11_out_25 : decode cX11_out 25 = .ok (.sipush 255, 3) := dq_17 (dq_suf 9 dt38cX11_out_1 rfl rfl) (by decide +kernel)
theorem dX11_out_28 : decode cX11_out 28 = .ok (.iand, 1) := dq_126 (dq_suf 12 dt38cX11_out_1 rfl rfl)
theorem dX11_out_29 : decode cX11_out 29 = .ok (.goto 4, 3) := dq_167 (dq_suf 13 dt38cX11_out_1 rfl rfl) (by decide +kernel)
theorem dX11_out_32 : decode cX11_out 32 = .ok (.iconst (-1), 1) := dq_2 (dq_suf 0 dt38cX11_out_2 rfl rfl)
theorem dX11_out_33 : decode cX11_out 33 = .ok (.ireturn, 1) := dq_172 (dq_suf 1 dt38cX11_out_2 rfl rfl)
noncomputable def ds38cX11_make_7 : List UInt8 := 180 :: 0 :: 26 :: 4 :: 100 :: 172 :: []
noncomputable def ds38cX11_make_6 : List UInt8 := 180 :: 0 :: 26 :: 29 :: 79 :: 42 :: 89 :: 180 :: 0 :: 26 :: 4 :: 96 :: 181 :: 0 :: 26 :: 42 :: ds38cX11_make_7
noncomputable def ds38cX11_make_5 : List UInt8 := 79 :: 42 :: 180 :: 0 :: 20 :: 42 :: 180 :: 0 :: 26 :: 28 :: 79 :: 42 :: 180 :: 0 :: 23 :: 42 :: ds38cX11_make_6
noncomputable def ds38cX11_make_4 : List UInt8 := 42 :: 4 :: 181 :: 0 :: 168 :: 3 :: 172 :: 42 :: 180 :: 0 :: 16 :: 42 :: 180 :: 0 :: 26 :: 27 :: ds38cX11_make_5
noncomputable def ds38cX11_make_3 : List UInt8 := 132 :: 4 :: 1 :: 167 :: 255 :: 208 :: 42 :: 180 :: 0 :: 26 :: 17 :: 1 :: 44 :: 160 :: 0 :: 10 :: ds38cX11_make_4
noncomputable def ds38cX11_make_2 : List UInt8 := 0 :: 17 :: 42 :: 180 :: 0 :: 23 :: 21 :: 4 :: 46 :: 29 :: 160 :: 0 :: 6 :: 21 :: 4 :: 172 :: ds38cX11_make_3
noncomputable def ds38cX11_make_1 : List UInt8 := 21 :: 4 :: 46 :: 27 :: 160 :: 0 :: 28 :: 42 :: 180 :: 0 :: 20 :: 21 :: 4 :: 46 :: 28 :: 160 :: ds38cX11_make_2
noncomputable def ds38cX11_make_0 : List UInt8 := 3 :: 54 :: 4 :: 21 :: 4 :: 42 :: 180 :: 0 :: 26 :: 162 :: 0 :: 45 :: 42 :: 180 :: 0 :: 16 :: ds38cX11_make_1
theorem dt38cX11_make_0 : cX11_make.data.toList.drop 0 = ds38cX11_make_0 := by decide +kernel
theorem dt38cX11_make_1 : cX11_make.data.toList.drop 16 = ds38cX11_make_1 := dq_suf 16 dt38cX11_make_0 rfl rfl
theorem dt38cX11_make_2 : cX11_make.data.toList.drop 32 = ds38cX11_make_2 := dq_suf 16 dt38cX11_make_1 rfl rfl
theorem dt38cX11_make_3 : cX11_make.data.toList.drop 48 = ds38cX11_make_3 := dq_suf 16 dt38cX11_make_2 rfl rfl
theorem dt38cX11_make_4 : cX11_make.data.toList.drop 64 = ds38cX11_make_4 := dq_suf 16 dt38cX11_make_3 rfl rfl
theorem dt38cX11_make_5 : cX11_make.data.toList.drop 80 = ds38cX11_make_5 := dq_suf 16 dt38cX11_make_4 rfl rfl
theorem dt38cX11_make_6 : cX11_make.data.toList.drop 96 = ds38cX11_make_6 := dq_suf 16 dt38cX11_make_5 rfl rfl
theorem dt38cX11_make_7 : cX11_make.data.toList.drop 112 = ds38cX11_make_7 := dq_suf 16 dt38cX11_make_6 rfl rfl
theorem dX11_make_0 : decode cX11_make 0 = .ok (.iconst 0, 1) := dq_3 (dq_suf 0 dt38cX11_make_0 rfl rfl)
theorem dX11_make_1 : decode cX11_make 1 = .ok (.istore 4, 2) := dq_54 (dq_suf 1 dt38cX11_make_0 rfl rfl) rfl
theorem dX11_make_3 : decode cX11_make 3 = .ok (.iload 4, 2) := dq_21 (dq_suf 3 dt38cX11_make_0 rfl rfl) rfl
theorem dX11_make_5 : decode cX11_make 5 = .ok (.aload_n 0, 1) := dq_42 (dq_suf 5 dt38cX11_make_0 rfl rfl)
theorem dX11_make_6 : decode cX11_make 6 = .ok (.getfield 26, 3) := dq_180 (dq_suf 6 dt38cX11_make_0 rfl rfl) rfl
theorem dX11_make_9 : decode cX11_make 9 = .ok (.if_icmp .ge 45, 3) := dq_162 (dq_suf 9 dt38cX11_make_0 rfl rfl) (by decide +kernel)
theorem dX11_make_12 : decode cX11_make 12 = .ok (.aload_n 0, 1) := dq_42 (dq_suf 12 dt38cX11_make_0 rfl rfl)
theorem dX11_make_13 : decode cX11_make 13 = .ok (.getfield 16, 3) := dq_180 (dq_suf 13 dt38cX11_make_0 rfl rfl) rfl
theorem dX11_make_16 : decode cX11_make 16 = .ok (.iload 4, 2) := dq_21 (dq_suf 0 dt38cX11_make_1 rfl rfl) rfl
theorem dX11_make_18 : decode cX11_make 18 = .ok (.iaload, 1) := dq_46 (dq_suf 2 dt38cX11_make_1 rfl rfl)
theorem dX11_make_19 : decode cX11_make 19 = .ok (.iload_n 1, 1) := dq_27 (dq_suf 3 dt38cX11_make_1 rfl rfl)
theorem dX11_make_20 : decode cX11_make 20 = .ok (.if_icmp .ne 28, 3) := dq_160 (dq_suf 4 dt38cX11_make_1 rfl rfl) (by decide +kernel)
theorem dX11_make_23 : decode cX11_make 23 = .ok (.aload_n 0, 1) := dq_42 (dq_suf 7 dt38cX11_make_1 rfl rfl)
theorem dX11_make_24 : decode cX11_make 24 = .ok (.getfield 20, 3) := dq_180 (dq_suf 8 dt38cX11_make_1 rfl rfl) rfl
theorem dX11_make_27 : decode cX11_make 27 = .ok (.iload 4, 2) := dq_21 (dq_suf 11 dt38cX11_make_1 rfl rfl) rfl
theorem dX11_make_29 : decode cX11_make 29 = .ok (.iaload, 1) := dq_46 (dq_suf 13 dt38cX11_make_1 rfl rfl)
theorem dX11_make_30 : decode cX11_make 30 = .ok (.iload_n 2, 1) := dq_28 (dq_suf 14 dt38cX11_make_1 rfl rfl)
theorem dX11_make_31 : decode cX11_make 31 = .ok (.if_icmp .ne 17, 3) := dq_160 (dq_suf 15 dt38cX11_make_1 rfl rfl) (by decide +kernel)
theorem dX11_make_34 : decode cX11_make 34 = .ok (.aload_n 0, 1) := dq_42 (dq_suf 2 dt38cX11_make_2 rfl rfl)
theorem dX11_make_35 : decode cX11_make 35 = .ok (.getfield 23, 3) := dq_180 (dq_suf 3 dt38cX11_make_2 rfl rfl) rfl
theorem dX11_make_38 : decode cX11_make 38 = .ok (.iload 4, 2) := dq_21 (dq_suf 6 dt38cX11_make_2 rfl rfl) rfl
theorem dX11_make_40 : decode cX11_make 40 = .ok (.iaload, 1) := dq_46 (dq_suf 8 dt38cX11_make_2 rfl rfl)
theorem dX11_make_41 : decode cX11_make 41 = .ok (.iload_n 3, 1) := dq_29 (dq_suf 9 dt38cX11_make_2 rfl rfl)
theorem dX11_make_42 : decode cX11_make 42 = .ok (.if_icmp .ne 6, 3) := dq_160 (dq_suf 10 dt38cX11_make_2 rfl rfl) (by decide +kernel)
theorem dX11_make_45 : decode cX11_make 45 = .ok (.iload 4, 2) := dq_21 (dq_suf 13 dt38cX11_make_2 rfl rfl) rfl
theorem dX11_make_47 : decode cX11_make 47 = .ok (.ireturn, 1) := dq_172 (dq_suf 15 dt38cX11_make_2 rfl rfl)
theorem dX11_make_48 : decode cX11_make 48 = .ok (.iinc 4 1, 3) := dq_132 (dq_suf 0 dt38cX11_make_3 rfl rfl) rfl (by decide +kernel)
theorem dX11_make_51 : decode cX11_make 51 = .ok (.goto (-48), 3) := dq_167 (dq_suf 3 dt38cX11_make_3 rfl rfl) (by decide +kernel)
theorem dX11_make_54 : decode cX11_make 54 = .ok (.aload_n 0, 1) := dq_42 (dq_suf 6 dt38cX11_make_3 rfl rfl)
theorem dX11_make_55 : decode cX11_make 55 = .ok (.getfield 26, 3) := dq_180 (dq_suf 7 dt38cX11_make_3 rfl rfl) rfl
theorem dX11_make_58 : decode cX11_make 58 = .ok (.sipush 300, 3) := dq_17 (dq_suf 10 dt38cX11_make_3 rfl rfl) (by decide +kernel)
theorem dX11_make_61 : decode cX11_make 61 = .ok (.if_icmp .ne 10, 3) := dq_160 (dq_suf 13 dt38cX11_make_3 rfl rfl) (by decide +kernel)
theorem dX11_make_64 : decode cX11_make 64 = .ok (.aload_n 0, 1) := dq_42 (dq_suf 0 dt38cX11_make_4 rfl rfl)
theorem dX11_make_65 : decode cX11_make 65 = .ok (.iconst 1, 1) := dq_4 (dq_suf 1 dt38cX11_make_4 rfl rfl)
theorem dX11_make_66 : decode cX11_make 66 = .ok (.putfield 168, 3) := dq_181 (dq_suf 2 dt38cX11_make_4 rfl rfl) rfl
theorem dX11_make_69 : decode cX11_make 69 = .ok (.iconst 0, 1) := dq_3 (dq_suf 5 dt38cX11_make_4 rfl rfl)
theorem dX11_make_70 : decode cX11_make 70 = .ok (.ireturn, 1) := dq_172 (dq_suf 6 dt38cX11_make_4 rfl rfl)
theorem dX11_make_71 : decode cX11_make 71 = .ok (.aload_n 0, 1) := dq_42 (dq_suf 7 dt38cX11_make_4 rfl rfl)
theorem dX11_make_72 : decode cX11_make 72 = .ok (.getfield 16, 3) := dq_180 (dq_suf 8 dt38cX11_make_4 rfl rfl) rfl
theorem dX11_make_75 : decode cX11_make 75 = .ok (.aload_n 0, 1) := dq_42 (dq_suf 11 dt38cX11_make_4 rfl rfl)
theorem dX11_make_76 : decode cX11_make 76 = .ok (.getfield 26, 3) := dq_180 (dq_suf 12 dt38cX11_make_4 rfl rfl) rfl
theorem dX11_make_79 : decode cX11_make 79 = .ok (.iload_n 1, 1) := dq_27 (dq_suf 15 dt38cX11_make_4 rfl rfl)
theorem dX11_make_80 : decode cX11_make 80 = .ok (.iastore, 1) := dq_79 (dq_suf 0 dt38cX11_make_5 rfl rfl)
theorem dX11_make_81 : decode cX11_make 81 = .ok (.aload_n 0, 1) := dq_42 (dq_suf 1 dt38cX11_make_5 rfl rfl)
theorem dX11_make_82 : decode cX11_make 82 = .ok (.getfield 20, 3) := dq_180 (dq_suf 2 dt38cX11_make_5 rfl rfl) rfl
theorem dX11_make_85 : decode cX11_make 85 = .ok (.aload_n 0, 1) := dq_42 (dq_suf 5 dt38cX11_make_5 rfl rfl)
theorem dX11_make_86 : decode cX11_make 86 = .ok (.getfield 26, 3) := dq_180 (dq_suf 6 dt38cX11_make_5 rfl rfl) rfl
theorem dX11_make_89 : decode cX11_make 89 = .ok (.iload_n 2, 1) := dq_28 (dq_suf 9 dt38cX11_make_5 rfl rfl)
theorem dX11_make_90 : decode cX11_make 90 = .ok (.iastore, 1) := dq_79 (dq_suf 10 dt38cX11_make_5 rfl rfl)
theorem dX11_make_91 : decode cX11_make 91 = .ok (.aload_n 0, 1) := dq_42 (dq_suf 11 dt38cX11_make_5 rfl rfl)
theorem dX11_make_92 : decode cX11_make 92 = .ok (.getfield 23, 3) := dq_180 (dq_suf 12 dt38cX11_make_5 rfl rfl) rfl
theorem dX11_make_95 : decode cX11_make 95 = .ok (.aload_n 0, 1) := dq_42 (dq_suf 15 dt38cX11_make_5 rfl rfl)
theorem dX11_make_96 : decode cX11_make 96 = .ok (.getfield 26, 3) := dq_180 (dq_suf 0 dt38cX11_make_6 rfl rfl) rfl
theorem dX11_make_99 : decode cX11_make 99 = .ok (.iload_n 3, 1) := dq_29 (dq_suf 3 dt38cX11_make_6 rfl rfl)
theorem dX11_make_100 : decode cX11_make 100 = .ok (.iastore, 1) := dq_79 (dq_suf 4 dt38cX11_make_6 rfl rfl)
theorem dX11_make_101 : decode cX11_make 101 = .ok (.aload_n 0, 1) := dq_42 (dq_suf 5 dt38cX11_make_6 rfl rfl)
theorem dX11_make_102 : decode cX11_make 102 = .ok (.dup, 1) := dq_89 (dq_suf 6 dt38cX11_make_6 rfl rfl)
theorem dX11_make_103 : decode cX11_make 103 = .ok (.getfield 26, 3) := dq_180 (dq_suf 7 dt38cX11_make_6 rfl rfl) rfl
theorem dX11_make_106 : decode cX11_make 106 = .ok (.iconst 1, 1) := dq_4 (dq_suf 10 dt38cX11_make_6 rfl rfl)
theorem dX11_make_107 : decode cX11_make 107 = .ok (.iadd, 1) := dq_96 (dq_suf 11 dt38cX11_make_6 rfl rfl)
theorem dX11_make_108 : decode cX11_make 108 = .ok (.putfield 26, 3) := dq_181 (dq_suf 12 dt38cX11_make_6 rfl rfl) rfl
theorem dX11_make_111 : decode cX11_make 111 = .ok (.aload_n 0, 1) := dq_42 (dq_suf 15 dt38cX11_make_6 rfl rfl)
theorem dX11_make_112 : decode cX11_make 112 = .ok (.getfield 26, 3) := dq_180 (dq_suf 0 dt38cX11_make_7 rfl rfl) rfl
theorem dX11_make_115 : decode cX11_make 115 = .ok (.iconst 1, 1) := dq_4 (dq_suf 3 dt38cX11_make_7 rfl rfl)
theorem dX11_make_116 : decode cX11_make 116 = .ok (.isub, 1) := dq_100 (dq_suf 4 dt38cX11_make_7 rfl rfl)
theorem dX11_make_117 : decode cX11_make 117 = .ok (.ireturn, 1) := dq_172 (dq_suf 5 dt38cX11_make_7 rfl rfl)
noncomputable def ds38cX11_node_4 : List UInt8 := 4 :: 100 :: 172 :: []
noncomputable def ds38cX11_node_3 : List UInt8 := 2 :: 79 :: 42 :: 89 :: 180 :: 0 :: 172 :: 4 :: 96 :: 181 :: 0 :: 172 :: 42 :: 180 :: 0 :: 172 :: ds38cX11_node_4
noncomputable def ds38cX11_node_2 : List UInt8 := 0 :: 48 :: 42 :: 180 :: 0 :: 172 :: 2 :: 79 :: 42 :: 180 :: 0 :: 51 :: 42 :: 180 :: 0 :: 172 :: ds38cX11_node_3
noncomputable def ds38cX11_node_1 : List UInt8 := 0 :: 172 :: 28 :: 79 :: 42 :: 180 :: 0 :: 45 :: 42 :: 180 :: 0 :: 172 :: 29 :: 79 :: 42 :: 180 :: ds38cX11_node_2
noncomputable def ds38cX11_node_0 : List UInt8 := 42 :: 180 :: 0 :: 39 :: 42 :: 180 :: 0 :: 172 :: 27 :: 79 :: 42 :: 180 :: 0 :: 42 :: 42 :: 180 :: ds38cX11_node_1
theorem dt38cX11_node_0 : cX11_node.data.toList.drop 0 = ds38cX11_node_0 := by decide +kernel
theorem dt38cX11_node_1 : cX11_node.data.toList.drop 16 = ds38cX11_node_1 := dq_suf 16 dt38cX11_node_0 rfl rfl
theorem dt38cX11_node_2 : cX11_node.data.toList.drop 32 = ds38cX11_node_2 := dq_suf 16 dt38cX11_node_1 rfl rfl
theorem dt38cX11_node_3 : cX11_node.data.toList.drop 48 = ds38cX11_node_3 := dq_suf 16 dt38cX11_node_2 rfl rfl
theorem dt38cX11_node_4 : cX11_node.data.toList.drop 64 = ds38cX11_node_4 := dq_suf 16 dt38cX11_node_3 rfl rfl
theorem dX11_node_0 : decode cX11_node 0 = .ok (.aload_n 0, 1) := dq_42 (dq_suf 0 dt38cX11_node_0 rfl rfl)
theorem dX11_node_1 : decode cX11_node 1 = .ok (.getfield 39, 3) := dq_180 (dq_suf 1 dt38cX11_node_0 rfl rfl) rfl
theorem dX11_node_4 : decode cX11_node 4 = .ok (.aload_n 0, 1) := dq_42 (dq_suf 4 dt38cX11_node_0 rfl rfl)
theorem dX11_node_5 : decode cX11_node 5 = .ok (.getfield 172, 3) := dq_180 (dq_suf 5 dt38cX11_node_0 rfl rfl) rfl
theorem dX11_node_8 : decode cX11_node 8 = .ok (.iload_n 1, 1) := dq_27 (dq_suf 8 dt38cX11_node_0 rfl rfl)
theorem dX11_node_9 : decode cX11_node 9 = .ok (.iastore, 1) := dq_79 (dq_suf 9 dt38cX11_node_0 rfl rfl)
theorem dX11_node_10 : decode cX11_node 10 = .ok (.aload_n 0, 1) := dq_42 (dq_suf 10 dt38cX11_node_0 rfl rfl)
theorem dX11_node_11 : decode cX11_node 11 = .ok (.getfield 42, 3) := dq_180 (dq_suf 11 dt38cX11_node_0 rfl rfl) rfl
theorem dX11_node_14 : decode cX11_node 14 = .ok (.aload_n 0, 1) := dq_42 (dq_suf 14 dt38cX11_node_0 rfl rfl)
theorem dX11_node_15 : decode cX11_node 15 = .ok (.getfield 172, 3) := dq_180 (dq_suf 15 dt38cX11_node_0 rfl rfl) rfl
theorem dX11_node_18 : decode cX11_node 18 = .ok (.iload_n 2, 1) := dq_28 (dq_suf 2 dt38cX11_node_1 rfl rfl)
theorem dX11_node_19 : decode cX11_node 19 = .ok (.iastore, 1) := dq_79 (dq_suf 3 dt38cX11_node_1 rfl rfl)
theorem dX11_node_20 : decode cX11_node 20 = .ok (.aload_n 0, 1) := dq_42 (dq_suf 4 dt38cX11_node_1 rfl rfl)
theorem dX11_node_21 : decode cX11_node 21 = .ok (.getfield 45, 3) := dq_180 (dq_suf 5 dt38cX11_node_1 rfl rfl) rfl
theorem dX11_node_24 : decode cX11_node 24 = .ok (.aload_n 0, 1) := dq_42 (dq_suf 8 dt38cX11_node_1 rfl rfl)
theorem dX11_node_25 : decode cX11_node 25 = .ok (.getfield 172, 3) := dq_180 (dq_suf 9 dt38cX11_node_1 rfl rfl) rfl
theorem dX11_node_28 : decode cX11_node 28 = .ok (.iload_n 3, 1) := dq_29 (dq_suf 12 dt38cX11_node_1 rfl rfl)
theorem dX11_node_29 : decode cX11_node 29 = .ok (.iastore, 1) := dq_79 (dq_suf 13 dt38cX11_node_1 rfl rfl)
theorem dX11_node_30 : decode cX11_node 30 = .ok (.aload_n 0, 1) := dq_42 (dq_suf 14 dt38cX11_node_1 rfl rfl)
theorem dX11_node_31 : decode cX11_node 31 = .ok (.getfield 48, 3) := dq_180 (dq_suf 15 dt38cX11_node_1 rfl rfl) rfl
theorem dX11_node_34 : decode cX11_node 34 = .ok (.aload_n 0, 1) := dq_42 (dq_suf 2 dt38cX11_node_2 rfl rfl)
theorem dX11_node_35 : decode cX11_node 35 = .ok (.getfield 172, 3) := dq_180 (dq_suf 3 dt38cX11_node_2 rfl rfl) rfl
theorem dX11_node_38 : decode cX11_node 38 = .ok (.iconst (-1), 1) := dq_2 (dq_suf 6 dt38cX11_node_2 rfl rfl)
theorem dX11_node_39 : decode cX11_node 39 = .ok (.iastore, 1) := dq_79 (dq_suf 7 dt38cX11_node_2 rfl rfl)
theorem dX11_node_40 : decode cX11_node 40 = .ok (.aload_n 0, 1) := dq_42 (dq_suf 8 dt38cX11_node_2 rfl rfl)
theorem dX11_node_41 : decode cX11_node 41 = .ok (.getfield 51, 3) := dq_180 (dq_suf 9 dt38cX11_node_2 rfl rfl) rfl
theorem dX11_node_44 : decode cX11_node 44 = .ok (.aload_n 0, 1) := dq_42 (dq_suf 12 dt38cX11_node_2 rfl rfl)
theorem dX11_node_45 : decode cX11_node 45 = .ok (.getfield 172, 3) := dq_180 (dq_suf 13 dt38cX11_node_2 rfl rfl) rfl
theorem dX11_node_48 : decode cX11_node 48 = .ok (.iconst (-1), 1) := dq_2 (dq_suf 0 dt38cX11_node_3 rfl rfl)
theorem dX11_node_49 : decode cX11_node 49 = .ok (.iastore, 1) := dq_79 (dq_suf 1 dt38cX11_node_3 rfl rfl)
theorem dX11_node_50 : decode cX11_node 50 = .ok (.aload_n 0, 1) := dq_42 (dq_suf 2 dt38cX11_node_3 rfl rfl)
theorem dX11_node_51 : decode cX11_node 51 = .ok (.dup, 1) := dq_89 (dq_suf 3 dt38cX11_node_3 rfl rfl)
theorem dX11_node_52 : decode cX11_node 52 = .ok (.getfield 172, 3) := dq_180 (dq_suf 4 dt38cX11_node_3 rfl rfl) rfl
theorem dX11_node_55 : decode cX11_node 55 = .ok (.iconst 1, 1) := dq_4 (dq_suf 7 dt38cX11_node_3 rfl rfl)
theorem dX11_node_56 : decode cX11_node 56 = .ok (.iadd, 1) := dq_96 (dq_suf 8 dt38cX11_node_3 rfl rfl)
theorem dX11_node_57 : decode cX11_node 57 = .ok (.putfield 172, 3) := dq_181 (dq_suf 9 dt38cX11_node_3 rfl rfl) rfl
theorem dX11_node_60 : decode cX11_node 60 = .ok (.aload_n 0, 1) := dq_42 (dq_suf 12 dt38cX11_node_3 rfl rfl)
theorem dX11_node_61 : decode cX11_node 61 = .ok (.getfield 172, 3) := dq_180 (dq_suf 13 dt38cX11_node_3 rfl rfl) rfl
theorem dX11_node_64 : decode cX11_node 64 = .ok (.iconst 1, 1) := dq_4 (dq_suf 0 dt38cX11_node_4 rfl rfl)
theorem dX11_node_65 : decode cX11_node 65 = .ok (.isub, 1) := dq_100 (dq_suf 1 dt38cX11_node_4 rfl rfl)
theorem dX11_node_66 : decode cX11_node 66 = .ok (.ireturn, 1) := dq_172 (dq_suf 2 dt38cX11_node_4 rfl rfl)
noncomputable def ds38cX11_see_5 : List UInt8 := 172 :: []
noncomputable def ds38cX11_see_4 : List UInt8 := 180 :: 0 :: 7 :: 42 :: 180 :: 0 :: 175 :: 51 :: 17 :: 0 :: 255 :: 126 :: 167 :: 0 :: 4 :: 2 :: ds38cX11_see_5
noncomputable def ds38cX11_see_3 : List UInt8 := 175 :: 167 :: 255 :: 207 :: 42 :: 180 :: 0 :: 175 :: 42 :: 180 :: 0 :: 178 :: 162 :: 0 :: 19 :: 42 :: ds38cX11_see_4
noncomputable def ds38cX11_see_2 : List UInt8 := 175 :: 51 :: 16 :: 10 :: 160 :: 0 :: 16 :: 42 :: 89 :: 180 :: 0 :: 175 :: 4 :: 96 :: 181 :: 0 :: ds38cX11_see_3
noncomputable def ds38cX11_see_1 : List UInt8 := 180 :: 0 :: 175 :: 51 :: 16 :: 32 :: 159 :: 0 :: 17 :: 42 :: 180 :: 0 :: 7 :: 42 :: 180 :: 0 :: ds38cX11_see_2
noncomputable def ds38cX11_see_0 : List UInt8 := 42 :: 180 :: 0 :: 175 :: 42 :: 180 :: 0 :: 178 :: 162 :: 0 :: 44 :: 42 :: 180 :: 0 :: 7 :: 42 :: ds38cX11_see_1
theorem dt38cX11_see_0 : cX11_see.data.toList.drop 0 = ds38cX11_see_0 := by decide +kernel
theorem dt38cX11_see_1 : cX11_see.data.toList.drop 16 = ds38cX11_see_1 := dq_suf 16 dt38cX11_see_0 rfl rfl
theorem dt38cX11_see_2 : cX11_see.data.toList.drop 32 = ds38cX11_see_2 := dq_suf 16 dt38cX11_see_1 rfl rfl
theorem dt38cX11_see_3 : cX11_see.data.toList.drop 48 = ds38cX11_see_3 := dq_suf 16 dt38cX11_see_2 rfl rfl
theorem dt38cX11_see_4 : cX11_see.data.toList.drop 64 = ds38cX11_see_4 := dq_suf 16 dt38cX11_see_3 rfl rfl
theorem dt38cX11_see_5 : cX11_see.data.toList.drop 80 = ds38cX11_see_5 := dq_suf 16 dt38cX11_see_4 rfl rfl
theorem dX11_see_0 : decode cX11_see 0 = .ok (.aload_n 0, 1) := dq_42 (dq_suf 0 dt38cX11_see_0 rfl rfl)
theorem dX11_see_1 : decode cX11_see 1 = .ok (.getfield 175, 3) := dq_180 (dq_suf 1 dt38cX11_see_0 rfl rfl) rfl
theorem dX11_see_4 : decode cX11_see 4 = .ok (.aload_n 0, 1) := dq_42 (dq_suf 4 dt38cX11_see_0 rfl rfl)
theorem dX11_see_5 : decode cX11_see 5 = .ok (.getfield 178, 3) := dq_180 (dq_suf 5 dt38cX11_see_0 rfl rfl) rfl
theorem dX11_see_8 : decode cX11_see 8 = .ok (.if_icmp .ge 44, 3) := dq_162 (dq_suf 8 dt38cX11_see_0 rfl rfl) (by decide +kernel)
theorem dX11_see_11 : decode cX11_see 11 = .ok (.aload_n 0, 1) := dq_42 (dq_suf 11 dt38cX11_see_0 rfl rfl)
theorem dX11_see_12 : decode cX11_see 12 = .ok (.getfield 7, 3) := dq_180 (dq_suf 12 dt38cX11_see_0 rfl rfl) rfl
theorem dX11_see_15 : decode cX11_see 15 = .ok (.aload_n 0, 1) := dq_42 (dq_suf 15 dt38cX11_see_0 rfl rfl)
theorem dX11_see_16 : decode cX11_see 16 = .ok (.getfield 175, 3) := dq_180 (dq_suf 0 dt38cX11_see_1 rfl rfl) rfl
theorem dX11_see_19 : decode cX11_see 19 = .ok (.baload, 1) := dq_51 (dq_suf 3 dt38cX11_see_1 rfl rfl)
theorem dX11_see_20 : decode cX11_see 20 = .ok (.bipush 32, 2) := dq_16 (dq_suf 4 dt38cX11_see_1 rfl rfl) (by decide +kernel)
theorem dX11_see_22 : decode cX11_see 22 = .ok (.if_icmp .eq 17, 3) := dq_159 (dq_suf 6 dt38cX11_see_1 rfl rfl) (by decide +kernel)
theorem dX11_see_25 : decode cX11_see 25 = .ok (.aload_n 0, 1) := dq_42 (dq_suf 9 dt38cX11_see_1 rfl rfl)
theorem dX11_see_26 : decode cX11_see 26 = .ok (.getfield 7, 3) := dq_180 (dq_suf 10 dt38cX11_see_1 rfl rfl) rfl
theorem dX11_see_29 : decode cX11_see 29 = .ok (.aload_n 0, 1) := dq_42 (dq_suf 13 dt38cX11_see_1 rfl rfl)
theorem dX11_see_30 : decode cX11_see 30 = .ok (.getfield 175, 3) := dq_180 (dq_suf 14 dt38cX11_see_1 rfl rfl) rfl
theorem dX11_see_33 : decode cX11_see 33 = .ok (.baload, 1) := dq_51 (dq_suf 1 dt38cX11_see_2 rfl rfl)
theorem dX11_see_34 : decode cX11_see 34 = .ok (.bipush 10, 2) := dq_16 (dq_suf 2 dt38cX11_see_2 rfl rfl) (by decide +kernel)
theorem dX11_see_36 : decode cX11_see 36 = .ok (.if_icmp .ne 16, 3) := dq_160 (dq_suf 4 dt38cX11_see_2 rfl rfl) (by decide +kernel)
theorem dX11_see_39 : decode cX11_see 39 = .ok (.aload_n 0, 1) := dq_42 (dq_suf 7 dt38cX11_see_2 rfl rfl)
theorem dX11_see_40 : decode cX11_see 40 = .ok (.dup, 1) := dq_89 (dq_suf 8 dt38cX11_see_2 rfl rfl)
theorem dX11_see_41 : decode cX11_see 41 = .ok (.getfield 175, 3) := dq_180 (dq_suf 9 dt38cX11_see_2 rfl rfl) rfl
theorem dX11_see_44 : decode cX11_see 44 = .ok (.iconst 1, 1) := dq_4 (dq_suf 12 dt38cX11_see_2 rfl rfl)
theorem dX11_see_45 : decode cX11_see 45 = .ok (.iadd, 1) := dq_96 (dq_suf 13 dt38cX11_see_2 rfl rfl)
theorem dX11_see_46 : decode cX11_see 46 = .ok (.putfield 175, 3) := dq_181 (dq_suf 14 dt38cX11_see_2 rfl rfl) rfl
theorem dX11_see_49 : decode cX11_see 49 = .ok (.goto (-49), 3) := dq_167 (dq_suf 1 dt38cX11_see_3 rfl rfl) (by decide +kernel)
theorem dX11_see_52 : decode cX11_see 52 = .ok (.aload_n 0, 1) := dq_42 (dq_suf 4 dt38cX11_see_3 rfl rfl)
theorem dX11_see_53 : decode cX11_see 53 = .ok (.getfield 175, 3) := dq_180 (dq_suf 5 dt38cX11_see_3 rfl rfl) rfl
theorem dX11_see_56 : decode cX11_see 56 = .ok (.aload_n 0, 1) := dq_42 (dq_suf 8 dt38cX11_see_3 rfl rfl)
theorem dX11_see_57 : decode cX11_see 57 = .ok (.getfield 178, 3) := dq_180 (dq_suf 9 dt38cX11_see_3 rfl rfl) rfl
theorem dX11_see_60 : decode cX11_see 60 = .ok (.if_icmp .ge 19, 3) := dq_162 (dq_suf 12 dt38cX11_see_3 rfl rfl) (by decide +kernel)
theorem dX11_see_63 : decode cX11_see 63 = .ok (.aload_n 0, 1) := dq_42 (dq_suf 15 dt38cX11_see_3 rfl rfl)
theorem dX11_see_64 : decode cX11_see 64 = .ok (.getfield 7, 3) := dq_180 (dq_suf 0 dt38cX11_see_4 rfl rfl) rfl
theorem dX11_see_67 : decode cX11_see 67 = .ok (.aload_n 0, 1) := dq_42 (dq_suf 3 dt38cX11_see_4 rfl rfl)
theorem dX11_see_68 : decode cX11_see 68 = .ok (.getfield 175, 3) := dq_180 (dq_suf 4 dt38cX11_see_4 rfl rfl) rfl
theorem dX11_see_71 : decode cX11_see 71 = .ok (.baload, 1) := dq_51 (dq_suf 7 dt38cX11_see_4 rfl rfl)
theorem dX11_see_72 : decode cX11_see 72 = .ok (.sipush 255, 3) := dq_17 (dq_suf 8 dt38cX11_see_4 rfl rfl) (by decide +kernel)
theorem dX11_see_75 : decode cX11_see 75 = .ok (.iand, 1) := dq_126 (dq_suf 11 dt38cX11_see_4 rfl rfl)
theorem dX11_see_76 : decode cX11_see 76 = .ok (.goto 4, 3) := dq_167 (dq_suf 12 dt38cX11_see_4 rfl rfl) (by decide +kernel)
theorem dX11_see_79 : decode cX11_see 79 = .ok (.iconst (-1), 1) := dq_2 (dq_suf 15 dt38cX11_see_4 rfl rfl)
theorem dX11_see_80 : decode cX11_see 80 = .ok (.ireturn, 1) := dq_172 (dq_suf 0 dt38cX11_see_5 rfl rfl)
noncomputable def ds38cX11_wrong_1 : List UInt8 := 175 :: 181 :: 0 :: 184 :: 3 :: 172 :: []
noncomputable def ds38cX11_wrong_0 : List UInt8 := 42 :: 180 :: 0 :: 181 :: 154 :: 0 :: 16 :: 42 :: 27 :: 181 :: 0 :: 181 :: 42 :: 42 :: 180 :: 0 :: ds38cX11_wrong_1
theorem dt38cX11_wrong_0 : cX11_wrong.data.toList.drop 0 = ds38cX11_wrong_0 := by decide +kernel
theorem dt38cX11_wrong_1 : cX11_wrong.data.toList.drop 16 = ds38cX11_wrong_1 := dq_suf 16 dt38cX11_wrong_0 rfl rfl
theorem dX11_wrong_0 : decode cX11_wrong 0 = .ok (.aload_n 0, 1) := dq_42 (dq_suf 0 dt38cX11_wrong_0 rfl rfl)
theorem dX11_wrong_1 : decode cX11_wrong 1 = .ok (.getfield 181, 3) := dq_180 (dq_suf 1 dt38cX11_wrong_0 rfl rfl) rfl
theorem dX11_wrong_4 : decode cX11_wrong 4 = .ok (.ifCond .ne 16, 3) := dq_154 (dq_suf 4 dt38cX11_wrong_0 rfl rfl) (by decide +kernel)
theorem dX11_wrong_7 : decode cX11_wrong 7 = .ok (.aload_n 0, 1) := dq_42 (dq_suf 7 dt38cX11_wrong_0 rfl rfl)
theorem dX11_wrong_8 : decode cX11_wrong 8 = .ok (.iload_n 1, 1) := dq_27 (dq_suf 8 dt38cX11_wrong_0 rfl rfl)
theorem dX11_wrong_9 : decode cX11_wrong 9 = .ok (.putfield 181, 3) := dq_181 (dq_suf 9 dt38cX11_wrong_0 rfl rfl) rfl
theorem dX11_wrong_12 : decode cX11_wrong 12 = .ok (.aload_n 0, 1) := dq_42 (dq_suf 12 dt38cX11_wrong_0 rfl rfl)
theorem dX11_wrong_13 : decode cX11_wrong 13 = .ok (.aload_n 0, 1) := dq_42 (dq_suf 13 dt38cX11_wrong_0 rfl rfl)
theorem dX11_wrong_14 : decode cX11_wrong 14 = .ok (.getfield 175, 3) := dq_180 (dq_suf 14 dt38cX11_wrong_0 rfl rfl) rfl
theorem dX11_wrong_17 : decode cX11_wrong 17 = .ok (.putfield 184, 3) := dq_181 (dq_suf 1 dt38cX11_wrong_1 rfl rfl) rfl
theorem dX11_wrong_20 : decode cX11_wrong 20 = .ok (.iconst 0, 1) := dq_3 (dq_suf 4 dt38cX11_wrong_1 rfl rfl)
theorem dX11_wrong_21 : decode cX11_wrong 21 = .ok (.ireturn, 1) := dq_172 (dq_suf 5 dt38cX11_wrong_1 rfl rfl)
noncomputable def ds38cX11_box_1 : List UInt8 := 182 :: 0 :: 190 :: 172 :: []
noncomputable def ds38cX11_box_0 : List UInt8 := 42 :: 180 :: 0 :: 187 :: 153 :: 0 :: 7 :: 27 :: 167 :: 0 :: 11 :: 42 :: 16 :: 8 :: 27 :: 2 :: ds38cX11_box_1
theorem dt38cX11_box_0 : cX11_box.data.toList.drop 0 = ds38cX11_box_0 := by decide +kernel
theorem dt38cX11_box_1 : cX11_box.data.toList.drop 16 = ds38cX11_box_1 := dq_suf 16 dt38cX11_box_0 rfl rfl
theorem dX11_box_0 : decode cX11_box 0 = .ok (.aload_n 0, 1) := dq_42 (dq_suf 0 dt38cX11_box_0 rfl rfl)
theorem dX11_box_1 : decode cX11_box 1 = .ok (.getfield 187, 3) := dq_180 (dq_suf 1 dt38cX11_box_0 rfl rfl) rfl
theorem dX11_box_4 : decode cX11_box 4 = .ok (.ifCond .eq 7, 3) := dq_153 (dq_suf 4 dt38cX11_box_0 rfl rfl) (by decide +kernel)
theorem dX11_box_7 : decode cX11_box 7 = .ok (.iload_n 1, 1) := dq_27 (dq_suf 7 dt38cX11_box_0 rfl rfl)
theorem dX11_box_8 : decode cX11_box 8 = .ok (.goto 11, 3) := dq_167 (dq_suf 8 dt38cX11_box_0 rfl rfl) (by decide +kernel)
theorem dX11_box_11 : decode cX11_box 11 = .ok (.aload_n 0, 1) := dq_42 (dq_suf 11 dt38cX11_box_0 rfl rfl)
theorem dX11_box_12 : decode cX11_box 12 = .ok (.bipush 8, 2) := dq_16 (dq_suf 12 dt38cX11_box_0 rfl rfl) (by decide +kernel)
theorem dX11_box_14 : decode cX11_box 14 = .ok (.iload_n 1, 1) := dq_27 (dq_suf 14 dt38cX11_box_0 rfl rfl)
theorem dX11_box_15 : decode cX11_box 15 = .ok (.iconst (-1), 1) := dq_2 (dq_suf 15 dt38cX11_box_0 rfl rfl)
theorem dX11_box_16 : decode cX11_box 16 = .ok (.invokevirtual 190, 3) := dq_182 (dq_suf 0 dt38cX11_box_1 rfl rfl) rfl
theorem dX11_box_19 : decode cX11_box 19 = .ok (.ireturn, 1) := dq_172 (dq_suf 3 dt38cX11_box_1 rfl rfl)
noncomputable def ds38cX11_joins_10 : List UInt8 := 190 :: 60 :: 42 :: 180 :: 0 :: 54 :: 42 :: 180 :: 0 :: 197 :: 4 :: 100 :: 27 :: 79 :: 177 :: []
noncomputable def ds38cX11_joins_9 : List UInt8 := 0 :: 200 :: 42 :: 42 :: 16 :: 6 :: 28 :: 27 :: 182 :: 0 :: 190 :: 182 :: 0 :: 200 :: 182 :: 0 :: ds38cX11_joins_10
noncomputable def ds38cX11_joins_8 : List UInt8 := 190 :: 167 :: 0 :: 32 :: 42 :: 7 :: 42 :: 42 :: 16 :: 6 :: 27 :: 28 :: 182 :: 0 :: 190 :: 182 :: ds38cX11_joins_9
noncomputable def ds38cX11_joins_7 : List UInt8 := 0 :: 51 :: 42 :: 180 :: 0 :: 187 :: 153 :: 0 :: 14 :: 42 :: 16 :: 7 :: 27 :: 28 :: 182 :: 0 :: ds38cX11_joins_8
noncomputable def ds38cX11_joins_6 : List UInt8 := 0 :: 67 :: 42 :: 42 :: 16 :: 6 :: 27 :: 28 :: 182 :: 0 :: 190 :: 182 :: 0 :: 200 :: 60 :: 167 :: ds38cX11_joins_7
noncomputable def ds38cX11_joins_5 : List UInt8 := 182 :: 0 :: 190 :: 60 :: 167 :: 0 :: 78 :: 42 :: 8 :: 27 :: 28 :: 182 :: 0 :: 190 :: 60 :: 167 :: ds38cX11_joins_6
noncomputable def ds38cX11_joins_4 : List UInt8 := 0 :: 0 :: 0 :: 47 :: 0 :: 0 :: 0 :: 36 :: 0 :: 0 :: 0 :: 25 :: 42 :: 7 :: 27 :: 28 :: ds38cX11_joins_5
noncomputable def ds38cX11_joins_3 : List UInt8 := 0 :: 194 :: 46 :: 170 :: 0 :: 0 :: 0 :: 63 :: 0 :: 0 :: 0 :: 5 :: 0 :: 0 :: 0 :: 7 :: ds38cX11_joins_4
noncomputable def ds38cX11_joins_2 : List UInt8 := 42 :: 180 :: 0 :: 54 :: 42 :: 180 :: 0 :: 197 :: 46 :: 61 :: 42 :: 180 :: 0 :: 57 :: 42 :: 180 :: ds38cX11_joins_3
noncomputable def ds38cX11_joins_1 : List UInt8 := 100 :: 181 :: 0 :: 197 :: 42 :: 180 :: 0 :: 54 :: 42 :: 180 :: 0 :: 197 :: 4 :: 100 :: 46 :: 60 :: ds38cX11_joins_2
noncomputable def ds38cX11_joins_0 : List UInt8 := 42 :: 89 :: 180 :: 0 :: 194 :: 4 :: 100 :: 181 :: 0 :: 194 :: 42 :: 89 :: 180 :: 0 :: 197 :: 4 :: ds38cX11_joins_1
theorem dt38cX11_joins_0 : cX11_joins.data.toList.drop 0 = ds38cX11_joins_0 := by decide +kernel
theorem dt38cX11_joins_1 : cX11_joins.data.toList.drop 16 = ds38cX11_joins_1 := dq_suf 16 dt38cX11_joins_0 rfl rfl
theorem dt38cX11_joins_2 : cX11_joins.data.toList.drop 32 = ds38cX11_joins_2 := dq_suf 16 dt38cX11_joins_1 rfl rfl
theorem dt38cX11_joins_3 : cX11_joins.data.toList.drop 48 = ds38cX11_joins_3 := dq_suf 16 dt38cX11_joins_2 rfl rfl
theorem dt38cX11_joins_4 : cX11_joins.data.toList.drop 64 = ds38cX11_joins_4 := dq_suf 16 dt38cX11_joins_3 rfl rfl
theorem dt38cX11_joins_5 : cX11_joins.data.toList.drop 80 = ds38cX11_joins_5 := dq_suf 16 dt38cX11_joins_4 rfl rfl
theorem dt38cX11_joins_6 : cX11_joins.data.toList.drop 96 = ds38cX11_joins_6 := dq_suf 16 dt38cX11_joins_5 rfl rfl
theorem dt38cX11_joins_7 : cX11_joins.data.toList.drop 112 = ds38cX11_joins_7 := dq_suf 16 dt38cX11_joins_6 rfl rfl
theorem dt38cX11_joins_8 : cX11_joins.data.toList.drop 128 = ds38cX11_joins_8 := dq_suf 16 dt38cX11_joins_7 rfl rfl
theorem dt38cX11_joins_9 : cX11_joins.data.toList.drop 144 = ds38cX11_joins_9 := dq_suf 16 dt38cX11_joins_8 rfl rfl
theorem dt38cX11_joins_10 : cX11_joins.data.toList.drop 160 = ds38cX11_joins_10 := dq_suf 16 dt38cX11_joins_9 rfl rfl
theorem dX11_joins_0 : decode cX11_joins 0 = .ok (.aload_n 0, 1) := dq_42 (dq_suf 0 dt38cX11_joins_0 rfl rfl)
theorem dX11_joins_1 : decode cX11_joins 1 = .ok (.dup, 1) := dq_89 (dq_suf 1 dt38cX11_joins_0 rfl rfl)
theorem dX11_joins_2 : decode cX11_joins 2 = .ok (.getfield 194, 3) := dq_180 (dq_suf 2 dt38cX11_joins_0 rfl rfl) rfl
theorem dX11_joins_5 : decode cX11_joins 5 = .ok (.iconst 1, 1) := dq_4 (dq_suf 5 dt38cX11_joins_0 rfl rfl)
theorem dX11_joins_6 : decode cX11_joins 6 = .ok (.isub, 1) := dq_100 (dq_suf 6 dt38cX11_joins_0 rfl rfl)
theorem dX11_joins_7 : decode cX11_joins 7 = .ok (.putfield 194, 3) := dq_181 (dq_suf 7 dt38cX11_joins_0 rfl rfl) rfl
theorem dX11_joins_10 : decode cX11_joins 10 = .ok (.aload_n 0, 1) := dq_42 (dq_suf 10 dt38cX11_joins_0 rfl rfl)
theorem dX11_joins_11 : decode cX11_joins 11 = .ok (.dup, 1) := dq_89 (dq_suf 11 dt38cX11_joins_0 rfl rfl)
theorem dX11_joins_12 : decode cX11_joins 12 = .ok (.getfield 197, 3) := dq_180 (dq_suf 12 dt38cX11_joins_0 rfl rfl) rfl
theorem dX11_joins_15 : decode cX11_joins 15 = .ok (.iconst 1, 1) := dq_4 (dq_suf 15 dt38cX11_joins_0 rfl rfl)
theorem dX11_joins_16 : decode cX11_joins 16 = .ok (.isub, 1) := dq_100 (dq_suf 0 dt38cX11_joins_1 rfl rfl)
theorem dX11_joins_17 : decode cX11_joins 17 = .ok (.putfield 197, 3) := dq_181 (dq_suf 1 dt38cX11_joins_1 rfl rfl) rfl
theorem dX11_joins_20 : decode cX11_joins 20 = .ok (.aload_n 0, 1) := dq_42 (dq_suf 4 dt38cX11_joins_1 rfl rfl)
theorem dX11_joins_21 : decode cX11_joins 21 = .ok (.getfield 54, 3) := dq_180 (dq_suf 5 dt38cX11_joins_1 rfl rfl) rfl
theorem dX11_joins_24 : decode cX11_joins 24 = .ok (.aload_n 0, 1) := dq_42 (dq_suf 8 dt38cX11_joins_1 rfl rfl)
theorem dX11_joins_25 : decode cX11_joins 25 = .ok (.getfield 197, 3) := dq_180 (dq_suf 9 dt38cX11_joins_1 rfl rfl) rfl
theorem dX11_joins_28 : decode cX11_joins 28 = .ok (.iconst 1, 1) := dq_4 (dq_suf 12 dt38cX11_joins_1 rfl rfl)
theorem dX11_joins_29 : decode cX11_joins 29 = .ok (.isub, 1) := dq_100 (dq_suf 13 dt38cX11_joins_1 rfl rfl)
theorem dX11_joins_30 : decode cX11_joins 30 = .ok (.iaload, 1) := dq_46 (dq_suf 14 dt38cX11_joins_1 rfl rfl)
theorem dX11_joins_31 : decode cX11_joins 31 = .ok (.istore_n 1, 1) := dq_60 (dq_suf 15 dt38cX11_joins_1 rfl rfl)
theorem dX11_joins_32 : decode cX11_joins 32 = .ok (.aload_n 0, 1) := dq_42 (dq_suf 0 dt38cX11_joins_2 rfl rfl)
theorem dX11_joins_33 : decode cX11_joins 33 = .ok (.getfield 54, 3) := dq_180 (dq_suf 1 dt38cX11_joins_2 rfl rfl) rfl
theorem dX11_joins_36 : decode cX11_joins 36 = .ok (.aload_n 0, 1) := dq_42 (dq_suf 4 dt38cX11_joins_2 rfl rfl)
theorem dX11_joins_37 : decode cX11_joins 37 = .ok (.getfield 197, 3) := dq_180 (dq_suf 5 dt38cX11_joins_2 rfl rfl) rfl
theorem dX11_joins_40 : decode cX11_joins 40 = .ok (.iaload, 1) := dq_46 (dq_suf 8 dt38cX11_joins_2 rfl rfl)
theorem dX11_joins_41 : decode cX11_joins 41 = .ok (.istore_n 2, 1) := dq_61 (dq_suf 9 dt38cX11_joins_2 rfl rfl)
theorem dX11_joins_42 : decode cX11_joins 42 = .ok (.aload_n 0, 1) := dq_42 (dq_suf 10 dt38cX11_joins_2 rfl rfl)
theorem dX11_joins_43 : decode cX11_joins 43 = .ok (.getfield 57, 3) := dq_180 (dq_suf 11 dt38cX11_joins_2 rfl rfl) rfl
theorem dX11_joins_46 : decode cX11_joins 46 = .ok (.aload_n 0, 1) := dq_42 (dq_suf 14 dt38cX11_joins_2 rfl rfl)
theorem dX11_joins_47 : decode cX11_joins 47 = .ok (.getfield 194, 3) := dq_180 (dq_suf 15 dt38cX11_joins_2 rfl rfl) rfl
theorem dX11_joins_50 : decode cX11_joins 50 = .ok (.iaload, 1) := dq_46 (dq_suf 2 dt38cX11_joins_3 rfl rfl)
theorem dX11_joins_51 : decode cX11_joins 51 = .ok (.tableswitch 63 5 7 #[47, 36, 25], 25) := by decide +kernel
theorem dX11_joins_76 : decode cX11_joins 76 = .ok (.aload_n 0, 1) := dq_42 (dq_suf 12 dt38cX11_joins_4 rfl rfl)
theorem dX11_joins_77 : decode cX11_joins 77 = .ok (.iconst 4, 1) := dq_7 (dq_suf 13 dt38cX11_joins_4 rfl rfl)
theorem dX11_joins_78 : decode cX11_joins 78 = .ok (.iload_n 1, 1) := dq_27 (dq_suf 14 dt38cX11_joins_4 rfl rfl)
theorem dX11_joins_79 : decode cX11_joins 79 = .ok (.iload_n 2, 1) := dq_28 (dq_suf 15 dt38cX11_joins_4 rfl rfl)
theorem dX11_joins_80 : decode cX11_joins 80 = .ok (.invokevirtual 190, 3) := dq_182 (dq_suf 0 dt38cX11_joins_5 rfl rfl) rfl
theorem dX11_joins_83 : decode cX11_joins 83 = .ok (.istore_n 1, 1) := dq_60 (dq_suf 3 dt38cX11_joins_5 rfl rfl)
theorem dX11_joins_84 : decode cX11_joins 84 = .ok (.goto 78, 3) := dq_167 (dq_suf 4 dt38cX11_joins_5 rfl rfl) (by decide +kernel)
theorem dX11_joins_87 : decode cX11_joins 87 = .ok (.aload_n 0, 1) := dq_42 (dq_suf 7 dt38cX11_joins_5 rfl rfl)
theorem dX11_joins_88 : decode cX11_joins 88 = .ok (.iconst 5, 1) := dq_8 (dq_suf 8 dt38cX11_joins_5 rfl rfl)
theorem dX11_joins_89 : decode cX11_joins 89 = .ok (.iload_n 1, 1) := dq_27 (dq_suf 9 dt38cX11_joins_5 rfl rfl)
theorem dX11_joins_90 : decode cX11_joins 90 = .ok (.iload_n 2, 1) := dq_28 (dq_suf 10 dt38cX11_joins_5 rfl rfl)
theorem dX11_joins_91 : decode cX11_joins 91 = .ok (.invokevirtual 190, 3) := dq_182 (dq_suf 11 dt38cX11_joins_5 rfl rfl) rfl
theorem dX11_joins_94 : decode cX11_joins 94 = .ok (.istore_n 1, 1) := dq_60 (dq_suf 14 dt38cX11_joins_5 rfl rfl)
theorem dX11_joins_95 : decode cX11_joins 95 = .ok (.goto 67, 3) := dq_167 (dq_suf 15 dt38cX11_joins_5 rfl rfl) (by decide +kernel)
theorem dX11_joins_98 : decode cX11_joins 98 = .ok (.aload_n 0, 1) := dq_42 (dq_suf 2 dt38cX11_joins_6 rfl rfl)
theorem dX11_joins_99 : decode cX11_joins 99 = .ok (.aload_n 0, 1) := dq_42 (dq_suf 3 dt38cX11_joins_6 rfl rfl)
theorem dX11_joins_100 : decode cX11_joins 100 = .ok (.bipush 6, 2) := dq_16 (dq_suf 4 dt38cX11_joins_6 rfl rfl) (by decide +kernel)
theorem dX11_joins_102 : decode cX11_joins 102 = .ok (.iload_n 1, 1) := dq_27 (dq_suf 6 dt38cX11_joins_6 rfl rfl)
theorem dX11_joins_103 : decode cX11_joins 103 = .ok (.iload_n 2, 1) := dq_28 (dq_suf 7 dt38cX11_joins_6 rfl rfl)
theorem dX11_joins_104 : decode cX11_joins 104 = .ok (.invokevirtual 190, 3) := dq_182 (dq_suf 8 dt38cX11_joins_6 rfl rfl) rfl
theorem dX11_joins_107 : decode cX11_joins 107 = .ok (.invokevirtual 200, 3) := dq_182 (dq_suf 11 dt38cX11_joins_6 rfl rfl) rfl
theorem dX11_joins_110 : decode cX11_joins 110 = .ok (.istore_n 1, 1) := dq_60 (dq_suf 14 dt38cX11_joins_6 rfl rfl)
theorem dX11_joins_111 : decode cX11_joins 111 = .ok (.goto 51, 3) := dq_167 (dq_suf 15 dt38cX11_joins_6 rfl rfl) (by decide +kernel)
theorem dX11_joins_114 : decode cX11_joins 114 = .ok (.aload_n 0, 1) := dq_42 (dq_suf 2 dt38cX11_joins_7 rfl rfl)
theorem dX11_joins_115 : decode cX11_joins 115 = .ok (.getfield 187, 3) := dq_180 (dq_suf 3 dt38cX11_joins_7 rfl rfl) rfl
theorem dX11_joins_118 : decode cX11_joins 118 = .ok (.ifCond .eq 14, 3) := dq_153 (dq_suf 6 dt38cX11_joins_7 rfl rfl) (by decide +kernel)
theorem dX11_joins_121 : decode cX11_joins 121 = .ok (.aload_n 0, 1) := dq_42 (dq_suf 9 dt38cX11_joins_7 rfl rfl)
theorem dX11_joins_122 : decode cX11_joins 122 = .ok (.bipush 7, 2) := dq_16 (dq_suf 10 dt38cX11_joins_7 rfl rfl) (by decide +kernel)
theorem dX11_joins_124 : decode cX11_joins 124 = .ok (.iload_n 1, 1) := dq_27 (dq_suf 12 dt38cX11_joins_7 rfl rfl)
theorem dX11_joins_125 : decode cX11_joins 125 = .ok (.iload_n 2, 1) := dq_28 (dq_suf 13 dt38cX11_joins_7 rfl rfl)
theorem dX11_joins_126 : decode cX11_joins 126 = .ok (.invokevirtual 190, 3) := dq_182 (dq_suf 14 dt38cX11_joins_7 rfl rfl) rfl
theorem dX11_joins_129 : decode cX11_joins 129 = .ok (.goto 32, 3) := dq_167 (dq_suf 1 dt38cX11_joins_8 rfl rfl) (by decide +kernel)
theorem dX11_joins_132 : decode cX11_joins 132 = .ok (.aload_n 0, 1) := dq_42 (dq_suf 4 dt38cX11_joins_8 rfl rfl)
theorem dX11_joins_133 : decode cX11_joins 133 = .ok (.iconst 4, 1) := dq_7 (dq_suf 5 dt38cX11_joins_8 rfl rfl)
theorem dX11_joins_134 : decode cX11_joins 134 = .ok (.aload_n 0, 1) := dq_42 (dq_suf 6 dt38cX11_joins_8 rfl rfl)
theorem dX11_joins_135 : decode cX11_joins 135 = .ok (.aload_n 0, 1) := dq_42 (dq_suf 7 dt38cX11_joins_8 rfl rfl)
theorem dX11_joins_136 : decode cX11_joins 136 = .ok (.bipush 6, 2) := dq_16 (dq_suf 8 dt38cX11_joins_8 rfl rfl) (by decide +kernel)
theorem dX11_joins_138 : decode cX11_joins 138 = .ok (.iload_n 1, 1) := dq_27 (dq_suf 10 dt38cX11_joins_8 rfl rfl)
theorem dX11_joins_139 : decode cX11_joins 139 = .ok (.iload_n 2, 1) := dq_28 (dq_suf 11 dt38cX11_joins_8 rfl rfl)
theorem dX11_joins_140 : decode cX11_joins 140 = .ok (.invokevirtual 190, 3) := dq_182 (dq_suf 12 dt38cX11_joins_8 rfl rfl) rfl
theorem dX11_joins_143 : decode cX11_joins 143 = .ok (.invokevirtual 200, 3) := dq_182 (dq_suf 15 dt38cX11_joins_8 rfl rfl) rfl
theorem dX11_joins_146 : decode cX11_joins 146 = .ok (.aload_n 0, 1) := dq_42 (dq_suf 2 dt38cX11_joins_9 rfl rfl)
theorem dX11_joins_147 : decode cX11_joins 147 = .ok (.aload_n 0, 1) := dq_42 (dq_suf 3 dt38cX11_joins_9 rfl rfl)
theorem dX11_joins_148 : decode cX11_joins 148 = .ok (.bipush 6, 2) := dq_16 (dq_suf 4 dt38cX11_joins_9 rfl rfl) (by decide +kernel)
theorem dX11_joins_150 : decode cX11_joins 150 = .ok (.iload_n 2, 1) := dq_28 (dq_suf 6 dt38cX11_joins_9 rfl rfl)
theorem dX11_joins_151 : decode cX11_joins 151 = .ok (.iload_n 1, 1) := dq_27 (dq_suf 7 dt38cX11_joins_9 rfl rfl)
theorem dX11_joins_152 : decode cX11_joins 152 = .ok (.invokevirtual 190, 3) := dq_182 (dq_suf 8 dt38cX11_joins_9 rfl rfl) rfl
theorem dX11_joins_155 : decode cX11_joins 155 = .ok (.invokevirtual 200, 3) := dq_182 (dq_suf 11 dt38cX11_joins_9 rfl rfl) rfl
theorem dX11_joins_158 : decode cX11_joins 158 = .ok (.invokevirtual 190, 3) := dq_182 (dq_suf 14 dt38cX11_joins_9 rfl rfl) rfl
theorem dX11_joins_161 : decode cX11_joins 161 = .ok (.istore_n 1, 1) := dq_60 (dq_suf 1 dt38cX11_joins_10 rfl rfl)
theorem dX11_joins_162 : decode cX11_joins 162 = .ok (.aload_n 0, 1) := dq_42 (dq_suf 2 dt38cX11_joins_10 rfl rfl)
theorem dX11_joins_163 : decode cX11_joins 163 = .ok (.getfield 54, 3) := dq_180 (dq_suf 3 dt38cX11_joins_10 rfl rfl) rfl
theorem dX11_joins_166 : decode cX11_joins 166 = .ok (.aload_n 0, 1) := dq_42 (dq_suf 6 dt38cX11_joins_10 rfl rfl)
theorem dX11_joins_167 : decode cX11_joins 167 = .ok (.getfield 197, 3) := dq_180 (dq_suf 7 dt38cX11_joins_10 rfl rfl) rfl
theorem dX11_joins_170 : decode cX11_joins 170 = .ok (.iconst 1, 1) := dq_4 (dq_suf 10 dt38cX11_joins_10 rfl rfl)
theorem dX11_joins_171 : decode cX11_joins 171 = .ok (.isub, 1) := dq_100 (dq_suf 11 dt38cX11_joins_10 rfl rfl)
theorem dX11_joins_172 : decode cX11_joins 172 = .ok (.iload_n 1, 1) := dq_27 (dq_suf 12 dt38cX11_joins_10 rfl rfl)
theorem dX11_joins_173 : decode cX11_joins 173 = .ok (.iastore, 1) := dq_79 (dq_suf 13 dt38cX11_joins_10 rfl rfl)
theorem dX11_joins_174 : decode cX11_joins 174 = .ok (.return_, 1) := dq_177 (dq_suf 14 dt38cX11_joins_10 rfl rfl)
noncomputable def ds38cX11_ahead_7 : List UInt8 := 182 :: 0 :: 190 :: 79 :: 167 :: 255 :: 140 :: 177 :: []
noncomputable def ds38cX11_ahead_6 : List UInt8 := 21 :: 42 :: 27 :: 5 :: 160 :: 0 :: 8 :: 16 :: 8 :: 167 :: 0 :: 5 :: 16 :: 9 :: 28 :: 2 :: ds38cX11_ahead_7
noncomputable def ds38cX11_ahead_5 : List UInt8 := 160 :: 0 :: 17 :: 42 :: 42 :: 6 :: 28 :: 2 :: 182 :: 0 :: 190 :: 182 :: 0 :: 200 :: 167 :: 0 :: ds38cX11_ahead_6
noncomputable def ds38cX11_ahead_4 : List UInt8 := 4 :: 100 :: 46 :: 61 :: 42 :: 180 :: 0 :: 54 :: 42 :: 180 :: 0 :: 197 :: 4 :: 100 :: 27 :: 4 :: ds38cX11_ahead_5
noncomputable def ds38cX11_ahead_3 : List UInt8 := 0 :: 57 :: 42 :: 180 :: 0 :: 194 :: 46 :: 60 :: 42 :: 180 :: 0 :: 54 :: 42 :: 180 :: 0 :: 197 :: ds38cX11_ahead_4
noncomputable def ds38cX11_ahead_2 : List UInt8 := 100 :: 181 :: 0 :: 194 :: 42 :: 89 :: 180 :: 0 :: 204 :: 4 :: 100 :: 181 :: 0 :: 204 :: 42 :: 180 :: ds38cX11_ahead_3
noncomputable def ds38cX11_ahead_1 : List UInt8 := 100 :: 46 :: 4 :: 6 :: 184 :: 0 :: 161 :: 153 :: 0 :: 96 :: 42 :: 89 :: 180 :: 0 :: 194 :: 4 :: ds38cX11_ahead_2
noncomputable def ds38cX11_ahead_0 : List UInt8 := 42 :: 180 :: 0 :: 194 :: 158 :: 0 :: 115 :: 42 :: 180 :: 0 :: 57 :: 42 :: 180 :: 0 :: 194 :: 4 :: ds38cX11_ahead_1
theorem dt38cX11_ahead_0 : cX11_ahead.data.toList.drop 0 = ds38cX11_ahead_0 := by decide +kernel
theorem dt38cX11_ahead_1 : cX11_ahead.data.toList.drop 16 = ds38cX11_ahead_1 := dq_suf 16 dt38cX11_ahead_0 rfl rfl
theorem dt38cX11_ahead_2 : cX11_ahead.data.toList.drop 32 = ds38cX11_ahead_2 := dq_suf 16 dt38cX11_ahead_1 rfl rfl
theorem dt38cX11_ahead_3 : cX11_ahead.data.toList.drop 48 = ds38cX11_ahead_3 := dq_suf 16 dt38cX11_ahead_2 rfl rfl
theorem dt38cX11_ahead_4 : cX11_ahead.data.toList.drop 64 = ds38cX11_ahead_4 := dq_suf 16 dt38cX11_ahead_3 rfl rfl
theorem dt38cX11_ahead_5 : cX11_ahead.data.toList.drop 80 = ds38cX11_ahead_5 := dq_suf 16 dt38cX11_ahead_4 rfl rfl
theorem dt38cX11_ahead_6 : cX11_ahead.data.toList.drop 96 = ds38cX11_ahead_6 := dq_suf 16 dt38cX11_ahead_5 rfl rfl
theorem dt38cX11_ahead_7 : cX11_ahead.data.toList.drop 112 = ds38cX11_ahead_7 := dq_suf 16 dt38cX11_ahead_6 rfl rfl
theorem dX11_ahead_0 : decode cX11_ahead 0 = .ok (.aload_n 0, 1) := dq_42 (dq_suf 0 dt38cX11_ahead_0 rfl rfl)
theorem dX11_ahead_1 : decode cX11_ahead 1 = .ok (.getfield 194, 3) := dq_180 (dq_suf 1 dt38cX11_ahead_0 rfl rfl) rfl
theorem dX11_ahead_4 : decode cX11_ahead 4 = .ok (.ifCond .le 115, 3) := dq_158 (dq_suf 4 dt38cX11_ahead_0 rfl rfl) (by decide +kernel)
theorem dX11_ahead_7 : decode cX11_ahead 7 = .ok (.aload_n 0, 1) := dq_42 (dq_suf 7 dt38cX11_ahead_0 rfl rfl)
theorem dX11_ahead_8 : decode cX11_ahead 8 = .ok (.getfield 57, 3) := dq_180 (dq_suf 8 dt38cX11_ahead_0 rfl rfl) rfl
theorem dX11_ahead_11 : decode cX11_ahead 11 = .ok (.aload_n 0, 1) := dq_42 (dq_suf 11 dt38cX11_ahead_0 rfl rfl)
theorem dX11_ahead_12 : decode cX11_ahead 12 = .ok (.getfield 194, 3) := dq_180 (dq_suf 12 dt38cX11_ahead_0 rfl rfl) rfl
theorem dX11_ahead_15 : decode cX11_ahead 15 = .ok (.iconst 1, 1) := dq_4 (dq_suf 15 dt38cX11_ahead_0 rfl rfl)
theorem dX11_ahead_16 : decode cX11_ahead 16 = .ok (.isub, 1) := dq_100 (dq_suf 0 dt38cX11_ahead_1 rfl rfl)
theorem dX11_ahead_17 : decode cX11_ahead 17 = .ok (.iaload, 1) := dq_46 (dq_suf 1 dt38cX11_ahead_1 rfl rfl)
theorem dX11_ahead_18 : decode cX11_ahead 18 = .ok (.iconst 1, 1) := dq_4 (dq_suf 2 dt38cX11_ahead_1 rfl rfl)
theorem dX11_ahead_19 : decode cX11_ahead 19 = .ok (.iconst 3, 1) := dq_6 (dq_suf 3 dt38cX11_ahead_1 rfl rfl)
theorem dX11_ahead_20 : decode cX11_ahead 20 = .ok (.invokestatic 161, 3) := dq_184 (dq_suf 4 dt38cX11_ahead_1 rfl rfl) rfl
theorem dX11_ahead_23 : decode cX11_ahead 23 = .ok (.ifCond .eq 96, 3) := dq_153 (dq_suf 7 dt38cX11_ahead_1 rfl rfl) (by decide +kernel)
theorem dX11_ahead_26 : decode cX11_ahead 26 = .ok (.aload_n 0, 1) := dq_42 (dq_suf 10 dt38cX11_ahead_1 rfl rfl)
theorem dX11_ahead_27 : decode cX11_ahead 27 = .ok (.dup, 1) := dq_89 (dq_suf 11 dt38cX11_ahead_1 rfl rfl)
theorem dX11_ahead_28 : decode cX11_ahead 28 = .ok (.getfield 194, 3) := dq_180 (dq_suf 12 dt38cX11_ahead_1 rfl rfl) rfl
theorem dX11_ahead_31 : decode cX11_ahead 31 = .ok (.iconst 1, 1) := dq_4 (dq_suf 15 dt38cX11_ahead_1 rfl rfl)
theorem dX11_ahead_32 : decode cX11_ahead 32 = .ok (.isub, 1) := dq_100 (dq_suf 0 dt38cX11_ahead_2 rfl rfl)
theorem dX11_ahead_33 : decode cX11_ahead 33 = .ok (.putfield 194, 3) := dq_181 (dq_suf 1 dt38cX11_ahead_2 rfl rfl) rfl
theorem dX11_ahead_36 : decode cX11_ahead 36 = .ok (.aload_n 0, 1) := dq_42 (dq_suf 4 dt38cX11_ahead_2 rfl rfl)
theorem dX11_ahead_37 : decode cX11_ahead 37 = .ok (.dup, 1) := dq_89 (dq_suf 5 dt38cX11_ahead_2 rfl rfl)
theorem dX11_ahead_38 : decode cX11_ahead 38 = .ok (.getfield 204, 3) := dq_180 (dq_suf 6 dt38cX11_ahead_2 rfl rfl) rfl
theorem dX11_ahead_41 : decode cX11_ahead 41 = .ok (.iconst 1, 1) := dq_4 (dq_suf 9 dt38cX11_ahead_2 rfl rfl)
theorem dX11_ahead_42 : decode cX11_ahead 42 = .ok (.isub, 1) := dq_100 (dq_suf 10 dt38cX11_ahead_2 rfl rfl)
theorem dX11_ahead_43 : decode cX11_ahead 43 = .ok (.putfield 204, 3) := dq_181 (dq_suf 11 dt38cX11_ahead_2 rfl rfl) rfl
theorem dX11_ahead_46 : decode cX11_ahead 46 = .ok (.aload_n 0, 1) := dq_42 (dq_suf 14 dt38cX11_ahead_2 rfl rfl)
theorem dX11_ahead_47 : decode cX11_ahead 47 = .ok (.getfield 57, 3) := dq_180 (dq_suf 15 dt38cX11_ahead_2 rfl rfl) rfl
theorem dX11_ahead_50 : decode cX11_ahead 50 = .ok (.aload_n 0, 1) := dq_42 (dq_suf 2 dt38cX11_ahead_3 rfl rfl)
theorem dX11_ahead_51 : decode cX11_ahead 51 = .ok (.getfield 194, 3) := dq_180 (dq_suf 3 dt38cX11_ahead_3 rfl rfl) rfl
theorem dX11_ahead_54 : decode cX11_ahead 54 = .ok (.iaload, 1) := dq_46 (dq_suf 6 dt38cX11_ahead_3 rfl rfl)
theorem dX11_ahead_55 : decode cX11_ahead 55 = .ok (.istore_n 1, 1) := dq_60 (dq_suf 7 dt38cX11_ahead_3 rfl rfl)
theorem dX11_ahead_56 : decode cX11_ahead 56 = .ok (.aload_n 0, 1) := dq_42 (dq_suf 8 dt38cX11_ahead_3 rfl rfl)
theorem dX11_ahead_57 : decode cX11_ahead 57 = .ok (.getfield 54, 3) := dq_180 (dq_suf 9 dt38cX11_ahead_3 rfl rfl) rfl
theorem dX11_ahead_60 : decode cX11_ahead 60 = .ok (.aload_n 0, 1) := dq_42 (dq_suf 12 dt38cX11_ahead_3 rfl rfl)
theorem dX11_ahead_61 : decode cX11_ahead 61 = .ok (.getfield 197, 3) := dq_180 (dq_suf 13 dt38cX11_ahead_3 rfl rfl) rfl
theorem dX11_ahead_64 : decode cX11_ahead 64 = .ok (.iconst 1, 1) := dq_4 (dq_suf 0 dt38cX11_ahead_4 rfl rfl)
theorem dX11_ahead_65 : decode cX11_ahead 65 = .ok (.isub, 1) := dq_100 (dq_suf 1 dt38cX11_ahead_4 rfl rfl)
theorem dX11_ahead_66 : decode cX11_ahead 66 = .ok (.iaload, 1) := dq_46 (dq_suf 2 dt38cX11_ahead_4 rfl rfl)
theorem dX11_ahead_67 : decode cX11_ahead 67 = .ok (.istore_n 2, 1) := dq_61 (dq_suf 3 dt38cX11_ahead_4 rfl rfl)
theorem dX11_ahead_68 : decode cX11_ahead 68 = .ok (.aload_n 0, 1) := dq_42 (dq_suf 4 dt38cX11_ahead_4 rfl rfl)
theorem dX11_ahead_69 : decode cX11_ahead 69 = .ok (.getfield 54, 3) := dq_180 (dq_suf 5 dt38cX11_ahead_4 rfl rfl) rfl
theorem dX11_ahead_72 : decode cX11_ahead 72 = .ok (.aload_n 0, 1) := dq_42 (dq_suf 8 dt38cX11_ahead_4 rfl rfl)
theorem dX11_ahead_73 : decode cX11_ahead 73 = .ok (.getfield 197, 3) := dq_180 (dq_suf 9 dt38cX11_ahead_4 rfl rfl) rfl
theorem dX11_ahead_76 : decode cX11_ahead 76 = .ok (.iconst 1, 1) := dq_4 (dq_suf 12 dt38cX11_ahead_4 rfl rfl)
theorem dX11_ahead_77 : decode cX11_ahead 77 = .ok (.isub, 1) := dq_100 (dq_suf 13 dt38cX11_ahead_4 rfl rfl)
theorem dX11_ahead_78 : decode cX11_ahead 78 = .ok (.iload_n 1, 1) := dq_27 (dq_suf 14 dt38cX11_ahead_4 rfl rfl)
theorem dX11_ahead_79 : decode cX11_ahead 79 = .ok (.iconst 1, 1) := dq_4 (dq_suf 15 dt38cX11_ahead_4 rfl rfl)
theorem dX11_ahead_80 : decode cX11_ahead 80 = .ok (.if_icmp .ne 17, 3) := dq_160 (dq_suf 0 dt38cX11_ahead_5 rfl rfl) (by decide +kernel)
theorem dX11_ahead_83 : decode cX11_ahead 83 = .ok (.aload_n 0, 1) := dq_42 (dq_suf 3 dt38cX11_ahead_5 rfl rfl)
theorem dX11_ahead_84 : decode cX11_ahead 84 = .ok (.aload_n 0, 1) := dq_42 (dq_suf 4 dt38cX11_ahead_5 rfl rfl)
theorem dX11_ahead_85 : decode cX11_ahead 85 = .ok (.iconst 3, 1) := dq_6 (dq_suf 5 dt38cX11_ahead_5 rfl rfl)
theorem dX11_ahead_86 : decode cX11_ahead 86 = .ok (.iload_n 2, 1) := dq_28 (dq_suf 6 dt38cX11_ahead_5 rfl rfl)
theorem dX11_ahead_87 : decode cX11_ahead 87 = .ok (.iconst (-1), 1) := dq_2 (dq_suf 7 dt38cX11_ahead_5 rfl rfl)
theorem dX11_ahead_88 : decode cX11_ahead 88 = .ok (.invokevirtual 190, 3) := dq_182 (dq_suf 8 dt38cX11_ahead_5 rfl rfl) rfl
theorem dX11_ahead_91 : decode cX11_ahead 91 = .ok (.invokevirtual 200, 3) := dq_182 (dq_suf 11 dt38cX11_ahead_5 rfl rfl) rfl
theorem dX11_ahead_94 : decode cX11_ahead 94 = .ok (.goto 21, 3) := dq_167 (dq_suf 14 dt38cX11_ahead_5 rfl rfl) (by decide +kernel)
theorem dX11_ahead_97 : decode cX11_ahead 97 = .ok (.aload_n 0, 1) := dq_42 (dq_suf 1 dt38cX11_ahead_6 rfl rfl)
theorem dX11_ahead_98 : decode cX11_ahead 98 = .ok (.iload_n 1, 1) := dq_27 (dq_suf 2 dt38cX11_ahead_6 rfl rfl)
theorem dX11_ahead_99 : decode cX11_ahead 99 = .ok (.iconst 2, 1) := dq_5 (dq_suf 3 dt38cX11_ahead_6 rfl rfl)
theorem dX11_ahead_100 : decode cX11_ahead 100 = .ok (.if_icmp .ne 8, 3) := dq_160 (dq_suf 4 dt38cX11_ahead_6 rfl rfl) (by decide +kernel)
theorem dX11_ahead_103 : decode cX11_ahead 103 = .ok (.bipush 8, 2) := dq_16 (dq_suf 7 dt38cX11_ahead_6 rfl rfl) (by decide +kernel)
theorem dX11_ahead_105 : decode cX11_ahead 105 = .ok (.goto 5, 3) := dq_167 (dq_suf 9 dt38cX11_ahead_6 rfl rfl) (by decide +kernel)
theorem dX11_ahead_108 : decode cX11_ahead 108 = .ok (.bipush 9, 2) := dq_16 (dq_suf 12 dt38cX11_ahead_6 rfl rfl) (by decide +kernel)
theorem dX11_ahead_110 : decode cX11_ahead 110 = .ok (.iload_n 2, 1) := dq_28 (dq_suf 14 dt38cX11_ahead_6 rfl rfl)
theorem dX11_ahead_111 : decode cX11_ahead 111 = .ok (.iconst (-1), 1) := dq_2 (dq_suf 15 dt38cX11_ahead_6 rfl rfl)
theorem dX11_ahead_112 : decode cX11_ahead 112 = .ok (.invokevirtual 190, 3) := dq_182 (dq_suf 0 dt38cX11_ahead_7 rfl rfl) rfl
theorem dX11_ahead_115 : decode cX11_ahead 115 = .ok (.iastore, 1) := dq_79 (dq_suf 3 dt38cX11_ahead_7 rfl rfl)
theorem dX11_ahead_116 : decode cX11_ahead 116 = .ok (.goto (-116), 3) := dq_167 (dq_suf 4 dt38cX11_ahead_7 rfl rfl) (by decide +kernel)
theorem dX11_ahead_119 : decode cX11_ahead 119 = .ok (.return_, 1) := dq_177 (dq_suf 7 dt38cX11_ahead_7 rfl rfl)
noncomputable def ds38cX11_opens_3 : List UInt8 := 172 :: []
noncomputable def ds38cX11_opens_2 : List UInt8 := 180 :: 0 :: 194 :: 27 :: 79 :: 42 :: 89 :: 180 :: 0 :: 194 :: 4 :: 96 :: 181 :: 0 :: 194 :: 4 :: ds38cX11_opens_3
noncomputable def ds38cX11_opens_1 : List UInt8 := 172 :: 42 :: 89 :: 180 :: 0 :: 204 :: 4 :: 96 :: 181 :: 0 :: 204 :: 42 :: 180 :: 0 :: 57 :: 42 :: ds38cX11_opens_2
noncomputable def ds38cX11_opens_0 : List UInt8 := 42 :: 180 :: 0 :: 204 :: 16 :: 60 :: 160 :: 0 :: 11 :: 42 :: 5 :: 182 :: 0 :: 207 :: 61 :: 3 :: ds38cX11_opens_1
theorem dt38cX11_opens_0 : cX11_opens.data.toList.drop 0 = ds38cX11_opens_0 := by decide +kernel
theorem dt38cX11_opens_1 : cX11_opens.data.toList.drop 16 = ds38cX11_opens_1 := dq_suf 16 dt38cX11_opens_0 rfl rfl
theorem dt38cX11_opens_2 : cX11_opens.data.toList.drop 32 = ds38cX11_opens_2 := dq_suf 16 dt38cX11_opens_1 rfl rfl
theorem dt38cX11_opens_3 : cX11_opens.data.toList.drop 48 = ds38cX11_opens_3 := dq_suf 16 dt38cX11_opens_2 rfl rfl
theorem dX11_opens_0 : decode cX11_opens 0 = .ok (.aload_n 0, 1) := dq_42 (dq_suf 0 dt38cX11_opens_0 rfl rfl)
theorem dX11_opens_1 : decode cX11_opens 1 = .ok (.getfield 204, 3) := dq_180 (dq_suf 1 dt38cX11_opens_0 rfl rfl) rfl
theorem dX11_opens_4 : decode cX11_opens 4 = .ok (.bipush 60, 2) := dq_16 (dq_suf 4 dt38cX11_opens_0 rfl rfl) (by decide +kernel)
theorem dX11_opens_6 : decode cX11_opens 6 = .ok (.if_icmp .ne 11, 3) := dq_160 (dq_suf 6 dt38cX11_opens_0 rfl rfl) (by decide +kernel)
theorem dX11_opens_9 : decode cX11_opens 9 = .ok (.aload_n 0, 1) := dq_42 (dq_suf 9 dt38cX11_opens_0 rfl rfl)
theorem dX11_opens_10 : decode cX11_opens 10 = .ok (.iconst 2, 1) := dq_5 (dq_suf 10 dt38cX11_opens_0 rfl rfl)
theorem dX11_opens_11 : decode cX11_opens 11 = .ok (.invokevirtual 207, 3) := dq_182 (dq_suf 11 dt38cX11_opens_0 rfl rfl) rfl
theorem dX11_opens_14 : decode cX11_opens 14 = .ok (.istore_n 2, 1) := dq_61 (dq_suf 14 dt38cX11_opens_0 rfl rfl)
theorem dX11_opens_15 : decode cX11_opens 15 = .ok (.iconst 0, 1) := dq_3 (dq_suf 15 dt38cX11_opens_0 rfl rfl)
theorem dX11_opens_16 : decode cX11_opens 16 = .ok (.ireturn, 1) := dq_172 (dq_suf 0 dt38cX11_opens_1 rfl rfl)
theorem dX11_opens_17 : decode cX11_opens 17 = .ok (.aload_n 0, 1) := dq_42 (dq_suf 1 dt38cX11_opens_1 rfl rfl)
theorem dX11_opens_18 : decode cX11_opens 18 = .ok (.dup, 1) := dq_89 (dq_suf 2 dt38cX11_opens_1 rfl rfl)
theorem dX11_opens_19 : decode cX11_opens 19 = .ok (.getfield 204, 3) := dq_180 (dq_suf 3 dt38cX11_opens_1 rfl rfl) rfl
theorem dX11_opens_22 : decode cX11_opens 22 = .ok (.iconst 1, 1) := dq_4 (dq_suf 6 dt38cX11_opens_1 rfl rfl)
theorem dX11_opens_23 : decode cX11_opens 23 = .ok (.iadd, 1) := dq_96 (dq_suf 7 dt38cX11_opens_1 rfl rfl)
theorem dX11_opens_24 : decode cX11_opens 24 = .ok (.putfield 204, 3) := dq_181 (dq_suf 8 dt38cX11_opens_1 rfl rfl) rfl
theorem dX11_opens_27 : decode cX11_opens 27 = .ok (.aload_n 0, 1) := dq_42 (dq_suf 11 dt38cX11_opens_1 rfl rfl)
theorem dX11_opens_28 : decode cX11_opens 28 = .ok (.getfield 57, 3) := dq_180 (dq_suf 12 dt38cX11_opens_1 rfl rfl) rfl
theorem dX11_opens_31 : decode cX11_opens 31 = .ok (.aload_n 0, 1) := dq_42 (dq_suf 15 dt38cX11_opens_1 rfl rfl)
theorem dX11_opens_32 : decode cX11_opens 32 = .ok (.getfield 194, 3) := dq_180 (dq_suf 0 dt38cX11_opens_2 rfl rfl) rfl
theorem dX11_opens_35 : decode cX11_opens 35 = .ok (.iload_n 1, 1) := dq_27 (dq_suf 3 dt38cX11_opens_2 rfl rfl)
theorem dX11_opens_36 : decode cX11_opens 36 = .ok (.iastore, 1) := dq_79 (dq_suf 4 dt38cX11_opens_2 rfl rfl)
theorem dX11_opens_37 : decode cX11_opens 37 = .ok (.aload_n 0, 1) := dq_42 (dq_suf 5 dt38cX11_opens_2 rfl rfl)
theorem dX11_opens_38 : decode cX11_opens 38 = .ok (.dup, 1) := dq_89 (dq_suf 6 dt38cX11_opens_2 rfl rfl)
theorem dX11_opens_39 : decode cX11_opens 39 = .ok (.getfield 194, 3) := dq_180 (dq_suf 7 dt38cX11_opens_2 rfl rfl) rfl
theorem dX11_opens_42 : decode cX11_opens 42 = .ok (.iconst 1, 1) := dq_4 (dq_suf 10 dt38cX11_opens_2 rfl rfl)
theorem dX11_opens_43 : decode cX11_opens 43 = .ok (.iadd, 1) := dq_96 (dq_suf 11 dt38cX11_opens_2 rfl rfl)
theorem dX11_opens_44 : decode cX11_opens 44 = .ok (.putfield 194, 3) := dq_181 (dq_suf 12 dt38cX11_opens_2 rfl rfl) rfl
theorem dX11_opens_47 : decode cX11_opens 47 = .ok (.iconst 1, 1) := dq_4 (dq_suf 15 dt38cX11_opens_2 rfl rfl)
theorem dX11_opens_48 : decode cX11_opens 48 = .ok (.ireturn, 1) := dq_172 (dq_suf 0 dt38cX11_opens_3 rfl rfl)
noncomputable def ds38cX11_operand_20 : List UInt8 := 221 :: 3 :: 172 :: []
noncomputable def ds38cX11_operand_19 : List UInt8 := 0 :: 221 :: 27 :: 16 :: 40 :: 160 :: 0 :: 7 :: 4 :: 167 :: 0 :: 4 :: 3 :: 96 :: 181 :: 0 :: ds38cX11_operand_20
noncomputable def ds38cX11_operand_18 : List UInt8 := 29 :: 153 :: 0 :: 7 :: 5 :: 167 :: 0 :: 4 :: 4 :: 96 :: 181 :: 0 :: 175 :: 42 :: 89 :: 180 :: ds38cX11_operand_19
noncomputable def ds38cX11_operand_17 : List UInt8 := 42 :: 6 :: 182 :: 0 :: 207 :: 54 :: 4 :: 42 :: 89 :: 180 :: 0 :: 175 :: 28 :: 154 :: 0 :: 7 :: ds38cX11_operand_18
noncomputable def ds38cX11_operand_16 : List UInt8 := 67 :: 42 :: 180 :: 0 :: 187 :: 154 :: 0 :: 18 :: 28 :: 154 :: 0 :: 7 :: 29 :: 153 :: 0 :: 10 :: ds38cX11_operand_17
noncomputable def ds38cX11_operand_15 : List UInt8 := 0 :: 12 :: 28 :: 153 :: 0 :: 7 :: 5 :: 167 :: 0 :: 4 :: 6 :: 182 :: 0 :: 217 :: 153 :: 0 :: ds38cX11_operand_16
noncomputable def ds38cX11_operand_14 : List UInt8 := 40 :: 160 :: 0 :: 7 :: 3 :: 167 :: 0 :: 22 :: 27 :: 16 :: 33 :: 160 :: 0 :: 7 :: 4 :: 167 :: ds38cX11_operand_15
noncomputable def ds38cX11_operand_13 : List UInt8 := 154 :: 0 :: 13 :: 42 :: 4 :: 182 :: 0 :: 207 :: 54 :: 4 :: 167 :: 0 :: 103 :: 42 :: 27 :: 16 :: ds38cX11_operand_14
noncomputable def ds38cX11_operand_12 : List UInt8 := 16 :: 40 :: 159 :: 0 :: 27 :: 27 :: 16 :: 33 :: 159 :: 0 :: 21 :: 28 :: 154 :: 0 :: 17 :: 29 :: ds38cX11_operand_13
noncomputable def ds38cX11_operand_11 : List UInt8 := 175 :: 4 :: 96 :: 51 :: 16 :: 62 :: 160 :: 0 :: 7 :: 4 :: 167 :: 0 :: 4 :: 3 :: 62 :: 27 :: ds38cX11_operand_12
noncomputable def ds38cX11_operand_10 : List UInt8 := 4 :: 96 :: 42 :: 180 :: 0 :: 178 :: 162 :: 0 :: 23 :: 42 :: 180 :: 0 :: 7 :: 42 :: 180 :: 0 :: ds38cX11_operand_11
noncomputable def ds38cX11_operand_9 : List UInt8 := 4 :: 167 :: 0 :: 4 :: 3 :: 61 :: 27 :: 16 :: 60 :: 160 :: 0 :: 36 :: 42 :: 180 :: 0 :: 175 :: ds38cX11_operand_10
noncomputable def ds38cX11_operand_8 : List UInt8 := 42 :: 180 :: 0 :: 7 :: 42 :: 180 :: 0 :: 175 :: 4 :: 96 :: 51 :: 16 :: 93 :: 160 :: 0 :: 7 :: ds38cX11_operand_9
noncomputable def ds38cX11_operand_7 : List UInt8 := 160 :: 0 :: 36 :: 42 :: 180 :: 0 :: 175 :: 4 :: 96 :: 42 :: 180 :: 0 :: 178 :: 162 :: 0 :: 23 :: ds38cX11_operand_8
noncomputable def ds38cX11_operand_6 : List UInt8 := 0 :: 197 :: 4 :: 96 :: 181 :: 0 :: 197 :: 42 :: 182 :: 0 :: 214 :: 4 :: 172 :: 27 :: 16 :: 91 :: ds38cX11_operand_7
noncomputable def ds38cX11_operand_5 : List UInt8 := 5 :: 27 :: 16 :: 97 :: 100 :: 2 :: 182 :: 0 :: 190 :: 182 :: 0 :: 200 :: 79 :: 42 :: 89 :: 180 :: ds38cX11_operand_6
noncomputable def ds38cX11_operand_4 : List UInt8 := 70 :: 160 :: 0 :: 13 :: 42 :: 4 :: 2 :: 2 :: 182 :: 0 :: 190 :: 167 :: 0 :: 17 :: 42 :: 42 :: ds38cX11_operand_5
noncomputable def ds38cX11_operand_3 : List UInt8 := 84 :: 160 :: 0 :: 13 :: 42 :: 3 :: 2 :: 2 :: 182 :: 0 :: 190 :: 167 :: 0 :: 33 :: 27 :: 16 :: ds38cX11_operand_4
noncomputable def ds38cX11_operand_2 : List UInt8 := 175 :: 4 :: 96 :: 181 :: 0 :: 175 :: 42 :: 180 :: 0 :: 54 :: 42 :: 180 :: 0 :: 197 :: 27 :: 16 :: ds38cX11_operand_3
noncomputable def ds38cX11_operand_1 : List UInt8 := 27 :: 16 :: 84 :: 159 :: 0 :: 9 :: 27 :: 16 :: 70 :: 160 :: 0 :: 84 :: 42 :: 89 :: 180 :: 0 :: ds38cX11_operand_2
noncomputable def ds38cX11_operand_0 : List UInt8 := 42 :: 182 :: 0 :: 210 :: 60 :: 27 :: 16 :: 97 :: 16 :: 122 :: 184 :: 0 :: 161 :: 154 :: 0 :: 15 :: ds38cX11_operand_1
theorem dt38cX11_operand_0 : cX11_operand.data.toList.drop 0 = ds38cX11_operand_0 := by decide +kernel
theorem dt38cX11_operand_1 : cX11_operand.data.toList.drop 16 = ds38cX11_operand_1 := dq_suf 16 dt38cX11_operand_0 rfl rfl
theorem dt38cX11_operand_2 : cX11_operand.data.toList.drop 32 = ds38cX11_operand_2 := dq_suf 16 dt38cX11_operand_1 rfl rfl
theorem dt38cX11_operand_3 : cX11_operand.data.toList.drop 48 = ds38cX11_operand_3 := dq_suf 16 dt38cX11_operand_2 rfl rfl
theorem dt38cX11_operand_4 : cX11_operand.data.toList.drop 64 = ds38cX11_operand_4 := dq_suf 16 dt38cX11_operand_3 rfl rfl
theorem dt38cX11_operand_5 : cX11_operand.data.toList.drop 80 = ds38cX11_operand_5 := dq_suf 16 dt38cX11_operand_4 rfl rfl
theorem dt38cX11_operand_6 : cX11_operand.data.toList.drop 96 = ds38cX11_operand_6 := dq_suf 16 dt38cX11_operand_5 rfl rfl
theorem dt38cX11_operand_7 : cX11_operand.data.toList.drop 112 = ds38cX11_operand_7 := dq_suf 16 dt38cX11_operand_6 rfl rfl
theorem dt38cX11_operand_8 : cX11_operand.data.toList.drop 128 = ds38cX11_operand_8 := dq_suf 16 dt38cX11_operand_7 rfl rfl
theorem dt38cX11_operand_9 : cX11_operand.data.toList.drop 144 = ds38cX11_operand_9 := dq_suf 16 dt38cX11_operand_8 rfl rfl
theorem dt38cX11_operand_10 : cX11_operand.data.toList.drop 160 = ds38cX11_operand_10 := dq_suf 16 dt38cX11_operand_9 rfl rfl
theorem dt38cX11_operand_11 : cX11_operand.data.toList.drop 176 = ds38cX11_operand_11 := dq_suf 16 dt38cX11_operand_10 rfl rfl
theorem dt38cX11_operand_12 : cX11_operand.data.toList.drop 192 = ds38cX11_operand_12 := dq_suf 16 dt38cX11_operand_11 rfl rfl
theorem dt38cX11_operand_13 : cX11_operand.data.toList.drop 208 = ds38cX11_operand_13 := dq_suf 16 dt38cX11_operand_12 rfl rfl
theorem dt38cX11_operand_14 : cX11_operand.data.toList.drop 224 = ds38cX11_operand_14 := dq_suf 16 dt38cX11_operand_13 rfl rfl
theorem dt38cX11_operand_15 : cX11_operand.data.toList.drop 240 = ds38cX11_operand_15 := dq_suf 16 dt38cX11_operand_14 rfl rfl
theorem dt38cX11_operand_16 : cX11_operand.data.toList.drop 256 = ds38cX11_operand_16 := dq_suf 16 dt38cX11_operand_15 rfl rfl
theorem dt38cX11_operand_17 : cX11_operand.data.toList.drop 272 = ds38cX11_operand_17 := dq_suf 16 dt38cX11_operand_16 rfl rfl
theorem dt38cX11_operand_18 : cX11_operand.data.toList.drop 288 = ds38cX11_operand_18 := dq_suf 16 dt38cX11_operand_17 rfl rfl
theorem dt38cX11_operand_19 : cX11_operand.data.toList.drop 304 = ds38cX11_operand_19 := dq_suf 16 dt38cX11_operand_18 rfl rfl
theorem dt38cX11_operand_20 : cX11_operand.data.toList.drop 320 = ds38cX11_operand_20 := dq_suf 16 dt38cX11_operand_19 rfl rfl
theorem dX11_operand_0 : decode cX11_operand 0 = .ok (.aload_n 0, 1) := dq_42 (dq_suf 0 dt38cX11_operand_0 rfl rfl)
theorem dX11_operand_1 : decode cX11_operand 1 = .ok (.invokevirtual 210, 3) := dq_182 (dq_suf 1 dt38cX11_operand_0 rfl rfl) rfl
theorem dX11_operand_4 : decode cX11_operand 4 = .ok (.istore_n 1, 1) := dq_60 (dq_suf 4 dt38cX11_operand_0 rfl rfl)
theorem dX11_operand_5 : decode cX11_operand 5 = .ok (.iload_n 1, 1) := dq_27 (dq_suf 5 dt38cX11_operand_0 rfl rfl)
theorem dX11_operand_6 : decode cX11_operand 6 = .ok (.bipush 97, 2) := dq_16 (dq_suf 6 dt38cX11_operand_0 rfl rfl) (by decide +kernel)
theorem dX11_operand_8 : decode cX11_operand 8 = .ok (.bipush 122, 2) := dq_16 (dq_suf 8 dt38cX11_operand_0 rfl rfl) (by decide +kernel)
theorem dX11_operand_10 : decode cX11_operand 10 = .ok (.invokestatic 161, 3) := dq_184 (dq_suf 10 dt38cX11_operand_0 rfl rfl) rfl
theorem dX11_operand_13 : decode cX11_operand 13 = .ok (.ifCond .ne 15, 3) := dq_154 (dq_suf 13 dt38cX11_operand_0 rfl rfl) (by decide +kernel)
theorem dX11_operand_16 : decode cX11_operand 16 = .ok (.iload_n 1, 1) := dq_27 (dq_suf 0 dt38cX11_operand_1 rfl rfl)
theorem dX11_operand_17 : decode cX11_operand 17 = .ok (.bipush 84, 2) := dq_16 (dq_suf 1 dt38cX11_operand_1 rfl rfl) (by decide +kernel)
theorem dX11_operand_19 : decode cX11_operand 19 = .ok (.if_icmp .eq 9, 3) := dq_159 (dq_suf 3 dt38cX11_operand_1 rfl rfl) (by decide +kernel)
theorem dX11_operand_22 : decode cX11_operand 22 = .ok (.iload_n 1, 1) := dq_27 (dq_suf 6 dt38cX11_operand_1 rfl rfl)
theorem dX11_operand_23 : decode cX11_operand 23 = .ok (.bipush 70, 2) := dq_16 (dq_suf 7 dt38cX11_operand_1 rfl rfl) (by decide +kernel)
theorem dX11_operand_25 : decode cX11_operand 25 = .ok (.if_icmp .ne 84, 3) := dq_160 (dq_suf 9 dt38cX11_operand_1 rfl rfl) (by decide +kernel)
theorem dX11_operand_28 : decode cX11_operand 28 = .ok (.aload_n 0, 1) := dq_42 (dq_suf 12 dt38cX11_operand_1 rfl rfl)
theorem dX11_operand_29 : decode cX11_operand 29 = .ok (.dup, 1) := dq_89 (dq_suf 13 dt38cX11_operand_1 rfl rfl)
theorem dX11_operand_30 : decode cX11_operand 30 = .ok (.getfield 175, 3) := dq_180 (dq_suf 14 dt38cX11_operand_1 rfl rfl) rfl
theorem dX11_operand_33 : decode cX11_operand 33 = .ok (.iconst 1, 1) := dq_4 (dq_suf 1 dt38cX11_operand_2 rfl rfl)
theorem dX11_operand_34 : decode cX11_operand 34 = .ok (.iadd, 1) := dq_96 (dq_suf 2 dt38cX11_operand_2 rfl rfl)
theorem dX11_operand_35 : decode cX11_operand 35 = .ok (.putfield 175, 3) := dq_181 (dq_suf 3 dt38cX11_operand_2 rfl rfl) rfl
theorem dX11_operand_38 : decode cX11_operand 38 = .ok (.aload_n 0, 1) := dq_42 (dq_suf 6 dt38cX11_operand_2 rfl rfl)
theorem dX11_operand_39 : decode cX11_operand 39 = .ok (.getfield 54, 3) := dq_180 (dq_suf 7 dt38cX11_operand_2 rfl rfl) rfl
theorem dX11_operand_42 : decode cX11_operand 42 = .ok (.aload_n 0, 1) := dq_42 (dq_suf 10 dt38cX11_operand_2 rfl rfl)
theorem dX11_operand_43 : decode cX11_operand 43 = .ok (.getfield 197, 3) := dq_180 (dq_suf 11 dt38cX11_operand_2 rfl rfl) rfl
theorem dX11_operand_46 : decode cX11_operand 46 = .ok (.iload_n 1, 1) := dq_27 (dq_suf 14 dt38cX11_operand_2 rfl rfl)
theorem dX11_operand_47 : decode cX11_operand 47 = .ok (.bipush 84, 2) := dq_16 (dq_suf 15 dt38cX11_operand_2 rfl rfl) (by decide +kernel)
theorem dX11_operand_49 : decode cX11_operand 49 = .ok (.if_icmp .ne 13, 3) := dq_160 (dq_suf 1 dt38cX11_operand_3 rfl rfl) (by decide +kernel)
theorem dX11_operand_52 : decode cX11_operand 52 = .ok (.aload_n 0, 1) := dq_42 (dq_suf 4 dt38cX11_operand_3 rfl rfl)
theorem dX11_operand_53 : decode cX11_operand 53 = .ok (.iconst 0, 1) := dq_3 (dq_suf 5 dt38cX11_operand_3 rfl rfl)
theorem dX11_operand_54 : decode cX11_operand 54 = .ok (.iconst (-1), 1) := dq_2 (dq_suf 6 dt38cX11_operand_3 rfl rfl)
theorem dX11_operand_55 : decode cX11_operand 55 = .ok (.iconst (-1), 1) := dq_2 (dq_suf 7 dt38cX11_operand_3 rfl rfl)
theorem dX11_operand_56 : decode cX11_operand 56 = .ok (.invokevirtual 190, 3) := dq_182 (dq_suf 8 dt38cX11_operand_3 rfl rfl) rfl
theorem dX11_operand_59 : decode cX11_operand 59 = .ok (.goto 33, 3) := dq_167 (dq_suf 11 dt38cX11_operand_3 rfl rfl) (by decide +kernel)
theorem dX11_operand_62 : decode cX11_operand 62 = .ok (.iload_n 1, 1) := dq_27 (dq_suf 14 dt38cX11_operand_3 rfl rfl)
theorem dX11_operand_63 : decode cX11_operand 63 = .ok (.bipush 70, 2) := dq_16 (dq_suf 15 dt38cX11_operand_3 rfl rfl) (by decide +kernel)
theorem dX11_operand_65 : decode cX11_operand 65 = .ok (.if_icmp .ne 13, 3) := dq_160 (dq_suf 1 dt38cX11_operand_4 rfl rfl) (by decide +kernel)
theorem dX11_operand_68 : decode cX11_operand 68 = .ok (.aload_n 0, 1) := dq_42 (dq_suf 4 dt38cX11_operand_4 rfl rfl)
theorem dX11_operand_69 : decode cX11_operand 69 = .ok (.iconst 1, 1) := dq_4 (dq_suf 5 dt38cX11_operand_4 rfl rfl)
theorem dX11_operand_70 : decode cX11_operand 70 = .ok (.iconst (-1), 1) := dq_2 (dq_suf 6 dt38cX11_operand_4 rfl rfl)
theorem dX11_operand_71 : decode cX11_operand 71 = .ok (.iconst (-1), 1) := dq_2 (dq_suf 7 dt38cX11_operand_4 rfl rfl)
theorem dX11_operand_72 : decode cX11_operand 72 = .ok (.invokevirtual 190, 3) := dq_182 (dq_suf 8 dt38cX11_operand_4 rfl rfl) rfl
theorem dX11_operand_75 : decode cX11_operand 75 = .ok (.goto 17, 3) := dq_167 (dq_suf 11 dt38cX11_operand_4 rfl rfl) (by decide +kernel)
theorem dX11_operand_78 : decode cX11_operand 78 = .ok (.aload_n 0, 1) := dq_42 (dq_suf 14 dt38cX11_operand_4 rfl rfl)
theorem dX11_operand_79 : decode cX11_operand 79 = .ok (.aload_n 0, 1) := dq_42 (dq_suf 15 dt38cX11_operand_4 rfl rfl)
theorem dX11_operand_80 : decode cX11_operand 80 = .ok (.iconst 2, 1) := dq_5 (dq_suf 0 dt38cX11_operand_5 rfl rfl)
theorem dX11_operand_81 : decode cX11_operand 81 = .ok (.iload_n 1, 1) := dq_27 (dq_suf 1 dt38cX11_operand_5 rfl rfl)
theorem dX11_operand_82 : decode cX11_operand 82 = .ok (.bipush 97, 2) := dq_16 (dq_suf 2 dt38cX11_operand_5 rfl rfl) (by decide +kernel)
theorem dX11_operand_84 : decode cX11_operand 84 = .ok (.isub, 1) := dq_100 (dq_suf 4 dt38cX11_operand_5 rfl rfl)
theorem dX11_operand_85 : decode cX11_operand 85 = .ok (.iconst (-1), 1) := dq_2 (dq_suf 5 dt38cX11_operand_5 rfl rfl)
theorem dX11_operand_86 : decode cX11_operand 86 = .ok (.invokevirtual 190, 3) := dq_182 (dq_suf 6 dt38cX11_operand_5 rfl rfl) rfl
theorem dX11_operand_89 : decode cX11_operand 89 = .ok (.invokevirtual 200, 3) := dq_182 (dq_suf 9 dt38cX11_operand_5 rfl rfl) rfl
theorem dX11_operand_92 : decode cX11_operand 92 = .ok (.iastore, 1) := dq_79 (dq_suf 12 dt38cX11_operand_5 rfl rfl)
theorem dX11_operand_93 : decode cX11_operand 93 = .ok (.aload_n 0, 1) := dq_42 (dq_suf 13 dt38cX11_operand_5 rfl rfl)
theorem dX11_operand_94 : decode cX11_operand 94 = .ok (.dup, 1) := dq_89 (dq_suf 14 dt38cX11_operand_5 rfl rfl)
theorem dX11_operand_95 : decode cX11_operand 95 = .ok (.getfield 197, 3) := dq_180 (dq_suf 15 dt38cX11_operand_5 rfl rfl) rfl
theorem dX11_operand_98 : decode cX11_operand 98 = .ok (.iconst 1, 1) := dq_4 (dq_suf 2 dt38cX11_operand_6 rfl rfl)
theorem dX11_operand_99 : decode cX11_operand 99 = .ok (.iadd, 1) := dq_96 (dq_suf 3 dt38cX11_operand_6 rfl rfl)
theorem dX11_operand_100 : decode cX11_operand 100 = .ok (.putfield 197, 3) := dq_181 (dq_suf 4 dt38cX11_operand_6 rfl rfl) rfl
theorem dX11_operand_103 : decode cX11_operand 103 = .ok (.aload_n 0, 1) := dq_42 (dq_suf 7 dt38cX11_operand_6 rfl rfl)
theorem dX11_operand_104 : decode cX11_operand 104 = .ok (.invokevirtual 214, 3) := dq_182 (dq_suf 8 dt38cX11_operand_6 rfl rfl) rfl
theorem dX11_operand_107 : decode cX11_operand 107 = .ok (.iconst 1, 1) := dq_4 (dq_suf 11 dt38cX11_operand_6 rfl rfl)
theorem dX11_operand_108 : decode cX11_operand 108 = .ok (.ireturn, 1) := dq_172 (dq_suf 12 dt38cX11_operand_6 rfl rfl)
theorem dX11_operand_109 : decode cX11_operand 109 = .ok (.iload_n 1, 1) := dq_27 (dq_suf 13 dt38cX11_operand_6 rfl rfl)
theorem dX11_operand_110 : decode cX11_operand 110 = .ok (.bipush 91, 2) := dq_16 (dq_suf 14 dt38cX11_operand_6 rfl rfl) (by decide +kernel)
theorem dX11_operand_112 : decode cX11_operand 112 = .ok (.if_icmp .ne 36, 3) := dq_160 (dq_suf 0 dt38cX11_operand_7 rfl rfl) (by decide +kernel)
theorem dX11_operand_115 : decode cX11_operand 115 = .ok (.aload_n 0, 1) := dq_42 (dq_suf 3 dt38cX11_operand_7 rfl rfl)
theorem dX11_operand_116 : decode cX11_operand 116 = .ok (.getfield 175, 3) := dq_180 (dq_suf 4 dt38cX11_operand_7 rfl rfl) rfl
theorem dX11_operand_119 : decode cX11_operand 119 = .ok (.iconst 1, 1) := dq_4 (dq_suf 7 dt38cX11_operand_7 rfl rfl)
theorem dX11_operand_120 : decode cX11_operand 120 = .ok (.iadd, 1) := dq_96 (dq_suf 8 dt38cX11_operand_7 rfl rfl)
theorem dX11_operand_121 : decode cX11_operand 121 = .ok (.aload_n 0, 1) := dq_42 (dq_suf 9 dt38cX11_operand_7 rfl rfl)
theorem dX11_operand_122 : decode cX11_operand 122 = .ok (.getfield 178, 3) := dq_180 (dq_suf 10 dt38cX11_operand_7 rfl rfl) rfl
theorem dX11_operand_125 : decode cX11_operand 125 = .ok (.if_icmp .ge 23, 3) := dq_162 (dq_suf 13 dt38cX11_operand_7 rfl rfl) (by decide +kernel)
theorem dX11_operand_128 : decode cX11_operand 128 = .ok (.aload_n 0, 1) := dq_42 (dq_suf 0 dt38cX11_operand_8 rfl rfl)
theorem dX11_operand_129 : decode cX11_operand 129 = .ok (.getfield 7, 3) := dq_180 (dq_suf 1 dt38cX11_operand_8 rfl rfl) rfl
theorem dX11_operand_132 : decode cX11_operand 132 = .ok (.aload_n 0, 1) := dq_42 (dq_suf 4 dt38cX11_operand_8 rfl rfl)
theorem dX11_operand_133 : decode cX11_operand 133 = .ok (.getfield 175, 3) := dq_180 (dq_suf 5 dt38cX11_operand_8 rfl rfl) rfl
theorem dX11_operand_136 : decode cX11_operand 136 = .ok (.iconst 1, 1) := dq_4 (dq_suf 8 dt38cX11_operand_8 rfl rfl)
theorem dX11_operand_137 : decode cX11_operand 137 = .ok (.iadd, 1) := dq_96 (dq_suf 9 dt38cX11_operand_8 rfl rfl)
theorem dX11_operand_138 : decode cX11_operand 138 = .ok (.baload, 1) := dq_51 (dq_suf 10 dt38cX11_operand_8 rfl rfl)
theorem dX11_operand_139 : decode cX11_operand 139 = .ok (.bipush 93, 2) := dq_16 (dq_suf 11 dt38cX11_operand_8 rfl rfl) (by decide +kernel)
theorem dX11_operand_141 : decode cX11_operand 141 = .ok (.if_icmp .ne 7, 3) := dq_160 (dq_suf 13 dt38cX11_operand_8 rfl rfl) (by decide +kernel)
theorem dX11_operand_144 : decode cX11_operand 144 = .ok (.iconst 1, 1) := dq_4 (dq_suf 0 dt38cX11_operand_9 rfl rfl)
theorem dX11_operand_145 : decode cX11_operand 145 = .ok (.goto 4, 3) := dq_167 (dq_suf 1 dt38cX11_operand_9 rfl rfl) (by decide +kernel)
theorem dX11_operand_148 : decode cX11_operand 148 = .ok (.iconst 0, 1) := dq_3 (dq_suf 4 dt38cX11_operand_9 rfl rfl)
theorem dX11_operand_149 : decode cX11_operand 149 = .ok (.istore_n 2, 1) := dq_61 (dq_suf 5 dt38cX11_operand_9 rfl rfl)
theorem dX11_operand_150 : decode cX11_operand 150 = .ok (.iload_n 1, 1) := dq_27 (dq_suf 6 dt38cX11_operand_9 rfl rfl)
theorem dX11_operand_151 : decode cX11_operand 151 = .ok (.bipush 60, 2) := dq_16 (dq_suf 7 dt38cX11_operand_9 rfl rfl) (by decide +kernel)
theorem dX11_operand_153 : decode cX11_operand 153 = .ok (.if_icmp .ne 36, 3) := dq_160 (dq_suf 9 dt38cX11_operand_9 rfl rfl) (by decide +kernel)
theorem dX11_operand_156 : decode cX11_operand 156 = .ok (.aload_n 0, 1) := dq_42 (dq_suf 12 dt38cX11_operand_9 rfl rfl)
theorem dX11_operand_157 : decode cX11_operand 157 = .ok (.getfield 175, 3) := dq_180 (dq_suf 13 dt38cX11_operand_9 rfl rfl) rfl
theorem dX11_operand_160 : decode cX11_operand 160 = .ok (.iconst 1, 1) := dq_4 (dq_suf 0 dt38cX11_operand_10 rfl rfl)
theorem dX11_operand_161 : decode cX11_operand 161 = .ok (.iadd, 1) := dq_96 (dq_suf 1 dt38cX11_operand_10 rfl rfl)
theorem dX11_operand_162 : decode cX11_operand 162 = .ok (.aload_n 0, 1) := dq_42 (dq_suf 2 dt38cX11_operand_10 rfl rfl)
theorem dX11_operand_163 : decode cX11_operand 163 = .ok (.getfield 178, 3) := dq_180 (dq_suf 3 dt38cX11_operand_10 rfl rfl) rfl
theorem dX11_operand_166 : decode cX11_operand 166 = .ok (.if_icmp .ge 23, 3) := dq_162 (dq_suf 6 dt38cX11_operand_10 rfl rfl) (by decide +kernel)
theorem dX11_operand_169 : decode cX11_operand 169 = .ok (.aload_n 0, 1) := dq_42 (dq_suf 9 dt38cX11_operand_10 rfl rfl)
theorem dX11_operand_170 : decode cX11_operand 170 = .ok (.getfield 7, 3) := dq_180 (dq_suf 10 dt38cX11_operand_10 rfl rfl) rfl
theorem dX11_operand_173 : decode cX11_operand 173 = .ok (.aload_n 0, 1) := dq_42 (dq_suf 13 dt38cX11_operand_10 rfl rfl)
theorem dX11_operand_174 : decode cX11_operand 174 = .ok (.getfield 175, 3) := dq_180 (dq_suf 14 dt38cX11_operand_10 rfl rfl) rfl
theorem dX11_operand_177 : decode cX11_operand 177 = .ok (.iconst 1, 1) := dq_4 (dq_suf 1 dt38cX11_operand_11 rfl rfl)
theorem dX11_operand_178 : decode cX11_operand 178 = .ok (.iadd, 1) := dq_96 (dq_suf 2 dt38cX11_operand_11 rfl rfl)
theorem dX11_operand_179 : decode cX11_operand 179 = .ok (.baload, 1) := dq_51 (dq_suf 3 dt38cX11_operand_11 rfl rfl)
theorem dX11_operand_180 : decode cX11_operand 180 = .ok (.bipush 62, 2) := dq_16 (dq_suf 4 dt38cX11_operand_11 rfl rfl) (by decide +kernel)
theorem dX11_operand_182 : decode cX11_operand 182 = .ok (.if_icmp .ne 7, 3) := dq_160 (dq_suf 6 dt38cX11_operand_11 rfl rfl) (by decide +kernel)
theorem dX11_operand_185 : decode cX11_operand 185 = .ok (.iconst 1, 1) := dq_4 (dq_suf 9 dt38cX11_operand_11 rfl rfl)
theorem dX11_operand_186 : decode cX11_operand 186 = .ok (.goto 4, 3) := dq_167 (dq_suf 10 dt38cX11_operand_11 rfl rfl) (by decide +kernel)
theorem dX11_operand_189 : decode cX11_operand 189 = .ok (.iconst 0, 1) := dq_3 (dq_suf 13 dt38cX11_operand_11 rfl rfl)
theorem dX11_operand_190 : decode cX11_operand 190 = .ok (.istore_n 3, 1) := dq_62 (dq_suf 14 dt38cX11_operand_11 rfl rfl)
theorem dX11_operand_191 : decode cX11_operand 191 = .ok (.iload_n 1, 1) := dq_27 (dq_suf 15 dt38cX11_operand_11 rfl rfl)
theorem dX11_operand_192 : decode cX11_operand 192 = .ok (.bipush 40, 2) := dq_16 (dq_suf 0 dt38cX11_operand_12 rfl rfl) (by decide +kernel)
theorem dX11_operand_194 : decode cX11_operand 194 = .ok (.if_icmp .eq 27, 3) := dq_159 (dq_suf 2 dt38cX11_operand_12 rfl rfl) (by decide +kernel)
theorem dX11_operand_197 : decode cX11_operand 197 = .ok (.iload_n 1, 1) := dq_27 (dq_suf 5 dt38cX11_operand_12 rfl rfl)
theorem dX11_operand_198 : decode cX11_operand 198 = .ok (.bipush 33, 2) := dq_16 (dq_suf 6 dt38cX11_operand_12 rfl rfl) (by decide +kernel)
theorem dX11_operand_200 : decode cX11_operand 200 = .ok (.if_icmp .eq 21, 3) := dq_159 (dq_suf 8 dt38cX11_operand_12 rfl rfl) (by decide +kernel)
theorem dX11_operand_203 : decode cX11_operand 203 = .ok (.iload_n 2, 1) := dq_28 (dq_suf 11 dt38cX11_operand_12 rfl rfl)
theorem dX11_operand_204 : decode cX11_operand 204 = .ok (.ifCond .ne 17, 3) := dq_154 (dq_suf 12 dt38cX11_operand_12 rfl rfl) (by decide +kernel)
theorem dX11_operand_207 : decode cX11_operand 207 = .ok (.iload_n 3, 1) := dq_29 (dq_suf 15 dt38cX11_operand_12 rfl rfl)
theorem dX11_operand_208 : decode cX11_operand 208 = .ok (.ifCond .ne 13, 3) := dq_154 (dq_suf 0 dt38cX11_operand_13 rfl rfl) (by decide +kernel)
theorem dX11_operand_211 : decode cX11_operand 211 = .ok (.aload_n 0, 1) := dq_42 (dq_suf 3 dt38cX11_operand_13 rfl rfl)
theorem dX11_operand_212 : decode cX11_operand 212 = .ok (.iconst 1, 1) := dq_4 (dq_suf 4 dt38cX11_operand_13 rfl rfl)
theorem dX11_operand_213 : decode cX11_operand 213 = .ok (.invokevirtual 207, 3) := dq_182 (dq_suf 5 dt38cX11_operand_13 rfl rfl) rfl
theorem dX11_operand_216 : decode cX11_operand 216 = .ok (.istore 4, 2) := dq_54 (dq_suf 8 dt38cX11_operand_13 rfl rfl) rfl
theorem dX11_operand_218 : decode cX11_operand 218 = .ok (.goto 103, 3) := dq_167 (dq_suf 10 dt38cX11_operand_13 rfl rfl) (by decide +kernel)
theorem dX11_operand_221 : decode cX11_operand 221 = .ok (.aload_n 0, 1) := dq_42 (dq_suf 13 dt38cX11_operand_13 rfl rfl)
theorem dX11_operand_222 : decode cX11_operand 222 = .ok (.iload_n 1, 1) := dq_27 (dq_suf 14 dt38cX11_operand_13 rfl rfl)
theorem dX11_operand_223 : decode cX11_operand 223 = .ok (.bipush 40, 2) := dq_16 (dq_suf 15 dt38cX11_operand_13 rfl rfl) (by decide +kernel)
theorem dX11_operand_225 : decode cX11_operand 225 = .ok (.if_icmp .ne 7, 3) := dq_160 (dq_suf 1 dt38cX11_operand_14 rfl rfl) (by decide +kernel)
theorem dX11_operand_228 : decode cX11_operand 228 = .ok (.iconst 0, 1) := dq_3 (dq_suf 4 dt38cX11_operand_14 rfl rfl)
theorem dX11_operand_229 : decode cX11_operand 229 = .ok (.goto 22, 3) := dq_167 (dq_suf 5 dt38cX11_operand_14 rfl rfl) (by decide +kernel)
theorem dX11_operand_232 : decode cX11_operand 232 = .ok (.iload_n 1, 1) := dq_27 (dq_suf 8 dt38cX11_operand_14 rfl rfl)
theorem dX11_operand_233 : decode cX11_operand 233 = .ok (.bipush 33, 2) := dq_16 (dq_suf 9 dt38cX11_operand_14 rfl rfl) (by decide +kernel)
theorem dX11_operand_235 : decode cX11_operand 235 = .ok (.if_icmp .ne 7, 3) := dq_160 (dq_suf 11 dt38cX11_operand_14 rfl rfl) (by decide +kernel)
theorem dX11_operand_238 : decode cX11_operand 238 = .ok (.iconst 1, 1) := dq_4 (dq_suf 14 dt38cX11_operand_14 rfl rfl)
theorem dX11_operand_239 : decode cX11_operand 239 = .ok (.goto 12, 3) := dq_167 (dq_suf 15 dt38cX11_operand_14 rfl rfl) (by decide +kernel)
theorem dX11_operand_242 : decode cX11_operand 242 = .ok (.iload_n 2, 1) := dq_28 (dq_suf 2 dt38cX11_operand_15 rfl rfl)
theorem dX11_operand_243 : decode cX11_operand 243 = .ok (.ifCond .eq 7, 3) := dq_153 (dq_suf 3 dt38cX11_operand_15 rfl rfl) (by decide +kernel)
theorem dX11_operand_246 : decode cX11_operand 246 = .ok (.iconst 2, 1) := dq_5 (dq_suf 6 dt38cX11_operand_15 rfl rfl)
theorem dX11_operand_247 : decode cX11_operand 247 = .ok (.goto 4, 3) := dq_167 (dq_suf 7 dt38cX11_operand_15 rfl rfl) (by decide +kernel)
theorem dX11_operand_250 : decode cX11_operand 250 = .ok (.iconst 3, 1) := dq_6 (dq_suf 10 dt38cX11_operand_15 rfl rfl)
theorem dX11_operand_251 : decode cX11_operand 251 = .ok (.invokevirtual 217, 3) := dq_182 (dq_suf 11 dt38cX11_operand_15 rfl rfl) rfl
theorem dX11_operand_254 : decode cX11_operand 254 = .ok (.ifCond .eq 67, 3) := dq_153 (dq_suf 14 dt38cX11_operand_15 rfl rfl) (by decide +kernel)
theorem dX11_operand_257 : decode cX11_operand 257 = .ok (.aload_n 0, 1) := dq_42 (dq_suf 1 dt38cX11_operand_16 rfl rfl)
theorem dX11_operand_258 : decode cX11_operand 258 = .ok (.getfield 187, 3) := dq_180 (dq_suf 2 dt38cX11_operand_16 rfl rfl) rfl
theorem dX11_operand_261 : decode cX11_operand 261 = .ok (.ifCond .ne 18, 3) := dq_154 (dq_suf 5 dt38cX11_operand_16 rfl rfl) (by decide +kernel)
theorem dX11_operand_264 : decode cX11_operand 264 = .ok (.iload_n 2, 1) := dq_28 (dq_suf 8 dt38cX11_operand_16 rfl rfl)
theorem dX11_operand_265 : decode cX11_operand 265 = .ok (.ifCond .ne 7, 3) := dq_154 (dq_suf 9 dt38cX11_operand_16 rfl rfl) (by decide +kernel)
theorem dX11_operand_268 : decode cX11_operand 268 = .ok (.iload_n 3, 1) := dq_29 (dq_suf 12 dt38cX11_operand_16 rfl rfl)
theorem dX11_operand_269 : decode cX11_operand 269 = .ok (.ifCond .eq 10, 3) := dq_153 (dq_suf 13 dt38cX11_operand_16 rfl rfl) (by decide +kernel)
theorem dX11_operand_272 : decode cX11_operand 272 = .ok (.aload_n 0, 1) := dq_42 (dq_suf 0 dt38cX11_operand_17 rfl rfl)
theorem dX11_operand_273 : decode cX11_operand 273 = .ok (.iconst 3, 1) := dq_6 (dq_suf 1 dt38cX11_operand_17 rfl rfl)
theorem dX11_operand_274 : decode cX11_operand 274 = .ok (.invokevirtual 207, 3) := dq_182 (dq_suf 2 dt38cX11_operand_17 rfl rfl) rfl
theorem dX11_operand_277 : decode cX11_operand 277 = .ok (.istore 4, 2) := dq_54 (dq_suf 5 dt38cX11_operand_17 rfl rfl) rfl
theorem dX11_operand_279 : decode cX11_operand 279 = .ok (.aload_n 0, 1) := dq_42 (dq_suf 7 dt38cX11_operand_17 rfl rfl)
theorem dX11_operand_280 : decode cX11_operand 280 = .ok (.dup, 1) := dq_89 (dq_suf 8 dt38cX11_operand_17 rfl rfl)
theorem dX11_operand_281 : decode cX11_operand 281 = .ok (.getfield 175, 3) := dq_180 (dq_suf 9 dt38cX11_operand_17 rfl rfl) rfl
theorem dX11_operand_284 : decode cX11_operand 284 = .ok (.iload_n 2, 1) := dq_28 (dq_suf 12 dt38cX11_operand_17 rfl rfl)
theorem dX11_operand_285 : decode cX11_operand 285 = .ok (.ifCond .ne 7, 3) := dq_154 (dq_suf 13 dt38cX11_operand_17 rfl rfl) (by decide +kernel)
theorem dX11_operand_288 : decode cX11_operand 288 = .ok (.iload_n 3, 1) := dq_29 (dq_suf 0 dt38cX11_operand_18 rfl rfl)
theorem dX11_operand_289 : decode cX11_operand 289 = .ok (.ifCond .eq 7, 3) := dq_153 (dq_suf 1 dt38cX11_operand_18 rfl rfl) (by decide +kernel)
theorem dX11_operand_292 : decode cX11_operand 292 = .ok (.iconst 2, 1) := dq_5 (dq_suf 4 dt38cX11_operand_18 rfl rfl)
theorem dX11_operand_293 : decode cX11_operand 293 = .ok (.goto 4, 3) := dq_167 (dq_suf 5 dt38cX11_operand_18 rfl rfl) (by decide +kernel)
theorem dX11_operand_296 : decode cX11_operand 296 = .ok (.iconst 1, 1) := dq_4 (dq_suf 8 dt38cX11_operand_18 rfl rfl)
theorem dX11_operand_297 : decode cX11_operand 297 = .ok (.iadd, 1) := dq_96 (dq_suf 9 dt38cX11_operand_18 rfl rfl)
theorem dX11_operand_298 : decode cX11_operand 298 = .ok (.putfield 175, 3) := dq_181 (dq_suf 10 dt38cX11_operand_18 rfl rfl) rfl
theorem dX11_operand_301 : decode cX11_operand 301 = .ok (.aload_n 0, 1) := dq_42 (dq_suf 13 dt38cX11_operand_18 rfl rfl)
theorem dX11_operand_302 : decode cX11_operand 302 = .ok (.dup, 1) := dq_89 (dq_suf 14 dt38cX11_operand_18 rfl rfl)
theorem dX11_operand_303 : decode cX11_operand 303 = .ok (.getfield 221, 3) := dq_180 (dq_suf 15 dt38cX11_operand_18 rfl rfl) rfl
theorem dX11_operand_306 : decode cX11_operand 306 = .ok (.iload_n 1, 1) := dq_27 (dq_suf 2 dt38cX11_operand_19 rfl rfl)
theorem dX11_operand_307 : decode cX11_operand 307 = .ok (.bipush 40, 2) := dq_16 (dq_suf 3 dt38cX11_operand_19 rfl rfl) (by decide +kernel)
theorem dX11_operand_309 : decode cX11_operand 309 = .ok (.if_icmp .ne 7, 3) := dq_160 (dq_suf 5 dt38cX11_operand_19 rfl rfl) (by decide +kernel)
theorem dX11_operand_312 : decode cX11_operand 312 = .ok (.iconst 1, 1) := dq_4 (dq_suf 8 dt38cX11_operand_19 rfl rfl)
theorem dX11_operand_313 : decode cX11_operand 313 = .ok (.goto 4, 3) := dq_167 (dq_suf 9 dt38cX11_operand_19 rfl rfl) (by decide +kernel)
theorem dX11_operand_316 : decode cX11_operand 316 = .ok (.iconst 0, 1) := dq_3 (dq_suf 12 dt38cX11_operand_19 rfl rfl)
theorem dX11_operand_317 : decode cX11_operand 317 = .ok (.iadd, 1) := dq_96 (dq_suf 13 dt38cX11_operand_19 rfl rfl)
theorem dX11_operand_318 : decode cX11_operand 318 = .ok (.putfield 221, 3) := dq_181 (dq_suf 14 dt38cX11_operand_19 rfl rfl) rfl
theorem dX11_operand_321 : decode cX11_operand 321 = .ok (.iconst 0, 1) := dq_3 (dq_suf 1 dt38cX11_operand_20 rfl rfl)
theorem dX11_operand_322 : decode cX11_operand 322 = .ok (.ireturn, 1) := dq_172 (dq_suf 2 dt38cX11_operand_20 rfl rfl)
noncomputable def ds38cX11_whole_17 : List UInt8 := 172 :: 167 :: 255 :: 0 :: 3 :: 172 :: []
noncomputable def ds38cX11_whole_16 : List UInt8 := 42 :: 4 :: 182 :: 0 :: 207 :: 54 :: 4 :: 167 :: 0 :: 10 :: 42 :: 180 :: 0 :: 54 :: 3 :: 46 :: ds38cX11_whole_17
noncomputable def ds38cX11_whole_15 : List UInt8 := 0 :: 204 :: 42 :: 182 :: 0 :: 214 :: 167 :: 0 :: 27 :: 42 :: 180 :: 0 :: 221 :: 158 :: 0 :: 13 :: ds38cX11_whole_16
noncomputable def ds38cX11_whole_14 : List UInt8 := 180 :: 0 :: 194 :: 4 :: 100 :: 181 :: 0 :: 194 :: 42 :: 89 :: 180 :: 0 :: 204 :: 4 :: 100 :: 181 :: ds38cX11_whole_15
noncomputable def ds38cX11_whole_13 : List UInt8 := 96 :: 181 :: 0 :: 175 :: 42 :: 89 :: 180 :: 0 :: 221 :: 4 :: 100 :: 181 :: 0 :: 221 :: 42 :: 89 :: ds38cX11_whole_14
noncomputable def ds38cX11_whole_12 : List UInt8 := 160 :: 0 :: 57 :: 42 :: 180 :: 0 :: 221 :: 158 :: 0 :: 50 :: 42 :: 89 :: 180 :: 0 :: 175 :: 4 :: ds38cX11_whole_13
noncomputable def ds38cX11_whole_11 : List UInt8 := 180 :: 0 :: 194 :: 4 :: 96 :: 181 :: 0 :: 194 :: 3 :: 60 :: 167 :: 0 :: 87 :: 28 :: 16 :: 41 :: ds38cX11_whole_12
noncomputable def ds38cX11_whole_10 : List UInt8 := 96 :: 181 :: 0 :: 175 :: 42 :: 180 :: 0 :: 57 :: 42 :: 180 :: 0 :: 194 :: 29 :: 79 :: 42 :: 89 :: ds38cX11_whole_11
noncomputable def ds38cX11_whole_9 : List UInt8 := 0 :: 228 :: 167 :: 255 :: 195 :: 29 :: 2 :: 159 :: 0 :: 38 :: 42 :: 89 :: 180 :: 0 :: 175 :: 4 :: ds38cX11_whole_10
noncomputable def ds38cX11_whole_8 : List UInt8 := 0 :: 194 :: 4 :: 100 :: 46 :: 29 :: 160 :: 0 :: 15 :: 29 :: 8 :: 159 :: 0 :: 10 :: 42 :: 182 :: ds38cX11_whole_9
noncomputable def ds38cX11_whole_7 : List UInt8 := 180 :: 0 :: 194 :: 4 :: 100 :: 46 :: 29 :: 163 :: 0 :: 23 :: 42 :: 180 :: 0 :: 57 :: 42 :: 180 :: ds38cX11_whole_8
noncomputable def ds38cX11_whole_6 : List UInt8 := 42 :: 180 :: 0 :: 194 :: 4 :: 100 :: 46 :: 6 :: 164 :: 0 :: 45 :: 42 :: 180 :: 0 :: 57 :: 42 :: ds38cX11_whole_7
noncomputable def ds38cX11_whole_5 : List UInt8 := 167 :: 0 :: 4 :: 2 :: 62 :: 42 :: 180 :: 0 :: 194 :: 158 :: 0 :: 60 :: 42 :: 180 :: 0 :: 57 :: ds38cX11_whole_6
noncomputable def ds38cX11_whole_4 : List UInt8 := 160 :: 0 :: 8 :: 16 :: 6 :: 167 :: 0 :: 15 :: 28 :: 16 :: 38 :: 160 :: 0 :: 8 :: 16 :: 7 :: ds38cX11_whole_5
noncomputable def ds38cX11_whole_3 : List UInt8 := 167 :: 0 :: 36 :: 28 :: 16 :: 62 :: 160 :: 0 :: 7 :: 8 :: 167 :: 0 :: 26 :: 28 :: 16 :: 124 :: ds38cX11_whole_4
noncomputable def ds38cX11_whole_2 : List UInt8 := 60 :: 167 :: 255 :: 240 :: 42 :: 182 :: 0 :: 210 :: 61 :: 28 :: 16 :: 61 :: 160 :: 0 :: 7 :: 7 :: ds38cX11_whole_3
noncomputable def ds38cX11_whole_1 : List UInt8 := 60 :: 42 :: 180 :: 0 :: 181 :: 154 :: 0 :: 255 :: 27 :: 154 :: 0 :: 11 :: 42 :: 182 :: 0 :: 224 :: ds38cX11_whole_2
noncomputable def ds38cX11_whole_0 : List UInt8 := 42 :: 3 :: 181 :: 0 :: 197 :: 42 :: 3 :: 181 :: 0 :: 194 :: 42 :: 3 :: 181 :: 0 :: 221 :: 3 :: ds38cX11_whole_1
theorem dt38cX11_whole_0 : cX11_whole.data.toList.drop 0 = ds38cX11_whole_0 := by decide +kernel
theorem dt38cX11_whole_1 : cX11_whole.data.toList.drop 16 = ds38cX11_whole_1 := dq_suf 16 dt38cX11_whole_0 rfl rfl
theorem dt38cX11_whole_2 : cX11_whole.data.toList.drop 32 = ds38cX11_whole_2 := dq_suf 16 dt38cX11_whole_1 rfl rfl
theorem dt38cX11_whole_3 : cX11_whole.data.toList.drop 48 = ds38cX11_whole_3 := dq_suf 16 dt38cX11_whole_2 rfl rfl
theorem dt38cX11_whole_4 : cX11_whole.data.toList.drop 64 = ds38cX11_whole_4 := dq_suf 16 dt38cX11_whole_3 rfl rfl
theorem dt38cX11_whole_5 : cX11_whole.data.toList.drop 80 = ds38cX11_whole_5 := dq_suf 16 dt38cX11_whole_4 rfl rfl
theorem dt38cX11_whole_6 : cX11_whole.data.toList.drop 96 = ds38cX11_whole_6 := dq_suf 16 dt38cX11_whole_5 rfl rfl
theorem dt38cX11_whole_7 : cX11_whole.data.toList.drop 112 = ds38cX11_whole_7 := dq_suf 16 dt38cX11_whole_6 rfl rfl
theorem dt38cX11_whole_8 : cX11_whole.data.toList.drop 128 = ds38cX11_whole_8 := dq_suf 16 dt38cX11_whole_7 rfl rfl
theorem dt38cX11_whole_9 : cX11_whole.data.toList.drop 144 = ds38cX11_whole_9 := dq_suf 16 dt38cX11_whole_8 rfl rfl
theorem dt38cX11_whole_10 : cX11_whole.data.toList.drop 160 = ds38cX11_whole_10 := dq_suf 16 dt38cX11_whole_9 rfl rfl
theorem dt38cX11_whole_11 : cX11_whole.data.toList.drop 176 = ds38cX11_whole_11 := dq_suf 16 dt38cX11_whole_10 rfl rfl
theorem dt38cX11_whole_12 : cX11_whole.data.toList.drop 192 = ds38cX11_whole_12 := dq_suf 16 dt38cX11_whole_11 rfl rfl
theorem dt38cX11_whole_13 : cX11_whole.data.toList.drop 208 = ds38cX11_whole_13 := dq_suf 16 dt38cX11_whole_12 rfl rfl
theorem dt38cX11_whole_14 : cX11_whole.data.toList.drop 224 = ds38cX11_whole_14 := dq_suf 16 dt38cX11_whole_13 rfl rfl
theorem dt38cX11_whole_15 : cX11_whole.data.toList.drop 240 = ds38cX11_whole_15 := dq_suf 16 dt38cX11_whole_14 rfl rfl
theorem dt38cX11_whole_16 : cX11_whole.data.toList.drop 256 = ds38cX11_whole_16 := dq_suf 16 dt38cX11_whole_15 rfl rfl
theorem dt38cX11_whole_17 : cX11_whole.data.toList.drop 272 = ds38cX11_whole_17 := dq_suf 16 dt38cX11_whole_16 rfl rfl
theorem dX11_whole_0 : decode cX11_whole 0 = .ok (.aload_n 0, 1) := dq_42 (dq_suf 0 dt38cX11_whole_0 rfl rfl)
theorem dX11_whole_1 : decode cX11_whole 1 = .ok (.iconst 0, 1) := dq_3 (dq_suf 1 dt38cX11_whole_0 rfl rfl)
theorem dX11_whole_2 : decode cX11_whole 2 = .ok (.putfield 197, 3) := dq_181 (dq_suf 2 dt38cX11_whole_0 rfl rfl) rfl
theorem dX11_whole_5 : decode cX11_whole 5 = .ok (.aload_n 0, 1) := dq_42 (dq_suf 5 dt38cX11_whole_0 rfl rfl)
theorem dX11_whole_6 : decode cX11_whole 6 = .ok (.iconst 0, 1) := dq_3 (dq_suf 6 dt38cX11_whole_0 rfl rfl)
theorem dX11_whole_7 : decode cX11_whole 7 = .ok (.putfield 194, 3) := dq_181 (dq_suf 7 dt38cX11_whole_0 rfl rfl) rfl
theorem dX11_whole_10 : decode cX11_whole 10 = .ok (.aload_n 0, 1) := dq_42 (dq_suf 10 dt38cX11_whole_0 rfl rfl)
theorem dX11_whole_11 : decode cX11_whole 11 = .ok (.iconst 0, 1) := dq_3 (dq_suf 11 dt38cX11_whole_0 rfl rfl)
theorem dX11_whole_12 : decode cX11_whole 12 = .ok (.putfield 221, 3) := dq_181 (dq_suf 12 dt38cX11_whole_0 rfl rfl) rfl
theorem dX11_whole_15 : decode cX11_whole 15 = .ok (.iconst 0, 1) := dq_3 (dq_suf 15 dt38cX11_whole_0 rfl rfl)
theorem dX11_whole_16 : decode cX11_whole 16 = .ok (.istore_n 1, 1) := dq_60 (dq_suf 0 dt38cX11_whole_1 rfl rfl)
theorem dX11_whole_17 : decode cX11_whole 17 = .ok (.aload_n 0, 1) := dq_42 (dq_suf 1 dt38cX11_whole_1 rfl rfl)
theorem dX11_whole_18 : decode cX11_whole 18 = .ok (.getfield 181, 3) := dq_180 (dq_suf 2 dt38cX11_whole_1 rfl rfl) rfl
theorem dX11_whole_21 : decode cX11_whole 21 = .ok (.ifCond .ne 255, 3) := dq_154 (dq_suf 5 dt38cX11_whole_1 rfl rfl) (by decide +kernel)
theorem dX11_whole_24 : decode cX11_whole 24 = .ok (.iload_n 1, 1) := dq_27 (dq_suf 8 dt38cX11_whole_1 rfl rfl)
theorem dX11_whole_25 : decode cX11_whole 25 = .ok (.ifCond .ne 11, 3) := dq_154 (dq_suf 9 dt38cX11_whole_1 rfl rfl) (by decide +kernel)
theorem dX11_whole_28 : decode cX11_whole 28 = .ok (.aload_n 0, 1) := dq_42 (dq_suf 12 dt38cX11_whole_1 rfl rfl)
theorem dX11_whole_29 : decode cX11_whole 29 = .ok (.invokevirtual 224, 3) := dq_182 (dq_suf 13 dt38cX11_whole_1 rfl rfl) rfl
theorem dX11_whole_32 : decode cX11_whole 32 = .ok (.istore_n 1, 1) := dq_60 (dq_suf 0 dt38cX11_whole_2 rfl rfl)
theorem dX11_whole_33 : decode cX11_whole 33 = .ok (.goto (-16), 3) := dq_167 (dq_suf 1 dt38cX11_whole_2 rfl rfl) (by decide +kernel)
theorem dX11_whole_36 : decode cX11_whole 36 = .ok (.aload_n 0, 1) := dq_42 (dq_suf 4 dt38cX11_whole_2 rfl rfl)
theorem dX11_whole_37 : decode cX11_whole 37 = .ok (.invokevirtual 210, 3) := dq_182 (dq_suf 5 dt38cX11_whole_2 rfl rfl) rfl
theorem dX11_whole_40 : decode cX11_whole 40 = .ok (.istore_n 2, 1) := dq_61 (dq_suf 8 dt38cX11_whole_2 rfl rfl)
theorem dX11_whole_41 : decode cX11_whole 41 = .ok (.iload_n 2, 1) := dq_28 (dq_suf 9 dt38cX11_whole_2 rfl rfl)
theorem dX11_whole_42 : decode cX11_whole 42 = .ok (.bipush 61, 2) := dq_16 (dq_suf 10 dt38cX11_whole_2 rfl rfl) (by decide +kernel)
theorem dX11_whole_44 : decode cX11_whole 44 = .ok (.if_icmp .ne 7, 3) := dq_160 (dq_suf 12 dt38cX11_whole_2 rfl rfl) (by decide +kernel)
theorem dX11_whole_47 : decode cX11_whole 47 = .ok (.iconst 4, 1) := dq_7 (dq_suf 15 dt38cX11_whole_2 rfl rfl)
theorem dX11_whole_48 : decode cX11_whole 48 = .ok (.goto 36, 3) := dq_167 (dq_suf 0 dt38cX11_whole_3 rfl rfl) (by decide +kernel)
theorem dX11_whole_51 : decode cX11_whole 51 = .ok (.iload_n 2, 1) := dq_28 (dq_suf 3 dt38cX11_whole_3 rfl rfl)
theorem dX11_whole_52 : decode cX11_whole 52 = .ok (.bipush 62, 2) := dq_16 (dq_suf 4 dt38cX11_whole_3 rfl rfl) (by decide +kernel)
theorem dX11_whole_54 : decode cX11_whole 54 = .ok (.if_icmp .ne 7, 3) := dq_160 (dq_suf 6 dt38cX11_whole_3 rfl rfl) (by decide +kernel)
theorem dX11_whole_57 : decode cX11_whole 57 = .ok (.iconst 5, 1) := dq_8 (dq_suf 9 dt38cX11_whole_3 rfl rfl)
theorem dX11_whole_58 : decode cX11_whole 58 = .ok (.goto 26, 3) := dq_167 (dq_suf 10 dt38cX11_whole_3 rfl rfl) (by decide +kernel)
theorem dX11_whole_61 : decode cX11_whole 61 = .ok (.iload_n 2, 1) := dq_28 (dq_suf 13 dt38cX11_whole_3 rfl rfl)
theorem dX11_whole_62 : decode cX11_whole 62 = .ok (.bipush 124, 2) := dq_16 (dq_suf 14 dt38cX11_whole_3 rfl rfl) (by decide +kernel)
theorem dX11_whole_64 : decode cX11_whole 64 = .ok (.if_icmp .ne 8, 3) := dq_160 (dq_suf 0 dt38cX11_whole_4 rfl rfl) (by decide +kernel)
theorem dX11_whole_67 : decode cX11_whole 67 = .ok (.bipush 6, 2) := dq_16 (dq_suf 3 dt38cX11_whole_4 rfl rfl) (by decide +kernel)
theorem dX11_whole_69 : decode cX11_whole 69 = .ok (.goto 15, 3) := dq_167 (dq_suf 5 dt38cX11_whole_4 rfl rfl) (by decide +kernel)
theorem dX11_whole_72 : decode cX11_whole 72 = .ok (.iload_n 2, 1) := dq_28 (dq_suf 8 dt38cX11_whole_4 rfl rfl)
theorem dX11_whole_73 : decode cX11_whole 73 = .ok (.bipush 38, 2) := dq_16 (dq_suf 9 dt38cX11_whole_4 rfl rfl) (by decide +kernel)
theorem dX11_whole_75 : decode cX11_whole 75 = .ok (.if_icmp .ne 8, 3) := dq_160 (dq_suf 11 dt38cX11_whole_4 rfl rfl) (by decide +kernel)
theorem dX11_whole_78 : decode cX11_whole 78 = .ok (.bipush 7, 2) := dq_16 (dq_suf 14 dt38cX11_whole_4 rfl rfl) (by decide +kernel)
theorem dX11_whole_80 : decode cX11_whole 80 = .ok (.goto 4, 3) := dq_167 (dq_suf 0 dt38cX11_whole_5 rfl rfl) (by decide +kernel)
theorem dX11_whole_83 : decode cX11_whole 83 = .ok (.iconst (-1), 1) := dq_2 (dq_suf 3 dt38cX11_whole_5 rfl rfl)
theorem dX11_whole_84 : decode cX11_whole 84 = .ok (.istore_n 3, 1) := dq_62 (dq_suf 4 dt38cX11_whole_5 rfl rfl)
theorem dX11_whole_85 : decode cX11_whole 85 = .ok (.aload_n 0, 1) := dq_42 (dq_suf 5 dt38cX11_whole_5 rfl rfl)
theorem dX11_whole_86 : decode cX11_whole 86 = .ok (.getfield 194, 3) := dq_180 (dq_suf 6 dt38cX11_whole_5 rfl rfl) rfl
theorem dX11_whole_89 : decode cX11_whole 89 = .ok (.ifCond .le 60, 3) := dq_158 (dq_suf 9 dt38cX11_whole_5 rfl rfl) (by decide +kernel)
theorem dX11_whole_92 : decode cX11_whole 92 = .ok (.aload_n 0, 1) := dq_42 (dq_suf 12 dt38cX11_whole_5 rfl rfl)
theorem dX11_whole_93 : decode cX11_whole 93 = .ok (.getfield 57, 3) := dq_180 (dq_suf 13 dt38cX11_whole_5 rfl rfl) rfl
theorem dX11_whole_96 : decode cX11_whole 96 = .ok (.aload_n 0, 1) := dq_42 (dq_suf 0 dt38cX11_whole_6 rfl rfl)
theorem dX11_whole_97 : decode cX11_whole 97 = .ok (.getfield 194, 3) := dq_180 (dq_suf 1 dt38cX11_whole_6 rfl rfl) rfl
theorem dX11_whole_100 : decode cX11_whole 100 = .ok (.iconst 1, 1) := dq_4 (dq_suf 4 dt38cX11_whole_6 rfl rfl)
theorem dX11_whole_101 : decode cX11_whole 101 = .ok (.isub, 1) := dq_100 (dq_suf 5 dt38cX11_whole_6 rfl rfl)
theorem dX11_whole_102 : decode cX11_whole 102 = .ok (.iaload, 1) := dq_46 (dq_suf 6 dt38cX11_whole_6 rfl rfl)
theorem dX11_whole_103 : decode cX11_whole 103 = .ok (.iconst 3, 1) := dq_6 (dq_suf 7 dt38cX11_whole_6 rfl rfl)
theorem dX11_whole_104 : decode cX11_whole 104 = .ok (.if_icmp .le 45, 3) := dq_164 (dq_suf 8 dt38cX11_whole_6 rfl rfl) (by decide +kernel)
theorem dX11_whole_107 : decode cX11_whole 107 = .ok (.aload_n 0, 1) := dq_42 (dq_suf 11 dt38cX11_whole_6 rfl rfl)
theorem dX11_whole_108 : decode cX11_whole 108 = .ok (.getfield 57, 3) := dq_180 (dq_suf 12 dt38cX11_whole_6 rfl rfl) rfl
theorem dX11_whole_111 : decode cX11_whole 111 = .ok (.aload_n 0, 1) := dq_42 (dq_suf 15 dt38cX11_whole_6 rfl rfl)
theorem dX11_whole_112 : decode cX11_whole 112 = .ok (.getfield 194, 3) := dq_180 (dq_suf 0 dt38cX11_whole_7 rfl rfl) rfl
theorem dX11_whole_115 : decode cX11_whole 115 = .ok (.iconst 1, 1) := dq_4 (dq_suf 3 dt38cX11_whole_7 rfl rfl)
theorem dX11_whole_116 : decode cX11_whole 116 = .ok (.isub, 1) := dq_100 (dq_suf 4 dt38cX11_whole_7 rfl rfl)
theorem dX11_whole_117 : decode cX11_whole 117 = .ok (.iaload, 1) := dq_46 (dq_suf 5 dt38cX11_whole_7 rfl rfl)
theorem dX11_whole_118 : decode cX11_whole 118 = .ok (.iload_n 3, 1) := dq_29 (dq_suf 6 dt38cX11_whole_7 rfl rfl)
theorem dX11_whole_119 : decode cX11_whole 119 = .ok (.if_icmp .gt 23, 3) := dq_163 (dq_suf 7 dt38cX11_whole_7 rfl rfl) (by decide +kernel)
theorem dX11_whole_122 : decode cX11_whole 122 = .ok (.aload_n 0, 1) := dq_42 (dq_suf 10 dt38cX11_whole_7 rfl rfl)
theorem dX11_whole_123 : decode cX11_whole 123 = .ok (.getfield 57, 3) := dq_180 (dq_suf 11 dt38cX11_whole_7 rfl rfl) rfl
theorem dX11_whole_126 : decode cX11_whole 126 = .ok (.aload_n 0, 1) := dq_42 (dq_suf 14 dt38cX11_whole_7 rfl rfl)
theorem dX11_whole_127 : decode cX11_whole 127 = .ok (.getfield 194, 3) := dq_180 (dq_suf 15 dt38cX11_whole_7 rfl rfl) rfl
theorem dX11_whole_130 : decode cX11_whole 130 = .ok (.iconst 1, 1) := dq_4 (dq_suf 2 dt38cX11_whole_8 rfl rfl)
theorem dX11_whole_131 : decode cX11_whole 131 = .ok (.isub, 1) := dq_100 (dq_suf 3 dt38cX11_whole_8 rfl rfl)
theorem dX11_whole_132 : decode cX11_whole 132 = .ok (.iaload, 1) := dq_46 (dq_suf 4 dt38cX11_whole_8 rfl rfl)
theorem dX11_whole_133 : decode cX11_whole 133 = .ok (.iload_n 3, 1) := dq_29 (dq_suf 5 dt38cX11_whole_8 rfl rfl)
theorem dX11_whole_134 : decode cX11_whole 134 = .ok (.if_icmp .ne 15, 3) := dq_160 (dq_suf 6 dt38cX11_whole_8 rfl rfl) (by decide +kernel)
theorem dX11_whole_137 : decode cX11_whole 137 = .ok (.iload_n 3, 1) := dq_29 (dq_suf 9 dt38cX11_whole_8 rfl rfl)
theorem dX11_whole_138 : decode cX11_whole 138 = .ok (.iconst 5, 1) := dq_8 (dq_suf 10 dt38cX11_whole_8 rfl rfl)
theorem dX11_whole_139 : decode cX11_whole 139 = .ok (.if_icmp .eq 10, 3) := dq_159 (dq_suf 11 dt38cX11_whole_8 rfl rfl) (by decide +kernel)
theorem dX11_whole_142 : decode cX11_whole 142 = .ok (.aload_n 0, 1) := dq_42 (dq_suf 14 dt38cX11_whole_8 rfl rfl)
theorem dX11_whole_143 : decode cX11_whole 143 = .ok (.invokevirtual 228, 3) := dq_182 (dq_suf 15 dt38cX11_whole_8 rfl rfl) rfl
theorem dX11_whole_146 : decode cX11_whole 146 = .ok (.goto (-61), 3) := dq_167 (dq_suf 2 dt38cX11_whole_9 rfl rfl) (by decide +kernel)
theorem dX11_whole_149 : decode cX11_whole 149 = .ok (.iload_n 3, 1) := dq_29 (dq_suf 5 dt38cX11_whole_9 rfl rfl)
theorem dX11_whole_150 : decode cX11_whole 150 = .ok (.iconst (-1), 1) := dq_2 (dq_suf 6 dt38cX11_whole_9 rfl rfl)
theorem dX11_whole_151 : decode cX11_whole 151 = .ok (.if_icmp .eq 38, 3) := dq_159 (dq_suf 7 dt38cX11_whole_9 rfl rfl) (by decide +kernel)
theorem dX11_whole_154 : decode cX11_whole 154 = .ok (.aload_n 0, 1) := dq_42 (dq_suf 10 dt38cX11_whole_9 rfl rfl)
theorem dX11_whole_155 : decode cX11_whole 155 = .ok (.dup, 1) := dq_89 (dq_suf 11 dt38cX11_whole_9 rfl rfl)
theorem dX11_whole_156 : decode cX11_whole 156 = .ok (.getfield 175, 3) := dq_180 (dq_suf 12 dt38cX11_whole_9 rfl rfl) rfl
theorem dX11_whole_159 : decode cX11_whole 159 = .ok (.iconst 1, 1) := dq_4 (dq_suf 15 dt38cX11_whole_9 rfl rfl)
theorem dX11_whole_160 : decode cX11_whole 160 = .ok (.iadd, 1) := dq_96 (dq_suf 0 dt38cX11_whole_10 rfl rfl)
theorem dX11_whole_161 : decode cX11_whole 161 = .ok (.putfield 175, 3) := dq_181 (dq_suf 1 dt38cX11_whole_10 rfl rfl) rfl
theorem dX11_whole_164 : decode cX11_whole 164 = .ok (.aload_n 0, 1) := dq_42 (dq_suf 4 dt38cX11_whole_10 rfl rfl)
theorem dX11_whole_165 : decode cX11_whole 165 = .ok (.getfield 57, 3) := dq_180 (dq_suf 5 dt38cX11_whole_10 rfl rfl) rfl
theorem dX11_whole_168 : decode cX11_whole 168 = .ok (.aload_n 0, 1) := dq_42 (dq_suf 8 dt38cX11_whole_10 rfl rfl)
theorem dX11_whole_169 : decode cX11_whole 169 = .ok (.getfield 194, 3) := dq_180 (dq_suf 9 dt38cX11_whole_10 rfl rfl) rfl
theorem dX11_whole_172 : decode cX11_whole 172 = .ok (.iload_n 3, 1) := dq_29 (dq_suf 12 dt38cX11_whole_10 rfl rfl)
theorem dX11_whole_173 : decode cX11_whole 173 = .ok (.iastore, 1) := dq_79 (dq_suf 13 dt38cX11_whole_10 rfl rfl)
theorem dX11_whole_174 : decode cX11_whole 174 = .ok (.aload_n 0, 1) := dq_42 (dq_suf 14 dt38cX11_whole_10 rfl rfl)
theorem dX11_whole_175 : decode cX11_whole 175 = .ok (.dup, 1) := dq_89 (dq_suf 15 dt38cX11_whole_10 rfl rfl)
theorem dX11_whole_176 : decode cX11_whole 176 = .ok (.getfield 194, 3) := dq_180 (dq_suf 0 dt38cX11_whole_11 rfl rfl) rfl
theorem dX11_whole_179 : decode cX11_whole 179 = .ok (.iconst 1, 1) := dq_4 (dq_suf 3 dt38cX11_whole_11 rfl rfl)
theorem dX11_whole_180 : decode cX11_whole 180 = .ok (.iadd, 1) := dq_96 (dq_suf 4 dt38cX11_whole_11 rfl rfl)
theorem dX11_whole_181 : decode cX11_whole 181 = .ok (.putfield 194, 3) := dq_181 (dq_suf 5 dt38cX11_whole_11 rfl rfl) rfl
theorem dX11_whole_184 : decode cX11_whole 184 = .ok (.iconst 0, 1) := dq_3 (dq_suf 8 dt38cX11_whole_11 rfl rfl)
theorem dX11_whole_185 : decode cX11_whole 185 = .ok (.istore_n 1, 1) := dq_60 (dq_suf 9 dt38cX11_whole_11 rfl rfl)
theorem dX11_whole_186 : decode cX11_whole 186 = .ok (.goto 87, 3) := dq_167 (dq_suf 10 dt38cX11_whole_11 rfl rfl) (by decide +kernel)
theorem dX11_whole_189 : decode cX11_whole 189 = .ok (.iload_n 2, 1) := dq_28 (dq_suf 13 dt38cX11_whole_11 rfl rfl)
theorem dX11_whole_190 : decode cX11_whole 190 = .ok (.bipush 41, 2) := dq_16 (dq_suf 14 dt38cX11_whole_11 rfl rfl) (by decide +kernel)
theorem dX11_whole_192 : decode cX11_whole 192 = .ok (.if_icmp .ne 57, 3) := dq_160 (dq_suf 0 dt38cX11_whole_12 rfl rfl) (by decide +kernel)
theorem dX11_whole_195 : decode cX11_whole 195 = .ok (.aload_n 0, 1) := dq_42 (dq_suf 3 dt38cX11_whole_12 rfl rfl)
theorem dX11_whole_196 : decode cX11_whole 196 = .ok (.getfield 221, 3) := dq_180 (dq_suf 4 dt38cX11_whole_12 rfl rfl) rfl
theorem dX11_whole_199 : decode cX11_whole 199 = .ok (.ifCond .le 50, 3) := dq_158 (dq_suf 7 dt38cX11_whole_12 rfl rfl) (by decide +kernel)
theorem dX11_whole_202 : decode cX11_whole 202 = .ok (.aload_n 0, 1) := dq_42 (dq_suf 10 dt38cX11_whole_12 rfl rfl)
theorem dX11_whole_203 : decode cX11_whole 203 = .ok (.dup, 1) := dq_89 (dq_suf 11 dt38cX11_whole_12 rfl rfl)
theorem dX11_whole_204 : decode cX11_whole 204 = .ok (.getfield 175, 3) := dq_180 (dq_suf 12 dt38cX11_whole_12 rfl rfl) rfl
theorem dX11_whole_207 : decode cX11_whole 207 = .ok (.iconst 1, 1) := dq_4 (dq_suf 15 dt38cX11_whole_12 rfl rfl)
theorem dX11_whole_208 : decode cX11_whole 208 = .ok (.iadd, 1) := dq_96 (dq_suf 0 dt38cX11_whole_13 rfl rfl)
theorem dX11_whole_209 : decode cX11_whole 209 = .ok (.putfield 175, 3) := dq_181 (dq_suf 1 dt38cX11_whole_13 rfl rfl) rfl
theorem dX11_whole_212 : decode cX11_whole 212 = .ok (.aload_n 0, 1) := dq_42 (dq_suf 4 dt38cX11_whole_13 rfl rfl)
theorem dX11_whole_213 : decode cX11_whole 213 = .ok (.dup, 1) := dq_89 (dq_suf 5 dt38cX11_whole_13 rfl rfl)
theorem dX11_whole_214 : decode cX11_whole 214 = .ok (.getfield 221, 3) := dq_180 (dq_suf 6 dt38cX11_whole_13 rfl rfl) rfl
theorem dX11_whole_217 : decode cX11_whole 217 = .ok (.iconst 1, 1) := dq_4 (dq_suf 9 dt38cX11_whole_13 rfl rfl)
theorem dX11_whole_218 : decode cX11_whole 218 = .ok (.isub, 1) := dq_100 (dq_suf 10 dt38cX11_whole_13 rfl rfl)
theorem dX11_whole_219 : decode cX11_whole 219 = .ok (.putfield 221, 3) := dq_181 (dq_suf 11 dt38cX11_whole_13 rfl rfl) rfl
theorem dX11_whole_222 : decode cX11_whole 222 = .ok (.aload_n 0, 1) := dq_42 (dq_suf 14 dt38cX11_whole_13 rfl rfl)
theorem dX11_whole_223 : decode cX11_whole 223 = .ok (.dup, 1) := dq_89 (dq_suf 15 dt38cX11_whole_13 rfl rfl)
theorem dX11_whole_224 : decode cX11_whole 224 = .ok (.getfield 194, 3) := dq_180 (dq_suf 0 dt38cX11_whole_14 rfl rfl) rfl
theorem dX11_whole_227 : decode cX11_whole 227 = .ok (.iconst 1, 1) := dq_4 (dq_suf 3 dt38cX11_whole_14 rfl rfl)
theorem dX11_whole_228 : decode cX11_whole 228 = .ok (.isub, 1) := dq_100 (dq_suf 4 dt38cX11_whole_14 rfl rfl)
theorem dX11_whole_229 : decode cX11_whole 229 = .ok (.putfield 194, 3) := dq_181 (dq_suf 5 dt38cX11_whole_14 rfl rfl) rfl
theorem dX11_whole_232 : decode cX11_whole 232 = .ok (.aload_n 0, 1) := dq_42 (dq_suf 8 dt38cX11_whole_14 rfl rfl)
theorem dX11_whole_233 : decode cX11_whole 233 = .ok (.dup, 1) := dq_89 (dq_suf 9 dt38cX11_whole_14 rfl rfl)
theorem dX11_whole_234 : decode cX11_whole 234 = .ok (.getfield 204, 3) := dq_180 (dq_suf 10 dt38cX11_whole_14 rfl rfl) rfl
theorem dX11_whole_237 : decode cX11_whole 237 = .ok (.iconst 1, 1) := dq_4 (dq_suf 13 dt38cX11_whole_14 rfl rfl)
theorem dX11_whole_238 : decode cX11_whole 238 = .ok (.isub, 1) := dq_100 (dq_suf 14 dt38cX11_whole_14 rfl rfl)
theorem dX11_whole_239 : decode cX11_whole 239 = .ok (.putfield 204, 3) := dq_181 (dq_suf 15 dt38cX11_whole_14 rfl rfl) rfl
theorem dX11_whole_242 : decode cX11_whole 242 = .ok (.aload_n 0, 1) := dq_42 (dq_suf 2 dt38cX11_whole_15 rfl rfl)
theorem dX11_whole_243 : decode cX11_whole 243 = .ok (.invokevirtual 214, 3) := dq_182 (dq_suf 3 dt38cX11_whole_15 rfl rfl) rfl
theorem dX11_whole_246 : decode cX11_whole 246 = .ok (.goto 27, 3) := dq_167 (dq_suf 6 dt38cX11_whole_15 rfl rfl) (by decide +kernel)
theorem dX11_whole_249 : decode cX11_whole 249 = .ok (.aload_n 0, 1) := dq_42 (dq_suf 9 dt38cX11_whole_15 rfl rfl)
theorem dX11_whole_250 : decode cX11_whole 250 = .ok (.getfield 221, 3) := dq_180 (dq_suf 10 dt38cX11_whole_15 rfl rfl) rfl
theorem dX11_whole_253 : decode cX11_whole 253 = .ok (.ifCond .le 13, 3) := dq_158 (dq_suf 13 dt38cX11_whole_15 rfl rfl) (by decide +kernel)
theorem dX11_whole_256 : decode cX11_whole 256 = .ok (.aload_n 0, 1) := dq_42 (dq_suf 0 dt38cX11_whole_16 rfl rfl)
theorem dX11_whole_257 : decode cX11_whole 257 = .ok (.iconst 1, 1) := dq_4 (dq_suf 1 dt38cX11_whole_16 rfl rfl)
theorem dX11_whole_258 : decode cX11_whole 258 = .ok (.invokevirtual 207, 3) := dq_182 (dq_suf 2 dt38cX11_whole_16 rfl rfl) rfl
theorem dX11_whole_261 : decode cX11_whole 261 = .ok (.istore 4, 2) := dq_54 (dq_suf 5 dt38cX11_whole_16 rfl rfl) rfl
theorem dX11_whole_263 : decode cX11_whole 263 = .ok (.goto 10, 3) := dq_167 (dq_suf 7 dt38cX11_whole_16 rfl rfl) (by decide +kernel)
theorem dX11_whole_266 : decode cX11_whole 266 = .ok (.aload_n 0, 1) := dq_42 (dq_suf 10 dt38cX11_whole_16 rfl rfl)
theorem dX11_whole_267 : decode cX11_whole 267 = .ok (.getfield 54, 3) := dq_180 (dq_suf 11 dt38cX11_whole_16 rfl rfl) rfl
theorem dX11_whole_270 : decode cX11_whole 270 = .ok (.iconst 0, 1) := dq_3 (dq_suf 14 dt38cX11_whole_16 rfl rfl)
theorem dX11_whole_271 : decode cX11_whole 271 = .ok (.iaload, 1) := dq_46 (dq_suf 15 dt38cX11_whole_16 rfl rfl)
theorem dX11_whole_272 : decode cX11_whole 272 = .ok (.ireturn, 1) := dq_172 (dq_suf 0 dt38cX11_whole_17 rfl rfl)
theorem dX11_whole_273 : decode cX11_whole 273 = .ok (.goto (-256), 3) := dq_167 (dq_suf 1 dt38cX11_whole_17 rfl rfl) (by decide +kernel)
theorem dX11_whole_276 : decode cX11_whole 276 = .ok (.iconst 0, 1) := dq_3 (dq_suf 4 dt38cX11_whole_17 rfl rfl)
theorem dX11_whole_277 : decode cX11_whole 277 = .ok (.ireturn, 1) := dq_172 (dq_suf 5 dt38cX11_whole_17 rfl rfl)
noncomputable def ds38cX11_isMade_3 : List UInt8 := 89 :: 180 :: 0 :: 231 :: 4 :: 96 :: 181 :: 0 :: 231 :: 3 :: 172 :: []
noncomputable def ds38cX11_isMade_2 : List UInt8 := 231 :: 5 :: 27 :: 104 :: 28 :: 153 :: 0 :: 7 :: 3 :: 167 :: 0 :: 4 :: 4 :: 96 :: 79 :: 42 :: ds38cX11_isMade_3
noncomputable def ds38cX11_isMade_1 : List UInt8 := 51 :: 27 :: 46 :: 2 :: 159 :: 0 :: 5 :: 4 :: 172 :: 42 :: 180 :: 0 :: 60 :: 42 :: 180 :: 0 :: ds38cX11_isMade_2
noncomputable def ds38cX11_isMade_0 : List UInt8 := 28 :: 153 :: 0 :: 12 :: 42 :: 180 :: 0 :: 48 :: 27 :: 46 :: 167 :: 0 :: 9 :: 42 :: 180 :: 0 :: ds38cX11_isMade_1
theorem dt38cX11_isMade_0 : cX11_isMade.data.toList.drop 0 = ds38cX11_isMade_0 := by decide +kernel
theorem dt38cX11_isMade_1 : cX11_isMade.data.toList.drop 16 = ds38cX11_isMade_1 := dq_suf 16 dt38cX11_isMade_0 rfl rfl
theorem dt38cX11_isMade_2 : cX11_isMade.data.toList.drop 32 = ds38cX11_isMade_2 := dq_suf 16 dt38cX11_isMade_1 rfl rfl
theorem dt38cX11_isMade_3 : cX11_isMade.data.toList.drop 48 = ds38cX11_isMade_3 := dq_suf 16 dt38cX11_isMade_2 rfl rfl
theorem dX11_isMade_0 : decode cX11_isMade 0 = .ok (.iload_n 2, 1) := dq_28 (dq_suf 0 dt38cX11_isMade_0 rfl rfl)
theorem dX11_isMade_1 : decode cX11_isMade 1 = .ok (.ifCond .eq 12, 3) := dq_153 (dq_suf 1 dt38cX11_isMade_0 rfl rfl) (by decide +kernel)
theorem dX11_isMade_4 : decode cX11_isMade 4 = .ok (.aload_n 0, 1) := dq_42 (dq_suf 4 dt38cX11_isMade_0 rfl rfl)
theorem dX11_isMade_5 : decode cX11_isMade 5 = .ok (.getfield 48, 3) := dq_180 (dq_suf 5 dt38cX11_isMade_0 rfl rfl) rfl
theorem dX11_isMade_8 : decode cX11_isMade 8 = .ok (.iload_n 1, 1) := dq_27 (dq_suf 8 dt38cX11_isMade_0 rfl rfl)
theorem dX11_isMade_9 : decode cX11_isMade 9 = .ok (.iaload, 1) := dq_46 (dq_suf 9 dt38cX11_isMade_0 rfl rfl)
theorem dX11_isMade_10 : decode cX11_isMade 10 = .ok (.goto 9, 3) := dq_167 (dq_suf 10 dt38cX11_isMade_0 rfl rfl) (by decide +kernel)
theorem dX11_isMade_13 : decode cX11_isMade 13 = .ok (.aload_n 0, 1) := dq_42 (dq_suf 13 dt38cX11_isMade_0 rfl rfl)
theorem dX11_isMade_14 : decode cX11_isMade 14 = .ok (.getfield 51, 3) := dq_180 (dq_suf 14 dt38cX11_isMade_0 rfl rfl) rfl
theorem dX11_isMade_17 : decode cX11_isMade 17 = .ok (.iload_n 1, 1) := dq_27 (dq_suf 1 dt38cX11_isMade_1 rfl rfl)
theorem dX11_isMade_18 : decode cX11_isMade 18 = .ok (.iaload, 1) := dq_46 (dq_suf 2 dt38cX11_isMade_1 rfl rfl)
theorem dX11_isMade_19 : decode cX11_isMade 19 = .ok (.iconst (-1), 1) := dq_2 (dq_suf 3 dt38cX11_isMade_1 rfl rfl)
theorem dX11_isMade_20 : decode cX11_isMade 20 = .ok (.if_icmp .eq 5, 3) := dq_159 (dq_suf 4 dt38cX11_isMade_1 rfl rfl) (by decide +kernel)
theorem dX11_isMade_23 : decode cX11_isMade 23 = .ok (.iconst 1, 1) := dq_4 (dq_suf 7 dt38cX11_isMade_1 rfl rfl)
theorem dX11_isMade_24 : decode cX11_isMade 24 = .ok (.ireturn, 1) := dq_172 (dq_suf 8 dt38cX11_isMade_1 rfl rfl)
theorem dX11_isMade_25 : decode cX11_isMade 25 = .ok (.aload_n 0, 1) := dq_42 (dq_suf 9 dt38cX11_isMade_1 rfl rfl)
theorem dX11_isMade_26 : decode cX11_isMade 26 = .ok (.getfield 60, 3) := dq_180 (dq_suf 10 dt38cX11_isMade_1 rfl rfl) rfl
theorem dX11_isMade_29 : decode cX11_isMade 29 = .ok (.aload_n 0, 1) := dq_42 (dq_suf 13 dt38cX11_isMade_1 rfl rfl)
theorem dX11_isMade_30 : decode cX11_isMade 30 = .ok (.getfield 231, 3) := dq_180 (dq_suf 14 dt38cX11_isMade_1 rfl rfl) rfl
theorem dX11_isMade_33 : decode cX11_isMade 33 = .ok (.iconst 2, 1) := dq_5 (dq_suf 1 dt38cX11_isMade_2 rfl rfl)
theorem dX11_isMade_34 : decode cX11_isMade 34 = .ok (.iload_n 1, 1) := dq_27 (dq_suf 2 dt38cX11_isMade_2 rfl rfl)
theorem dX11_isMade_35 : decode cX11_isMade 35 = .ok (.imul, 1) := dq_104 (dq_suf 3 dt38cX11_isMade_2 rfl rfl)
theorem dX11_isMade_36 : decode cX11_isMade 36 = .ok (.iload_n 2, 1) := dq_28 (dq_suf 4 dt38cX11_isMade_2 rfl rfl)
theorem dX11_isMade_37 : decode cX11_isMade 37 = .ok (.ifCond .eq 7, 3) := dq_153 (dq_suf 5 dt38cX11_isMade_2 rfl rfl) (by decide +kernel)
theorem dX11_isMade_40 : decode cX11_isMade 40 = .ok (.iconst 0, 1) := dq_3 (dq_suf 8 dt38cX11_isMade_2 rfl rfl)
theorem dX11_isMade_41 : decode cX11_isMade 41 = .ok (.goto 4, 3) := dq_167 (dq_suf 9 dt38cX11_isMade_2 rfl rfl) (by decide +kernel)
theorem dX11_isMade_44 : decode cX11_isMade 44 = .ok (.iconst 1, 1) := dq_4 (dq_suf 12 dt38cX11_isMade_2 rfl rfl)
theorem dX11_isMade_45 : decode cX11_isMade 45 = .ok (.iadd, 1) := dq_96 (dq_suf 13 dt38cX11_isMade_2 rfl rfl)
theorem dX11_isMade_46 : decode cX11_isMade 46 = .ok (.iastore, 1) := dq_79 (dq_suf 14 dt38cX11_isMade_2 rfl rfl)
theorem dX11_isMade_47 : decode cX11_isMade 47 = .ok (.aload_n 0, 1) := dq_42 (dq_suf 15 dt38cX11_isMade_2 rfl rfl)
theorem dX11_isMade_48 : decode cX11_isMade 48 = .ok (.dup, 1) := dq_89 (dq_suf 0 dt38cX11_isMade_3 rfl rfl)
theorem dX11_isMade_49 : decode cX11_isMade 49 = .ok (.getfield 231, 3) := dq_180 (dq_suf 1 dt38cX11_isMade_3 rfl rfl) rfl
theorem dX11_isMade_52 : decode cX11_isMade 52 = .ok (.iconst 1, 1) := dq_4 (dq_suf 4 dt38cX11_isMade_3 rfl rfl)
theorem dX11_isMade_53 : decode cX11_isMade 53 = .ok (.iadd, 1) := dq_96 (dq_suf 5 dt38cX11_isMade_3 rfl rfl)
theorem dX11_isMade_54 : decode cX11_isMade 54 = .ok (.putfield 231, 3) := dq_181 (dq_suf 6 dt38cX11_isMade_3 rfl rfl) rfl
theorem dX11_isMade_57 : decode cX11_isMade 57 = .ok (.iconst 0, 1) := dq_3 (dq_suf 9 dt38cX11_isMade_3 rfl rfl)
theorem dX11_isMade_58 : decode cX11_isMade 58 = .ok (.ireturn, 1) := dq_172 (dq_suf 10 dt38cX11_isMade_3 rfl rfl)
noncomputable def ds38cX11_has_1 : List UInt8 := 51 :: 27 :: 46 :: 172 :: []
noncomputable def ds38cX11_has_0 : List UInt8 := 28 :: 153 :: 0 :: 12 :: 42 :: 180 :: 0 :: 48 :: 27 :: 46 :: 167 :: 0 :: 9 :: 42 :: 180 :: 0 :: ds38cX11_has_1
theorem dt38cX11_has_0 : cX11_has.data.toList.drop 0 = ds38cX11_has_0 := by decide +kernel
theorem dt38cX11_has_1 : cX11_has.data.toList.drop 16 = ds38cX11_has_1 := dq_suf 16 dt38cX11_has_0 rfl rfl
theorem dX11_has_0 : decode cX11_has 0 = .ok (.iload_n 2, 1) := dq_28 (dq_suf 0 dt38cX11_has_0 rfl rfl)
theorem dX11_has_1 : decode cX11_has 1 = .ok (.ifCond .eq 12, 3) := dq_153 (dq_suf 1 dt38cX11_has_0 rfl rfl) (by decide +kernel)
theorem dX11_has_4 : decode cX11_has 4 = .ok (.aload_n 0, 1) := dq_42 (dq_suf 4 dt38cX11_has_0 rfl rfl)
theorem dX11_has_5 : decode cX11_has 5 = .ok (.getfield 48, 3) := dq_180 (dq_suf 5 dt38cX11_has_0 rfl rfl) rfl
theorem dX11_has_8 : decode cX11_has 8 = .ok (.iload_n 1, 1) := dq_27 (dq_suf 8 dt38cX11_has_0 rfl rfl)
theorem dX11_has_9 : decode cX11_has 9 = .ok (.iaload, 1) := dq_46 (dq_suf 9 dt38cX11_has_0 rfl rfl)
theorem dX11_has_10 : decode cX11_has 10 = .ok (.goto 9, 3) := dq_167 (dq_suf 10 dt38cX11_has_0 rfl rfl) (by decide +kernel)
theorem dX11_has_13 : decode cX11_has 13 = .ok (.aload_n 0, 1) := dq_42 (dq_suf 13 dt38cX11_has_0 rfl rfl)
theorem dX11_has_14 : decode cX11_has 14 = .ok (.getfield 51, 3) := dq_180 (dq_suf 14 dt38cX11_has_0 rfl rfl) rfl
theorem dX11_has_17 : decode cX11_has 17 = .ok (.iload_n 1, 1) := dq_27 (dq_suf 1 dt38cX11_has_1 rfl rfl)
theorem dX11_has_18 : decode cX11_has 18 = .ok (.iaload, 1) := dq_46 (dq_suf 2 dt38cX11_has_1 rfl rfl)
theorem dX11_has_19 : decode cX11_has 19 = .ok (.ireturn, 1) := dq_172 (dq_suf 3 dt38cX11_has_1 rfl rfl)
noncomputable def ds38cX11_pair_2 : List UInt8 := 4 :: 21 :: 5 :: 182 :: 0 :: 238 :: 182 :: 0 :: 242 :: 172 :: []
noncomputable def ds38cX11_pair_1 : List UInt8 := 234 :: 154 :: 0 :: 5 :: 2 :: 172 :: 42 :: 27 :: 42 :: 28 :: 29 :: 182 :: 0 :: 238 :: 42 :: 21 :: ds38cX11_pair_2
noncomputable def ds38cX11_pair_0 : List UInt8 := 42 :: 28 :: 29 :: 182 :: 0 :: 234 :: 153 :: 0 :: 14 :: 42 :: 21 :: 4 :: 21 :: 5 :: 182 :: 0 :: ds38cX11_pair_1
theorem dt38cX11_pair_0 : cX11_pair.data.toList.drop 0 = ds38cX11_pair_0 := by decide +kernel
theorem dt38cX11_pair_1 : cX11_pair.data.toList.drop 16 = ds38cX11_pair_1 := dq_suf 16 dt38cX11_pair_0 rfl rfl
theorem dt38cX11_pair_2 : cX11_pair.data.toList.drop 32 = ds38cX11_pair_2 := dq_suf 16 dt38cX11_pair_1 rfl rfl
theorem dX11_pair_0 : decode cX11_pair 0 = .ok (.aload_n 0, 1) := dq_42 (dq_suf 0 dt38cX11_pair_0 rfl rfl)
theorem dX11_pair_1 : decode cX11_pair 1 = .ok (.iload_n 2, 1) := dq_28 (dq_suf 1 dt38cX11_pair_0 rfl rfl)
theorem dX11_pair_2 : decode cX11_pair 2 = .ok (.iload_n 3, 1) := dq_29 (dq_suf 2 dt38cX11_pair_0 rfl rfl)
theorem dX11_pair_3 : decode cX11_pair 3 = .ok (.invokevirtual 234, 3) := dq_182 (dq_suf 3 dt38cX11_pair_0 rfl rfl) rfl
theorem dX11_pair_6 : decode cX11_pair 6 = .ok (.ifCond .eq 14, 3) := dq_153 (dq_suf 6 dt38cX11_pair_0 rfl rfl) (by decide +kernel)
theorem dX11_pair_9 : decode cX11_pair 9 = .ok (.aload_n 0, 1) := dq_42 (dq_suf 9 dt38cX11_pair_0 rfl rfl)
theorem dX11_pair_10 : decode cX11_pair 10 = .ok (.iload 4, 2) := dq_21 (dq_suf 10 dt38cX11_pair_0 rfl rfl) rfl
theorem dX11_pair_12 : decode cX11_pair 12 = .ok (.iload 5, 2) := dq_21 (dq_suf 12 dt38cX11_pair_0 rfl rfl) rfl
theorem dX11_pair_14 : decode cX11_pair 14 = .ok (.invokevirtual 234, 3) := dq_182 (dq_suf 14 dt38cX11_pair_0 rfl rfl) rfl
theorem dX11_pair_17 : decode cX11_pair 17 = .ok (.ifCond .ne 5, 3) := dq_154 (dq_suf 1 dt38cX11_pair_1 rfl rfl) (by decide +kernel)
theorem dX11_pair_20 : decode cX11_pair 20 = .ok (.iconst (-1), 1) := dq_2 (dq_suf 4 dt38cX11_pair_1 rfl rfl)
theorem dX11_pair_21 : decode cX11_pair 21 = .ok (.ireturn, 1) := dq_172 (dq_suf 5 dt38cX11_pair_1 rfl rfl)
theorem dX11_pair_22 : decode cX11_pair 22 = .ok (.aload_n 0, 1) := dq_42 (dq_suf 6 dt38cX11_pair_1 rfl rfl)
theorem dX11_pair_23 : decode cX11_pair 23 = .ok (.iload_n 1, 1) := dq_27 (dq_suf 7 dt38cX11_pair_1 rfl rfl)
theorem dX11_pair_24 : decode cX11_pair 24 = .ok (.aload_n 0, 1) := dq_42 (dq_suf 8 dt38cX11_pair_1 rfl rfl)
theorem dX11_pair_25 : decode cX11_pair 25 = .ok (.iload_n 2, 1) := dq_28 (dq_suf 9 dt38cX11_pair_1 rfl rfl)
theorem dX11_pair_26 : decode cX11_pair 26 = .ok (.iload_n 3, 1) := dq_29 (dq_suf 10 dt38cX11_pair_1 rfl rfl)
theorem dX11_pair_27 : decode cX11_pair 27 = .ok (.invokevirtual 238, 3) := dq_182 (dq_suf 11 dt38cX11_pair_1 rfl rfl) rfl
theorem dX11_pair_30 : decode cX11_pair 30 = .ok (.aload_n 0, 1) := dq_42 (dq_suf 14 dt38cX11_pair_1 rfl rfl)
theorem dX11_pair_31 : decode cX11_pair 31 = .ok (.iload 4, 2) := dq_21 (dq_suf 15 dt38cX11_pair_1 rfl rfl) rfl
theorem dX11_pair_33 : decode cX11_pair 33 = .ok (.iload 5, 2) := dq_21 (dq_suf 1 dt38cX11_pair_2 rfl rfl) rfl
theorem dX11_pair_35 : decode cX11_pair 35 = .ok (.invokevirtual 238, 3) := dq_182 (dq_suf 3 dt38cX11_pair_2 rfl rfl) rfl
theorem dX11_pair_38 : decode cX11_pair 38 = .ok (.invokevirtual 242, 3) := dq_182 (dq_suf 6 dt38cX11_pair_2 rfl rfl) rfl
theorem dX11_pair_41 : decode cX11_pair 41 = .ok (.ireturn, 1) := dq_172 (dq_suf 9 dt38cX11_pair_2 rfl rfl)
noncomputable def ds38cX11_madeOf_23 : List UInt8 := 0 :: 242 :: 167 :: 0 :: 4 :: 2 :: 172 :: []
noncomputable def ds38cX11_madeOf_22 : List UInt8 := 8 :: 16 :: 7 :: 167 :: 0 :: 5 :: 16 :: 6 :: 42 :: 29 :: 28 :: 182 :: 0 :: 238 :: 2 :: 182 :: ds38cX11_madeOf_23
noncomputable def ds38cX11_madeOf_21 : List UInt8 := 4 :: 2 :: 172 :: 42 :: 29 :: 28 :: 182 :: 0 :: 234 :: 153 :: 0 :: 28 :: 42 :: 28 :: 153 :: 0 :: ds38cX11_madeOf_22
noncomputable def ds38cX11_madeOf_20 : List UInt8 := 0 :: 5 :: 16 :: 7 :: 42 :: 29 :: 28 :: 182 :: 0 :: 238 :: 2 :: 182 :: 0 :: 242 :: 167 :: 0 :: ds38cX11_madeOf_21
noncomputable def ds38cX11_madeOf_19 : List UInt8 := 29 :: 28 :: 182 :: 0 :: 234 :: 153 :: 0 :: 28 :: 42 :: 28 :: 153 :: 0 :: 8 :: 16 :: 6 :: 167 :: ds38cX11_madeOf_20
noncomputable def ds38cX11_madeOf_18 : List UInt8 := 0 :: 7 :: 7 :: 167 :: 0 :: 4 :: 8 :: 21 :: 5 :: 21 :: 6 :: 182 :: 0 :: 242 :: 172 :: 42 :: ds38cX11_madeOf_19
noncomputable def ds38cX11_madeOf_17 : List UInt8 := 245 :: 54 :: 6 :: 21 :: 6 :: 2 :: 160 :: 0 :: 7 :: 2 :: 167 :: 0 :: 20 :: 42 :: 28 :: 153 :: ds38cX11_madeOf_18
noncomputable def ds38cX11_madeOf_16 : List UInt8 := 7 :: 29 :: 28 :: 21 :: 4 :: 28 :: 154 :: 0 :: 7 :: 4 :: 167 :: 0 :: 4 :: 3 :: 182 :: 0 :: ds38cX11_madeOf_17
noncomputable def ds38cX11_madeOf_15 : List UInt8 := 160 :: 0 :: 7 :: 2 :: 167 :: 0 :: 29 :: 42 :: 28 :: 153 :: 0 :: 7 :: 8 :: 167 :: 0 :: 4 :: ds38cX11_madeOf_16
noncomputable def ds38cX11_madeOf_14 : List UInt8 := 4 :: 167 :: 0 :: 4 :: 3 :: 21 :: 4 :: 28 :: 182 :: 0 :: 245 :: 54 :: 5 :: 21 :: 5 :: 2 :: ds38cX11_madeOf_15
noncomputable def ds38cX11_madeOf_13 : List UInt8 := 172 :: 42 :: 28 :: 153 :: 0 :: 7 :: 8 :: 167 :: 0 :: 4 :: 7 :: 29 :: 28 :: 154 :: 0 :: 7 :: ds38cX11_madeOf_14
noncomputable def ds38cX11_madeOf_12 : List UInt8 := 29 :: 28 :: 154 :: 0 :: 7 :: 4 :: 167 :: 0 :: 4 :: 3 :: 21 :: 4 :: 28 :: 182 :: 0 :: 245 :: ds38cX11_madeOf_13
noncomputable def ds38cX11_madeOf_11 : List UInt8 := 4 :: 28 :: 182 :: 0 :: 245 :: 172 :: 42 :: 28 :: 153 :: 0 :: 7 :: 8 :: 167 :: 0 :: 4 :: 7 :: ds38cX11_madeOf_12
noncomputable def ds38cX11_madeOf_10 : List UInt8 := 0 :: 245 :: 172 :: 42 :: 28 :: 153 :: 0 :: 7 :: 8 :: 167 :: 0 :: 4 :: 7 :: 29 :: 28 :: 21 :: ds38cX11_madeOf_11
noncomputable def ds38cX11_madeOf_9 : List UInt8 := 42 :: 28 :: 153 :: 0 :: 7 :: 7 :: 167 :: 0 :: 4 :: 8 :: 29 :: 28 :: 21 :: 4 :: 28 :: 182 :: ds38cX11_madeOf_10
noncomputable def ds38cX11_madeOf_8 : List UInt8 := 154 :: 0 :: 7 :: 4 :: 167 :: 0 :: 4 :: 3 :: 182 :: 0 :: 238 :: 167 :: 0 :: 4 :: 2 :: 172 :: ds38cX11_madeOf_9
noncomputable def ds38cX11_madeOf_7 : List UInt8 := 0 :: 7 :: 4 :: 167 :: 0 :: 4 :: 3 :: 182 :: 0 :: 234 :: 153 :: 0 :: 20 :: 42 :: 29 :: 28 :: ds38cX11_madeOf_8
noncomputable def ds38cX11_madeOf_6 : List UInt8 := 7 :: 5 :: 167 :: 0 :: 4 :: 6 :: 29 :: 2 :: 182 :: 0 :: 242 :: 172 :: 42 :: 29 :: 28 :: 154 :: ds38cX11_madeOf_7
noncomputable def ds38cX11_madeOf_5 : List UInt8 := 4 :: 172 :: 28 :: 153 :: 0 :: 7 :: 4 :: 167 :: 0 :: 4 :: 3 :: 172 :: 42 :: 28 :: 153 :: 0 :: ds38cX11_madeOf_6
noncomputable def ds38cX11_madeOf_4 : List UInt8 := 0 :: 0 :: 0 :: 188 :: 0 :: 0 :: 1 :: 26 :: 28 :: 153 :: 0 :: 7 :: 3 :: 167 :: 0 :: 4 :: ds38cX11_madeOf_5
noncomputable def ds38cX11_madeOf_3 : List UInt8 := 0 :: 0 :: 0 :: 87 :: 0 :: 0 :: 0 :: 123 :: 0 :: 0 :: 0 :: 142 :: 0 :: 0 :: 0 :: 161 :: ds38cX11_madeOf_4
noncomputable def ds38cX11_madeOf_2 : List UInt8 := 0 :: 0 :: 0 :: 8 :: 0 :: 0 :: 0 :: 51 :: 0 :: 0 :: 0 :: 61 :: 0 :: 0 :: 0 :: 71 :: ds38cX11_madeOf_3
noncomputable def ds38cX11_madeOf_1 : List UInt8 := 180 :: 0 :: 39 :: 27 :: 46 :: 170 :: 0 :: 0 :: 0 :: 0 :: 1 :: 62 :: 0 :: 0 :: 0 :: 0 :: ds38cX11_madeOf_2
noncomputable def ds38cX11_madeOf_0 : List UInt8 := 42 :: 180 :: 0 :: 42 :: 27 :: 46 :: 62 :: 42 :: 180 :: 0 :: 45 :: 27 :: 46 :: 54 :: 4 :: 42 :: ds38cX11_madeOf_1
theorem dt38cX11_madeOf_0 : cX11_madeOf.data.toList.drop 0 = ds38cX11_madeOf_0 := by decide +kernel
theorem dt38cX11_madeOf_1 : cX11_madeOf.data.toList.drop 16 = ds38cX11_madeOf_1 := dq_suf 16 dt38cX11_madeOf_0 rfl rfl
theorem dt38cX11_madeOf_2 : cX11_madeOf.data.toList.drop 32 = ds38cX11_madeOf_2 := dq_suf 16 dt38cX11_madeOf_1 rfl rfl
theorem dt38cX11_madeOf_3 : cX11_madeOf.data.toList.drop 48 = ds38cX11_madeOf_3 := dq_suf 16 dt38cX11_madeOf_2 rfl rfl
theorem dt38cX11_madeOf_4 : cX11_madeOf.data.toList.drop 64 = ds38cX11_madeOf_4 := dq_suf 16 dt38cX11_madeOf_3 rfl rfl
theorem dt38cX11_madeOf_5 : cX11_madeOf.data.toList.drop 80 = ds38cX11_madeOf_5 := dq_suf 16 dt38cX11_madeOf_4 rfl rfl
theorem dt38cX11_madeOf_6 : cX11_madeOf.data.toList.drop 96 = ds38cX11_madeOf_6 := dq_suf 16 dt38cX11_madeOf_5 rfl rfl
theorem dt38cX11_madeOf_7 : cX11_madeOf.data.toList.drop 112 = ds38cX11_madeOf_7 := dq_suf 16 dt38cX11_madeOf_6 rfl rfl
theorem dt38cX11_madeOf_8 : cX11_madeOf.data.toList.drop 128 = ds38cX11_madeOf_8 := dq_suf 16 dt38cX11_madeOf_7 rfl rfl
theorem dt38cX11_madeOf_9 : cX11_madeOf.data.toList.drop 144 = ds38cX11_madeOf_9 := dq_suf 16 dt38cX11_madeOf_8 rfl rfl
theorem dt38cX11_madeOf_10 : cX11_madeOf.data.toList.drop 160 = ds38cX11_madeOf_10 := dq_suf 16 dt38cX11_madeOf_9 rfl rfl
theorem dt38cX11_madeOf_11 : cX11_madeOf.data.toList.drop 176 = ds38cX11_madeOf_11 := dq_suf 16 dt38cX11_madeOf_10 rfl rfl
theorem dt38cX11_madeOf_12 : cX11_madeOf.data.toList.drop 192 = ds38cX11_madeOf_12 := dq_suf 16 dt38cX11_madeOf_11 rfl rfl
theorem dt38cX11_madeOf_13 : cX11_madeOf.data.toList.drop 208 = ds38cX11_madeOf_13 := dq_suf 16 dt38cX11_madeOf_12 rfl rfl
theorem dt38cX11_madeOf_14 : cX11_madeOf.data.toList.drop 224 = ds38cX11_madeOf_14 := dq_suf 16 dt38cX11_madeOf_13 rfl rfl
theorem dt38cX11_madeOf_15 : cX11_madeOf.data.toList.drop 240 = ds38cX11_madeOf_15 := dq_suf 16 dt38cX11_madeOf_14 rfl rfl
theorem dt38cX11_madeOf_16 : cX11_madeOf.data.toList.drop 256 = ds38cX11_madeOf_16 := dq_suf 16 dt38cX11_madeOf_15 rfl rfl
theorem dt38cX11_madeOf_17 : cX11_madeOf.data.toList.drop 272 = ds38cX11_madeOf_17 := dq_suf 16 dt38cX11_madeOf_16 rfl rfl
theorem dt38cX11_madeOf_18 : cX11_madeOf.data.toList.drop 288 = ds38cX11_madeOf_18 := dq_suf 16 dt38cX11_madeOf_17 rfl rfl
theorem dt38cX11_madeOf_19 : cX11_madeOf.data.toList.drop 304 = ds38cX11_madeOf_19 := dq_suf 16 dt38cX11_madeOf_18 rfl rfl
theorem dt38cX11_madeOf_20 : cX11_madeOf.data.toList.drop 320 = ds38cX11_madeOf_20 := dq_suf 16 dt38cX11_madeOf_19 rfl rfl
theorem dt38cX11_madeOf_21 : cX11_madeOf.data.toList.drop 336 = ds38cX11_madeOf_21 := dq_suf 16 dt38cX11_madeOf_20 rfl rfl
theorem dt38cX11_madeOf_22 : cX11_madeOf.data.toList.drop 352 = ds38cX11_madeOf_22 := dq_suf 16 dt38cX11_madeOf_21 rfl rfl
theorem dt38cX11_madeOf_23 : cX11_madeOf.data.toList.drop 368 = ds38cX11_madeOf_23 := dq_suf 16 dt38cX11_madeOf_22 rfl rfl
theorem dX11_madeOf_0 : decode cX11_madeOf 0 = .ok (.aload_n 0, 1) := dq_42 (dq_suf 0 dt38cX11_madeOf_0 rfl rfl)
theorem dX11_madeOf_1 : decode cX11_madeOf 1 = .ok (.getfield 42, 3) := dq_180 (dq_suf 1 dt38cX11_madeOf_0 rfl rfl) rfl
theorem dX11_madeOf_4 : decode cX11_madeOf 4 = .ok (.iload_n 1, 1) := dq_27 (dq_suf 4 dt38cX11_madeOf_0 rfl rfl)
theorem dX11_madeOf_5 : decode cX11_madeOf 5 = .ok (.iaload, 1) := dq_46 (dq_suf 5 dt38cX11_madeOf_0 rfl rfl)
theorem dX11_madeOf_6 : decode cX11_madeOf 6 = .ok (.istore_n 3, 1) := dq_62 (dq_suf 6 dt38cX11_madeOf_0 rfl rfl)
theorem dX11_madeOf_7 : decode cX11_madeOf 7 = .ok (.aload_n 0, 1) := dq_42 (dq_suf 7 dt38cX11_madeOf_0 rfl rfl)
theorem dX11_madeOf_8 : decode cX11_madeOf 8 = .ok (.getfield 45, 3) := dq_180 (dq_suf 8 dt38cX11_madeOf_0 rfl rfl) rfl
theorem dX11_madeOf_11 : decode cX11_madeOf 11 = .ok (.iload_n 1, 1) := dq_27 (dq_suf 11 dt38cX11_madeOf_0 rfl rfl)
theorem dX11_madeOf_12 : decode cX11_madeOf 12 = .ok (.iaload, 1) := dq_46 (dq_suf 12 dt38cX11_madeOf_0 rfl rfl)
theorem dX11_madeOf_13 : decode cX11_madeOf 13 = .ok (.istore 4, 2) := dq_54 (dq_suf 13 dt38cX11_madeOf_0 rfl rfl) rfl
theorem dX11_madeOf_15 : decode cX11_madeOf 15 = .ok (.aload_n 0, 1) := dq_42 (dq_suf 15 dt38cX11_madeOf_0 rfl rfl)
theorem dX11_madeOf_16 : decode cX11_madeOf 16 = .ok (.getfield 39, 3) := dq_180 (dq_suf 0 dt38cX11_madeOf_1 rfl rfl) rfl
theorem dX11_madeOf_19 : decode cX11_madeOf 19 = .ok (.iload_n 1, 1) := dq_27 (dq_suf 3 dt38cX11_madeOf_1 rfl rfl)
theorem dX11_madeOf_20 : decode cX11_madeOf 20 = .ok (.iaload, 1) := dq_46 (dq_suf 4 dt38cX11_madeOf_1 rfl rfl)
theorem dX11_madeOf_21 : decode cX11_madeOf 21 = .ok (.tableswitch 318 0 8 #[51, 61, 71, 87, 123, 142, 161, 188, 282], 51) := by decide +kernel
theorem dX11_madeOf_72 : decode cX11_madeOf 72 = .ok (.iload_n 2, 1) := dq_28 (dq_suf 8 dt38cX11_madeOf_4 rfl rfl)
theorem dX11_madeOf_73 : decode cX11_madeOf 73 = .ok (.ifCond .eq 7, 3) := dq_153 (dq_suf 9 dt38cX11_madeOf_4 rfl rfl) (by decide +kernel)
theorem dX11_madeOf_76 : decode cX11_madeOf 76 = .ok (.iconst 0, 1) := dq_3 (dq_suf 12 dt38cX11_madeOf_4 rfl rfl)
theorem dX11_madeOf_77 : decode cX11_madeOf 77 = .ok (.goto 4, 3) := dq_167 (dq_suf 13 dt38cX11_madeOf_4 rfl rfl) (by decide +kernel)
theorem dX11_madeOf_80 : decode cX11_madeOf 80 = .ok (.iconst 1, 1) := dq_4 (dq_suf 0 dt38cX11_madeOf_5 rfl rfl)
theorem dX11_madeOf_81 : decode cX11_madeOf 81 = .ok (.ireturn, 1) := dq_172 (dq_suf 1 dt38cX11_madeOf_5 rfl rfl)
theorem dX11_madeOf_82 : decode cX11_madeOf 82 = .ok (.iload_n 2, 1) := dq_28 (dq_suf 2 dt38cX11_madeOf_5 rfl rfl)
theorem dX11_madeOf_83 : decode cX11_madeOf 83 = .ok (.ifCond .eq 7, 3) := dq_153 (dq_suf 3 dt38cX11_madeOf_5 rfl rfl) (by decide +kernel)
theorem dX11_madeOf_86 : decode cX11_madeOf 86 = .ok (.iconst 1, 1) := dq_4 (dq_suf 6 dt38cX11_madeOf_5 rfl rfl)
theorem dX11_madeOf_87 : decode cX11_madeOf 87 = .ok (.goto 4, 3) := dq_167 (dq_suf 7 dt38cX11_madeOf_5 rfl rfl) (by decide +kernel)
theorem dX11_madeOf_90 : decode cX11_madeOf 90 = .ok (.iconst 0, 1) := dq_3 (dq_suf 10 dt38cX11_madeOf_5 rfl rfl)
theorem dX11_madeOf_91 : decode cX11_madeOf 91 = .ok (.ireturn, 1) := dq_172 (dq_suf 11 dt38cX11_madeOf_5 rfl rfl)
theorem dX11_madeOf_92 : decode cX11_madeOf 92 = .ok (.aload_n 0, 1) := dq_42 (dq_suf 12 dt38cX11_madeOf_5 rfl rfl)
theorem dX11_madeOf_93 : decode cX11_madeOf 93 = .ok (.iload_n 2, 1) := dq_28 (dq_suf 13 dt38cX11_madeOf_5 rfl rfl)
theorem dX11_madeOf_94 : decode cX11_madeOf 94 = .ok (.ifCond .eq 7, 3) := dq_153 (dq_suf 14 dt38cX11_madeOf_5 rfl rfl) (by decide +kernel)
theorem dX11_madeOf_97 : decode cX11_madeOf 97 = .ok (.iconst 2, 1) := dq_5 (dq_suf 1 dt38cX11_madeOf_6 rfl rfl)
theorem dX11_madeOf_98 : decode cX11_madeOf 98 = .ok (.goto 4, 3) := dq_167 (dq_suf 2 dt38cX11_madeOf_6 rfl rfl) (by decide +kernel)
theorem dX11_madeOf_101 : decode cX11_madeOf 101 = .ok (.iconst 3, 1) := dq_6 (dq_suf 5 dt38cX11_madeOf_6 rfl rfl)
theorem dX11_madeOf_102 : decode cX11_madeOf 102 = .ok (.iload_n 3, 1) := dq_29 (dq_suf 6 dt38cX11_madeOf_6 rfl rfl)
theorem dX11_madeOf_103 : decode cX11_madeOf 103 = .ok (.iconst (-1), 1) := dq_2 (dq_suf 7 dt38cX11_madeOf_6 rfl rfl)
theorem dX11_madeOf_104 : decode cX11_madeOf 104 = .ok (.invokevirtual 242, 3) := dq_182 (dq_suf 8 dt38cX11_madeOf_6 rfl rfl) rfl
theorem dX11_madeOf_107 : decode cX11_madeOf 107 = .ok (.ireturn, 1) := dq_172 (dq_suf 11 dt38cX11_madeOf_6 rfl rfl)
theorem dX11_madeOf_108 : decode cX11_madeOf 108 = .ok (.aload_n 0, 1) := dq_42 (dq_suf 12 dt38cX11_madeOf_6 rfl rfl)
theorem dX11_madeOf_109 : decode cX11_madeOf 109 = .ok (.iload_n 3, 1) := dq_29 (dq_suf 13 dt38cX11_madeOf_6 rfl rfl)
theorem dX11_madeOf_110 : decode cX11_madeOf 110 = .ok (.iload_n 2, 1) := dq_28 (dq_suf 14 dt38cX11_madeOf_6 rfl rfl)
theorem dX11_madeOf_111 : decode cX11_madeOf 111 = .ok (.ifCond .ne 7, 3) := dq_154 (dq_suf 15 dt38cX11_madeOf_6 rfl rfl) (by decide +kernel)
theorem dX11_madeOf_114 : decode cX11_madeOf 114 = .ok (.iconst 1, 1) := dq_4 (dq_suf 2 dt38cX11_madeOf_7 rfl rfl)
theorem dX11_madeOf_115 : decode cX11_madeOf 115 = .ok (.goto 4, 3) := dq_167 (dq_suf 3 dt38cX11_madeOf_7 rfl rfl) (by decide +kernel)
theorem dX11_madeOf_118 : decode cX11_madeOf 118 = .ok (.iconst 0, 1) := dq_3 (dq_suf 6 dt38cX11_madeOf_7 rfl rfl)
theorem dX11_madeOf_119 : decode cX11_madeOf 119 = .ok (.invokevirtual 234, 3) := dq_182 (dq_suf 7 dt38cX11_madeOf_7 rfl rfl) rfl
theorem dX11_madeOf_122 : decode cX11_madeOf 122 = .ok (.ifCond .eq 20, 3) := dq_153 (dq_suf 10 dt38cX11_madeOf_7 rfl rfl) (by decide +kernel)
theorem dX11_madeOf_125 : decode cX11_madeOf 125 = .ok (.aload_n 0, 1) := dq_42 (dq_suf 13 dt38cX11_madeOf_7 rfl rfl)
theorem dX11_madeOf_126 : decode cX11_madeOf 126 = .ok (.iload_n 3, 1) := dq_29 (dq_suf 14 dt38cX11_madeOf_7 rfl rfl)
theorem dX11_madeOf_127 : decode cX11_madeOf 127 = .ok (.iload_n 2, 1) := dq_28 (dq_suf 15 dt38cX11_madeOf_7 rfl rfl)
theorem dX11_madeOf_128 : decode cX11_madeOf 128 = .ok (.ifCond .ne 7, 3) := dq_154 (dq_suf 0 dt38cX11_madeOf_8 rfl rfl) (by decide +kernel)
theorem dX11_madeOf_131 : decode cX11_madeOf 131 = .ok (.iconst 1, 1) := dq_4 (dq_suf 3 dt38cX11_madeOf_8 rfl rfl)
theorem dX11_madeOf_132 : decode cX11_madeOf 132 = .ok (.goto 4, 3) := dq_167 (dq_suf 4 dt38cX11_madeOf_8 rfl rfl) (by decide +kernel)
theorem dX11_madeOf_135 : decode cX11_madeOf 135 = .ok (.iconst 0, 1) := dq_3 (dq_suf 7 dt38cX11_madeOf_8 rfl rfl)
theorem dX11_madeOf_136 : decode cX11_madeOf 136 = .ok (.invokevirtual 238, 3) := dq_182 (dq_suf 8 dt38cX11_madeOf_8 rfl rfl) rfl
theorem dX11_madeOf_139 : decode cX11_madeOf 139 = .ok (.goto 4, 3) := dq_167 (dq_suf 11 dt38cX11_madeOf_8 rfl rfl) (by decide +kernel)
theorem dX11_madeOf_142 : decode cX11_madeOf 142 = .ok (.iconst (-1), 1) := dq_2 (dq_suf 14 dt38cX11_madeOf_8 rfl rfl)
theorem dX11_madeOf_143 : decode cX11_madeOf 143 = .ok (.ireturn, 1) := dq_172 (dq_suf 15 dt38cX11_madeOf_8 rfl rfl)
theorem dX11_madeOf_144 : decode cX11_madeOf 144 = .ok (.aload_n 0, 1) := dq_42 (dq_suf 0 dt38cX11_madeOf_9 rfl rfl)
theorem dX11_madeOf_145 : decode cX11_madeOf 145 = .ok (.iload_n 2, 1) := dq_28 (dq_suf 1 dt38cX11_madeOf_9 rfl rfl)
theorem dX11_madeOf_146 : decode cX11_madeOf 146 = .ok (.ifCond .eq 7, 3) := dq_153 (dq_suf 2 dt38cX11_madeOf_9 rfl rfl) (by decide +kernel)
theorem dX11_madeOf_149 : decode cX11_madeOf 149 = .ok (.iconst 4, 1) := dq_7 (dq_suf 5 dt38cX11_madeOf_9 rfl rfl)
theorem dX11_madeOf_150 : decode cX11_madeOf 150 = .ok (.goto 4, 3) := dq_167 (dq_suf 6 dt38cX11_madeOf_9 rfl rfl) (by decide +kernel)
theorem dX11_madeOf_153 : decode cX11_madeOf 153 = .ok (.iconst 5, 1) := dq_8 (dq_suf 9 dt38cX11_madeOf_9 rfl rfl)
theorem dX11_madeOf_154 : decode cX11_madeOf 154 = .ok (.iload_n 3, 1) := dq_29 (dq_suf 10 dt38cX11_madeOf_9 rfl rfl)
theorem dX11_madeOf_155 : decode cX11_madeOf 155 = .ok (.iload_n 2, 1) := dq_28 (dq_suf 11 dt38cX11_madeOf_9 rfl rfl)
theorem dX11_madeOf_156 : decode cX11_madeOf 156 = .ok (.iload 4, 2) := dq_21 (dq_suf 12 dt38cX11_madeOf_9 rfl rfl) rfl
theorem dX11_madeOf_158 : decode cX11_madeOf 158 = .ok (.iload_n 2, 1) := dq_28 (dq_suf 14 dt38cX11_madeOf_9 rfl rfl)
theorem dX11_madeOf_159 : decode cX11_madeOf 159 = .ok (.invokevirtual 245, 3) := dq_182 (dq_suf 15 dt38cX11_madeOf_9 rfl rfl) rfl
theorem dX11_madeOf_162 : decode cX11_madeOf 162 = .ok (.ireturn, 1) := dq_172 (dq_suf 2 dt38cX11_madeOf_10 rfl rfl)
theorem dX11_madeOf_163 : decode cX11_madeOf 163 = .ok (.aload_n 0, 1) := dq_42 (dq_suf 3 dt38cX11_madeOf_10 rfl rfl)
theorem dX11_madeOf_164 : decode cX11_madeOf 164 = .ok (.iload_n 2, 1) := dq_28 (dq_suf 4 dt38cX11_madeOf_10 rfl rfl)
theorem dX11_madeOf_165 : decode cX11_madeOf 165 = .ok (.ifCond .eq 7, 3) := dq_153 (dq_suf 5 dt38cX11_madeOf_10 rfl rfl) (by decide +kernel)
theorem dX11_madeOf_168 : decode cX11_madeOf 168 = .ok (.iconst 5, 1) := dq_8 (dq_suf 8 dt38cX11_madeOf_10 rfl rfl)
theorem dX11_madeOf_169 : decode cX11_madeOf 169 = .ok (.goto 4, 3) := dq_167 (dq_suf 9 dt38cX11_madeOf_10 rfl rfl) (by decide +kernel)
theorem dX11_madeOf_172 : decode cX11_madeOf 172 = .ok (.iconst 4, 1) := dq_7 (dq_suf 12 dt38cX11_madeOf_10 rfl rfl)
theorem dX11_madeOf_173 : decode cX11_madeOf 173 = .ok (.iload_n 3, 1) := dq_29 (dq_suf 13 dt38cX11_madeOf_10 rfl rfl)
theorem dX11_madeOf_174 : decode cX11_madeOf 174 = .ok (.iload_n 2, 1) := dq_28 (dq_suf 14 dt38cX11_madeOf_10 rfl rfl)
theorem dX11_madeOf_175 : decode cX11_madeOf 175 = .ok (.iload 4, 2) := dq_21 (dq_suf 15 dt38cX11_madeOf_10 rfl rfl) rfl
theorem dX11_madeOf_177 : decode cX11_madeOf 177 = .ok (.iload_n 2, 1) := dq_28 (dq_suf 1 dt38cX11_madeOf_11 rfl rfl)
theorem dX11_madeOf_178 : decode cX11_madeOf 178 = .ok (.invokevirtual 245, 3) := dq_182 (dq_suf 2 dt38cX11_madeOf_11 rfl rfl) rfl
theorem dX11_madeOf_181 : decode cX11_madeOf 181 = .ok (.ireturn, 1) := dq_172 (dq_suf 5 dt38cX11_madeOf_11 rfl rfl)
theorem dX11_madeOf_182 : decode cX11_madeOf 182 = .ok (.aload_n 0, 1) := dq_42 (dq_suf 6 dt38cX11_madeOf_11 rfl rfl)
theorem dX11_madeOf_183 : decode cX11_madeOf 183 = .ok (.iload_n 2, 1) := dq_28 (dq_suf 7 dt38cX11_madeOf_11 rfl rfl)
theorem dX11_madeOf_184 : decode cX11_madeOf 184 = .ok (.ifCond .eq 7, 3) := dq_153 (dq_suf 8 dt38cX11_madeOf_11 rfl rfl) (by decide +kernel)
theorem dX11_madeOf_187 : decode cX11_madeOf 187 = .ok (.iconst 5, 1) := dq_8 (dq_suf 11 dt38cX11_madeOf_11 rfl rfl)
theorem dX11_madeOf_188 : decode cX11_madeOf 188 = .ok (.goto 4, 3) := dq_167 (dq_suf 12 dt38cX11_madeOf_11 rfl rfl) (by decide +kernel)
theorem dX11_madeOf_191 : decode cX11_madeOf 191 = .ok (.iconst 4, 1) := dq_7 (dq_suf 15 dt38cX11_madeOf_11 rfl rfl)
theorem dX11_madeOf_192 : decode cX11_madeOf 192 = .ok (.iload_n 3, 1) := dq_29 (dq_suf 0 dt38cX11_madeOf_12 rfl rfl)
theorem dX11_madeOf_193 : decode cX11_madeOf 193 = .ok (.iload_n 2, 1) := dq_28 (dq_suf 1 dt38cX11_madeOf_12 rfl rfl)
theorem dX11_madeOf_194 : decode cX11_madeOf 194 = .ok (.ifCond .ne 7, 3) := dq_154 (dq_suf 2 dt38cX11_madeOf_12 rfl rfl) (by decide +kernel)
theorem dX11_madeOf_197 : decode cX11_madeOf 197 = .ok (.iconst 1, 1) := dq_4 (dq_suf 5 dt38cX11_madeOf_12 rfl rfl)
theorem dX11_madeOf_198 : decode cX11_madeOf 198 = .ok (.goto 4, 3) := dq_167 (dq_suf 6 dt38cX11_madeOf_12 rfl rfl) (by decide +kernel)
theorem dX11_madeOf_201 : decode cX11_madeOf 201 = .ok (.iconst 0, 1) := dq_3 (dq_suf 9 dt38cX11_madeOf_12 rfl rfl)
theorem dX11_madeOf_202 : decode cX11_madeOf 202 = .ok (.iload 4, 2) := dq_21 (dq_suf 10 dt38cX11_madeOf_12 rfl rfl) rfl
theorem dX11_madeOf_204 : decode cX11_madeOf 204 = .ok (.iload_n 2, 1) := dq_28 (dq_suf 12 dt38cX11_madeOf_12 rfl rfl)
theorem dX11_madeOf_205 : decode cX11_madeOf 205 = .ok (.invokevirtual 245, 3) := dq_182 (dq_suf 13 dt38cX11_madeOf_12 rfl rfl) rfl
theorem dX11_madeOf_208 : decode cX11_madeOf 208 = .ok (.ireturn, 1) := dq_172 (dq_suf 0 dt38cX11_madeOf_13 rfl rfl)
theorem dX11_madeOf_209 : decode cX11_madeOf 209 = .ok (.aload_n 0, 1) := dq_42 (dq_suf 1 dt38cX11_madeOf_13 rfl rfl)
theorem dX11_madeOf_210 : decode cX11_madeOf 210 = .ok (.iload_n 2, 1) := dq_28 (dq_suf 2 dt38cX11_madeOf_13 rfl rfl)
theorem dX11_madeOf_211 : decode cX11_madeOf 211 = .ok (.ifCond .eq 7, 3) := dq_153 (dq_suf 3 dt38cX11_madeOf_13 rfl rfl) (by decide +kernel)
theorem dX11_madeOf_214 : decode cX11_madeOf 214 = .ok (.iconst 5, 1) := dq_8 (dq_suf 6 dt38cX11_madeOf_13 rfl rfl)
theorem dX11_madeOf_215 : decode cX11_madeOf 215 = .ok (.goto 4, 3) := dq_167 (dq_suf 7 dt38cX11_madeOf_13 rfl rfl) (by decide +kernel)
theorem dX11_madeOf_218 : decode cX11_madeOf 218 = .ok (.iconst 4, 1) := dq_7 (dq_suf 10 dt38cX11_madeOf_13 rfl rfl)
theorem dX11_madeOf_219 : decode cX11_madeOf 219 = .ok (.iload_n 3, 1) := dq_29 (dq_suf 11 dt38cX11_madeOf_13 rfl rfl)
theorem dX11_madeOf_220 : decode cX11_madeOf 220 = .ok (.iload_n 2, 1) := dq_28 (dq_suf 12 dt38cX11_madeOf_13 rfl rfl)
theorem dX11_madeOf_221 : decode cX11_madeOf 221 = .ok (.ifCond .ne 7, 3) := dq_154 (dq_suf 13 dt38cX11_madeOf_13 rfl rfl) (by decide +kernel)
theorem dX11_madeOf_224 : decode cX11_madeOf 224 = .ok (.iconst 1, 1) := dq_4 (dq_suf 0 dt38cX11_madeOf_14 rfl rfl)
theorem dX11_madeOf_225 : decode cX11_madeOf 225 = .ok (.goto 4, 3) := dq_167 (dq_suf 1 dt38cX11_madeOf_14 rfl rfl) (by decide +kernel)
theorem dX11_madeOf_228 : decode cX11_madeOf 228 = .ok (.iconst 0, 1) := dq_3 (dq_suf 4 dt38cX11_madeOf_14 rfl rfl)
theorem dX11_madeOf_229 : decode cX11_madeOf 229 = .ok (.iload 4, 2) := dq_21 (dq_suf 5 dt38cX11_madeOf_14 rfl rfl) rfl
theorem dX11_madeOf_231 : decode cX11_madeOf 231 = .ok (.iload_n 2, 1) := dq_28 (dq_suf 7 dt38cX11_madeOf_14 rfl rfl)
theorem dX11_madeOf_232 : decode cX11_madeOf 232 = .ok (.invokevirtual 245, 3) := dq_182 (dq_suf 8 dt38cX11_madeOf_14 rfl rfl) rfl
theorem dX11_madeOf_235 : decode cX11_madeOf 235 = .ok (.istore 5, 2) := dq_54 (dq_suf 11 dt38cX11_madeOf_14 rfl rfl) rfl
theorem dX11_madeOf_237 : decode cX11_madeOf 237 = .ok (.iload 5, 2) := dq_21 (dq_suf 13 dt38cX11_madeOf_14 rfl rfl) rfl
theorem dX11_madeOf_239 : decode cX11_madeOf 239 = .ok (.iconst (-1), 1) := dq_2 (dq_suf 15 dt38cX11_madeOf_14 rfl rfl)
theorem dX11_madeOf_240 : decode cX11_madeOf 240 = .ok (.if_icmp .ne 7, 3) := dq_160 (dq_suf 0 dt38cX11_madeOf_15 rfl rfl) (by decide +kernel)
theorem dX11_madeOf_243 : decode cX11_madeOf 243 = .ok (.iconst (-1), 1) := dq_2 (dq_suf 3 dt38cX11_madeOf_15 rfl rfl)
theorem dX11_madeOf_244 : decode cX11_madeOf 244 = .ok (.goto 29, 3) := dq_167 (dq_suf 4 dt38cX11_madeOf_15 rfl rfl) (by decide +kernel)
theorem dX11_madeOf_247 : decode cX11_madeOf 247 = .ok (.aload_n 0, 1) := dq_42 (dq_suf 7 dt38cX11_madeOf_15 rfl rfl)
theorem dX11_madeOf_248 : decode cX11_madeOf 248 = .ok (.iload_n 2, 1) := dq_28 (dq_suf 8 dt38cX11_madeOf_15 rfl rfl)
theorem dX11_madeOf_249 : decode cX11_madeOf 249 = .ok (.ifCond .eq 7, 3) := dq_153 (dq_suf 9 dt38cX11_madeOf_15 rfl rfl) (by decide +kernel)
theorem dX11_madeOf_252 : decode cX11_madeOf 252 = .ok (.iconst 5, 1) := dq_8 (dq_suf 12 dt38cX11_madeOf_15 rfl rfl)
theorem dX11_madeOf_253 : decode cX11_madeOf 253 = .ok (.goto 4, 3) := dq_167 (dq_suf 13 dt38cX11_madeOf_15 rfl rfl) (by decide +kernel)
theorem dX11_madeOf_256 : decode cX11_madeOf 256 = .ok (.iconst 4, 1) := dq_7 (dq_suf 0 dt38cX11_madeOf_16 rfl rfl)
theorem dX11_madeOf_257 : decode cX11_madeOf 257 = .ok (.iload_n 3, 1) := dq_29 (dq_suf 1 dt38cX11_madeOf_16 rfl rfl)
theorem dX11_madeOf_258 : decode cX11_madeOf 258 = .ok (.iload_n 2, 1) := dq_28 (dq_suf 2 dt38cX11_madeOf_16 rfl rfl)
theorem dX11_madeOf_259 : decode cX11_madeOf 259 = .ok (.iload 4, 2) := dq_21 (dq_suf 3 dt38cX11_madeOf_16 rfl rfl) rfl
theorem dX11_madeOf_261 : decode cX11_madeOf 261 = .ok (.iload_n 2, 1) := dq_28 (dq_suf 5 dt38cX11_madeOf_16 rfl rfl)
theorem dX11_madeOf_262 : decode cX11_madeOf 262 = .ok (.ifCond .ne 7, 3) := dq_154 (dq_suf 6 dt38cX11_madeOf_16 rfl rfl) (by decide +kernel)
theorem dX11_madeOf_265 : decode cX11_madeOf 265 = .ok (.iconst 1, 1) := dq_4 (dq_suf 9 dt38cX11_madeOf_16 rfl rfl)
theorem dX11_madeOf_266 : decode cX11_madeOf 266 = .ok (.goto 4, 3) := dq_167 (dq_suf 10 dt38cX11_madeOf_16 rfl rfl) (by decide +kernel)
theorem dX11_madeOf_269 : decode cX11_madeOf 269 = .ok (.iconst 0, 1) := dq_3 (dq_suf 13 dt38cX11_madeOf_16 rfl rfl)
theorem dX11_madeOf_270 : decode cX11_madeOf 270 = .ok (.invokevirtual 245, 3) := dq_182 (dq_suf 14 dt38cX11_madeOf_16 rfl rfl) rfl
theorem dX11_madeOf_273 : decode cX11_madeOf 273 = .ok (.istore 6, 2) := dq_54 (dq_suf 1 dt38cX11_madeOf_17 rfl rfl) rfl
theorem dX11_madeOf_275 : decode cX11_madeOf 275 = .ok (.iload 6, 2) := dq_21 (dq_suf 3 dt38cX11_madeOf_17 rfl rfl) rfl
theorem dX11_madeOf_277 : decode cX11_madeOf 277 = .ok (.iconst (-1), 1) := dq_2 (dq_suf 5 dt38cX11_madeOf_17 rfl rfl)
theorem dX11_madeOf_278 : decode cX11_madeOf 278 = .ok (.if_icmp .ne 7, 3) := dq_160 (dq_suf 6 dt38cX11_madeOf_17 rfl rfl) (by decide +kernel)
theorem dX11_madeOf_281 : decode cX11_madeOf 281 = .ok (.iconst (-1), 1) := dq_2 (dq_suf 9 dt38cX11_madeOf_17 rfl rfl)
theorem dX11_madeOf_282 : decode cX11_madeOf 282 = .ok (.goto 20, 3) := dq_167 (dq_suf 10 dt38cX11_madeOf_17 rfl rfl) (by decide +kernel)
theorem dX11_madeOf_285 : decode cX11_madeOf 285 = .ok (.aload_n 0, 1) := dq_42 (dq_suf 13 dt38cX11_madeOf_17 rfl rfl)
theorem dX11_madeOf_286 : decode cX11_madeOf 286 = .ok (.iload_n 2, 1) := dq_28 (dq_suf 14 dt38cX11_madeOf_17 rfl rfl)
theorem dX11_madeOf_287 : decode cX11_madeOf 287 = .ok (.ifCond .eq 7, 3) := dq_153 (dq_suf 15 dt38cX11_madeOf_17 rfl rfl) (by decide +kernel)
theorem dX11_madeOf_290 : decode cX11_madeOf 290 = .ok (.iconst 4, 1) := dq_7 (dq_suf 2 dt38cX11_madeOf_18 rfl rfl)
theorem dX11_madeOf_291 : decode cX11_madeOf 291 = .ok (.goto 4, 3) := dq_167 (dq_suf 3 dt38cX11_madeOf_18 rfl rfl) (by decide +kernel)
theorem dX11_madeOf_294 : decode cX11_madeOf 294 = .ok (.iconst 5, 1) := dq_8 (dq_suf 6 dt38cX11_madeOf_18 rfl rfl)
theorem dX11_madeOf_295 : decode cX11_madeOf 295 = .ok (.iload 5, 2) := dq_21 (dq_suf 7 dt38cX11_madeOf_18 rfl rfl) rfl
theorem dX11_madeOf_297 : decode cX11_madeOf 297 = .ok (.iload 6, 2) := dq_21 (dq_suf 9 dt38cX11_madeOf_18 rfl rfl) rfl
theorem dX11_madeOf_299 : decode cX11_madeOf 299 = .ok (.invokevirtual 242, 3) := dq_182 (dq_suf 11 dt38cX11_madeOf_18 rfl rfl) rfl
theorem dX11_madeOf_302 : decode cX11_madeOf 302 = .ok (.ireturn, 1) := dq_172 (dq_suf 14 dt38cX11_madeOf_18 rfl rfl)
theorem dX11_madeOf_303 : decode cX11_madeOf 303 = .ok (.aload_n 0, 1) := dq_42 (dq_suf 15 dt38cX11_madeOf_18 rfl rfl)
theorem dX11_madeOf_304 : decode cX11_madeOf 304 = .ok (.iload_n 3, 1) := dq_29 (dq_suf 0 dt38cX11_madeOf_19 rfl rfl)
theorem dX11_madeOf_305 : decode cX11_madeOf 305 = .ok (.iload_n 2, 1) := dq_28 (dq_suf 1 dt38cX11_madeOf_19 rfl rfl)
theorem dX11_madeOf_306 : decode cX11_madeOf 306 = .ok (.invokevirtual 234, 3) := dq_182 (dq_suf 2 dt38cX11_madeOf_19 rfl rfl) rfl
theorem dX11_madeOf_309 : decode cX11_madeOf 309 = .ok (.ifCond .eq 28, 3) := dq_153 (dq_suf 5 dt38cX11_madeOf_19 rfl rfl) (by decide +kernel)
theorem dX11_madeOf_312 : decode cX11_madeOf 312 = .ok (.aload_n 0, 1) := dq_42 (dq_suf 8 dt38cX11_madeOf_19 rfl rfl)
theorem dX11_madeOf_313 : decode cX11_madeOf 313 = .ok (.iload_n 2, 1) := dq_28 (dq_suf 9 dt38cX11_madeOf_19 rfl rfl)
theorem dX11_madeOf_314 : decode cX11_madeOf 314 = .ok (.ifCond .eq 8, 3) := dq_153 (dq_suf 10 dt38cX11_madeOf_19 rfl rfl) (by decide +kernel)
theorem dX11_madeOf_317 : decode cX11_madeOf 317 = .ok (.bipush 6, 2) := dq_16 (dq_suf 13 dt38cX11_madeOf_19 rfl rfl) (by decide +kernel)
theorem dX11_madeOf_319 : decode cX11_madeOf 319 = .ok (.goto 5, 3) := dq_167 (dq_suf 15 dt38cX11_madeOf_19 rfl rfl) (by decide +kernel)
theorem dX11_madeOf_322 : decode cX11_madeOf 322 = .ok (.bipush 7, 2) := dq_16 (dq_suf 2 dt38cX11_madeOf_20 rfl rfl) (by decide +kernel)
theorem dX11_madeOf_324 : decode cX11_madeOf 324 = .ok (.aload_n 0, 1) := dq_42 (dq_suf 4 dt38cX11_madeOf_20 rfl rfl)
theorem dX11_madeOf_325 : decode cX11_madeOf 325 = .ok (.iload_n 3, 1) := dq_29 (dq_suf 5 dt38cX11_madeOf_20 rfl rfl)
theorem dX11_madeOf_326 : decode cX11_madeOf 326 = .ok (.iload_n 2, 1) := dq_28 (dq_suf 6 dt38cX11_madeOf_20 rfl rfl)
theorem dX11_madeOf_327 : decode cX11_madeOf 327 = .ok (.invokevirtual 238, 3) := dq_182 (dq_suf 7 dt38cX11_madeOf_20 rfl rfl) rfl
theorem dX11_madeOf_330 : decode cX11_madeOf 330 = .ok (.iconst (-1), 1) := dq_2 (dq_suf 10 dt38cX11_madeOf_20 rfl rfl)
theorem dX11_madeOf_331 : decode cX11_madeOf 331 = .ok (.invokevirtual 242, 3) := dq_182 (dq_suf 11 dt38cX11_madeOf_20 rfl rfl) rfl
theorem dX11_madeOf_334 : decode cX11_madeOf 334 = .ok (.goto 4, 3) := dq_167 (dq_suf 14 dt38cX11_madeOf_20 rfl rfl) (by decide +kernel)
theorem dX11_madeOf_337 : decode cX11_madeOf 337 = .ok (.iconst (-1), 1) := dq_2 (dq_suf 1 dt38cX11_madeOf_21 rfl rfl)
theorem dX11_madeOf_338 : decode cX11_madeOf 338 = .ok (.ireturn, 1) := dq_172 (dq_suf 2 dt38cX11_madeOf_21 rfl rfl)
theorem dX11_madeOf_339 : decode cX11_madeOf 339 = .ok (.aload_n 0, 1) := dq_42 (dq_suf 3 dt38cX11_madeOf_21 rfl rfl)
theorem dX11_madeOf_340 : decode cX11_madeOf 340 = .ok (.iload_n 3, 1) := dq_29 (dq_suf 4 dt38cX11_madeOf_21 rfl rfl)
theorem dX11_madeOf_341 : decode cX11_madeOf 341 = .ok (.iload_n 2, 1) := dq_28 (dq_suf 5 dt38cX11_madeOf_21 rfl rfl)
theorem dX11_madeOf_342 : decode cX11_madeOf 342 = .ok (.invokevirtual 234, 3) := dq_182 (dq_suf 6 dt38cX11_madeOf_21 rfl rfl) rfl
theorem dX11_madeOf_345 : decode cX11_madeOf 345 = .ok (.ifCond .eq 28, 3) := dq_153 (dq_suf 9 dt38cX11_madeOf_21 rfl rfl) (by decide +kernel)
theorem dX11_madeOf_348 : decode cX11_madeOf 348 = .ok (.aload_n 0, 1) := dq_42 (dq_suf 12 dt38cX11_madeOf_21 rfl rfl)
theorem dX11_madeOf_349 : decode cX11_madeOf 349 = .ok (.iload_n 2, 1) := dq_28 (dq_suf 13 dt38cX11_madeOf_21 rfl rfl)
theorem dX11_madeOf_350 : decode cX11_madeOf 350 = .ok (.ifCond .eq 8, 3) := dq_153 (dq_suf 14 dt38cX11_madeOf_21 rfl rfl) (by decide +kernel)
theorem dX11_madeOf_353 : decode cX11_madeOf 353 = .ok (.bipush 7, 2) := dq_16 (dq_suf 1 dt38cX11_madeOf_22 rfl rfl) (by decide +kernel)
theorem dX11_madeOf_355 : decode cX11_madeOf 355 = .ok (.goto 5, 3) := dq_167 (dq_suf 3 dt38cX11_madeOf_22 rfl rfl) (by decide +kernel)
theorem dX11_madeOf_358 : decode cX11_madeOf 358 = .ok (.bipush 6, 2) := dq_16 (dq_suf 6 dt38cX11_madeOf_22 rfl rfl) (by decide +kernel)
theorem dX11_madeOf_360 : decode cX11_madeOf 360 = .ok (.aload_n 0, 1) := dq_42 (dq_suf 8 dt38cX11_madeOf_22 rfl rfl)
theorem dX11_madeOf_361 : decode cX11_madeOf 361 = .ok (.iload_n 3, 1) := dq_29 (dq_suf 9 dt38cX11_madeOf_22 rfl rfl)
theorem dX11_madeOf_362 : decode cX11_madeOf 362 = .ok (.iload_n 2, 1) := dq_28 (dq_suf 10 dt38cX11_madeOf_22 rfl rfl)
theorem dX11_madeOf_363 : decode cX11_madeOf 363 = .ok (.invokevirtual 238, 3) := dq_182 (dq_suf 11 dt38cX11_madeOf_22 rfl rfl) rfl
theorem dX11_madeOf_366 : decode cX11_madeOf 366 = .ok (.iconst (-1), 1) := dq_2 (dq_suf 14 dt38cX11_madeOf_22 rfl rfl)
theorem dX11_madeOf_367 : decode cX11_madeOf 367 = .ok (.invokevirtual 242, 3) := dq_182 (dq_suf 15 dt38cX11_madeOf_22 rfl rfl) rfl
theorem dX11_madeOf_370 : decode cX11_madeOf 370 = .ok (.goto 4, 3) := dq_167 (dq_suf 2 dt38cX11_madeOf_23 rfl rfl) (by decide +kernel)
theorem dX11_madeOf_373 : decode cX11_madeOf 373 = .ok (.iconst (-1), 1) := dq_2 (dq_suf 5 dt38cX11_madeOf_23 rfl rfl)
theorem dX11_madeOf_374 : decode cX11_madeOf 374 = .ok (.ireturn, 1) := dq_172 (dq_suf 6 dt38cX11_madeOf_23 rfl rfl)
noncomputable def ds38cX11_makes_10 : List UInt8 := 27 :: 28 :: 182 :: 0 :: 238 :: 172 :: []
noncomputable def ds38cX11_makes_9 : List UInt8 := 167 :: 0 :: 12 :: 42 :: 180 :: 0 :: 51 :: 21 :: 5 :: 21 :: 8 :: 79 :: 167 :: 255 :: 112 :: 42 :: ds38cX11_makes_10
noncomputable def ds38cX11_makes_8 : List UInt8 := 0 :: 231 :: 21 :: 6 :: 153 :: 0 :: 15 :: 42 :: 180 :: 0 :: 48 :: 21 :: 5 :: 21 :: 8 :: 79 :: ds38cX11_makes_9
noncomputable def ds38cX11_makes_7 : List UInt8 := 180 :: 0 :: 231 :: 21 :: 7 :: 160 :: 0 :: 39 :: 42 :: 89 :: 180 :: 0 :: 231 :: 4 :: 100 :: 181 :: ds38cX11_makes_8
noncomputable def ds38cX11_makes_6 : List UInt8 := 21 :: 5 :: 21 :: 6 :: 182 :: 0 :: 249 :: 54 :: 8 :: 21 :: 8 :: 2 :: 159 :: 0 :: 48 :: 42 :: ds38cX11_makes_7
noncomputable def ds38cX11_makes_5 : List UInt8 := 2 :: 159 :: 0 :: 14 :: 42 :: 21 :: 5 :: 21 :: 6 :: 182 :: 0 :: 238 :: 167 :: 0 :: 11 :: 42 :: ds38cX11_makes_6
noncomputable def ds38cX11_makes_4 : List UInt8 := 180 :: 0 :: 48 :: 21 :: 5 :: 46 :: 167 :: 0 :: 10 :: 42 :: 180 :: 0 :: 51 :: 21 :: 5 :: 46 :: ds38cX11_makes_5
noncomputable def ds38cX11_makes_3 : List UInt8 := 4 :: 3 :: 54 :: 6 :: 42 :: 180 :: 0 :: 231 :: 54 :: 7 :: 21 :: 6 :: 153 :: 0 :: 13 :: 42 :: ds38cX11_makes_4
noncomputable def ds38cX11_makes_2 : List UInt8 := 21 :: 4 :: 5 :: 108 :: 54 :: 5 :: 21 :: 4 :: 5 :: 112 :: 154 :: 0 :: 7 :: 4 :: 167 :: 0 :: ds38cX11_makes_3
noncomputable def ds38cX11_makes_1 : List UInt8 := 158 :: 0 :: 143 :: 42 :: 180 :: 0 :: 60 :: 42 :: 180 :: 0 :: 231 :: 4 :: 100 :: 46 :: 54 :: 4 :: ds38cX11_makes_2
noncomputable def ds38cX11_makes_0 : List UInt8 := 42 :: 3 :: 181 :: 0 :: 231 :: 42 :: 27 :: 28 :: 182 :: 0 :: 234 :: 62 :: 42 :: 180 :: 0 :: 231 :: ds38cX11_makes_1
theorem dt38cX11_makes_0 : cX11_makes.data.toList.drop 0 = ds38cX11_makes_0 := by decide +kernel
theorem dt38cX11_makes_1 : cX11_makes.data.toList.drop 16 = ds38cX11_makes_1 := dq_suf 16 dt38cX11_makes_0 rfl rfl
theorem dt38cX11_makes_2 : cX11_makes.data.toList.drop 32 = ds38cX11_makes_2 := dq_suf 16 dt38cX11_makes_1 rfl rfl
theorem dt38cX11_makes_3 : cX11_makes.data.toList.drop 48 = ds38cX11_makes_3 := dq_suf 16 dt38cX11_makes_2 rfl rfl
theorem dt38cX11_makes_4 : cX11_makes.data.toList.drop 64 = ds38cX11_makes_4 := dq_suf 16 dt38cX11_makes_3 rfl rfl
theorem dt38cX11_makes_5 : cX11_makes.data.toList.drop 80 = ds38cX11_makes_5 := dq_suf 16 dt38cX11_makes_4 rfl rfl
theorem dt38cX11_makes_6 : cX11_makes.data.toList.drop 96 = ds38cX11_makes_6 := dq_suf 16 dt38cX11_makes_5 rfl rfl
theorem dt38cX11_makes_7 : cX11_makes.data.toList.drop 112 = ds38cX11_makes_7 := dq_suf 16 dt38cX11_makes_6 rfl rfl
theorem dt38cX11_makes_8 : cX11_makes.data.toList.drop 128 = ds38cX11_makes_8 := dq_suf 16 dt38cX11_makes_7 rfl rfl
theorem dt38cX11_makes_9 : cX11_makes.data.toList.drop 144 = ds38cX11_makes_9 := dq_suf 16 dt38cX11_makes_8 rfl rfl
theorem dt38cX11_makes_10 : cX11_makes.data.toList.drop 160 = ds38cX11_makes_10 := dq_suf 16 dt38cX11_makes_9 rfl rfl
theorem dX11_makes_0 : decode cX11_makes 0 = .ok (.aload_n 0, 1) := dq_42 (dq_suf 0 dt38cX11_makes_0 rfl rfl)
theorem dX11_makes_1 : decode cX11_makes 1 = .ok (.iconst 0, 1) := dq_3 (dq_suf 1 dt38cX11_makes_0 rfl rfl)
theorem dX11_makes_2 : decode cX11_makes 2 = .ok (.putfield 231, 3) := dq_181 (dq_suf 2 dt38cX11_makes_0 rfl rfl) rfl
theorem dX11_makes_5 : decode cX11_makes 5 = .ok (.aload_n 0, 1) := dq_42 (dq_suf 5 dt38cX11_makes_0 rfl rfl)
theorem dX11_makes_6 : decode cX11_makes 6 = .ok (.iload_n 1, 1) := dq_27 (dq_suf 6 dt38cX11_makes_0 rfl rfl)
theorem dX11_makes_7 : decode cX11_makes 7 = .ok (.iload_n 2, 1) := dq_28 (dq_suf 7 dt38cX11_makes_0 rfl rfl)
theorem dX11_makes_8 : decode cX11_makes 8 = .ok (.invokevirtual 234, 3) := dq_182 (dq_suf 8 dt38cX11_makes_0 rfl rfl) rfl
theorem dX11_makes_11 : decode cX11_makes 11 = .ok (.istore_n 3, 1) := dq_62 (dq_suf 11 dt38cX11_makes_0 rfl rfl)
theorem dX11_makes_12 : decode cX11_makes 12 = .ok (.aload_n 0, 1) := dq_42 (dq_suf 12 dt38cX11_makes_0 rfl rfl)
theorem dX11_makes_13 : decode cX11_makes 13 = .ok (.getfield 231, 3) := dq_180 (dq_suf 13 dt38cX11_makes_0 rfl rfl) rfl
theorem dX11_makes_16 : decode cX11_makes 16 = .ok (.ifCond .le 143, 3) := dq_158 (dq_suf 0 dt38cX11_makes_1 rfl rfl) (by decide +kernel)
theorem dX11_makes_19 : decode cX11_makes 19 = .ok (.aload_n 0, 1) := dq_42 (dq_suf 3 dt38cX11_makes_1 rfl rfl)
theorem dX11_makes_20 : decode cX11_makes 20 = .ok (.getfield 60, 3) := dq_180 (dq_suf 4 dt38cX11_makes_1 rfl rfl) rfl
theorem dX11_makes_23 : decode cX11_makes 23 = .ok (.aload_n 0, 1) := dq_42 (dq_suf 7 dt38cX11_makes_1 rfl rfl)
theorem dX11_makes_24 : decode cX11_makes 24 = .ok (.getfield 231, 3) := dq_180 (dq_suf 8 dt38cX11_makes_1 rfl rfl) rfl
theorem dX11_makes_27 : decode cX11_makes 27 = .ok (.iconst 1, 1) := dq_4 (dq_suf 11 dt38cX11_makes_1 rfl rfl)
theorem dX11_makes_28 : decode cX11_makes 28 = .ok (.isub, 1) := dq_100 (dq_suf 12 dt38cX11_makes_1 rfl rfl)
theorem dX11_makes_29 : decode cX11_makes 29 = .ok (.iaload, 1) := dq_46 (dq_suf 13 dt38cX11_makes_1 rfl rfl)
theorem dX11_makes_30 : decode cX11_makes 30 = .ok (.istore 4, 2) := dq_54 (dq_suf 14 dt38cX11_makes_1 rfl rfl) rfl
theorem dX11_makes_32 : decode cX11_makes 32 = .ok (.iload 4, 2) := dq_21 (dq_suf 0 dt38cX11_makes_2 rfl rfl) rfl
theorem dX11_makes_34 : decode cX11_makes 34 = .ok (.iconst 2, 1) := dq_5 (dq_suf 2 dt38cX11_makes_2 rfl rfl)
theorem dX11_makes_35 : decode cX11_makes 35 = .ok (.idiv, 1) := dq_108 (dq_suf 3 dt38cX11_makes_2 rfl rfl)
theorem dX11_makes_36 : decode cX11_makes 36 = .ok (.istore 5, 2) := dq_54 (dq_suf 4 dt38cX11_makes_2 rfl rfl) rfl
theorem dX11_makes_38 : decode cX11_makes 38 = .ok (.iload 4, 2) := dq_21 (dq_suf 6 dt38cX11_makes_2 rfl rfl) rfl
theorem dX11_makes_40 : decode cX11_makes 40 = .ok (.iconst 2, 1) := dq_5 (dq_suf 8 dt38cX11_makes_2 rfl rfl)
theorem dX11_makes_41 : decode cX11_makes 41 = .ok (.irem, 1) := dq_112 (dq_suf 9 dt38cX11_makes_2 rfl rfl)
theorem dX11_makes_42 : decode cX11_makes 42 = .ok (.ifCond .ne 7, 3) := dq_154 (dq_suf 10 dt38cX11_makes_2 rfl rfl) (by decide +kernel)
theorem dX11_makes_45 : decode cX11_makes 45 = .ok (.iconst 1, 1) := dq_4 (dq_suf 13 dt38cX11_makes_2 rfl rfl)
theorem dX11_makes_46 : decode cX11_makes 46 = .ok (.goto 4, 3) := dq_167 (dq_suf 14 dt38cX11_makes_2 rfl rfl) (by decide +kernel)
theorem dX11_makes_49 : decode cX11_makes 49 = .ok (.iconst 0, 1) := dq_3 (dq_suf 1 dt38cX11_makes_3 rfl rfl)
theorem dX11_makes_50 : decode cX11_makes 50 = .ok (.istore 6, 2) := dq_54 (dq_suf 2 dt38cX11_makes_3 rfl rfl) rfl
theorem dX11_makes_52 : decode cX11_makes 52 = .ok (.aload_n 0, 1) := dq_42 (dq_suf 4 dt38cX11_makes_3 rfl rfl)
theorem dX11_makes_53 : decode cX11_makes 53 = .ok (.getfield 231, 3) := dq_180 (dq_suf 5 dt38cX11_makes_3 rfl rfl) rfl
theorem dX11_makes_56 : decode cX11_makes 56 = .ok (.istore 7, 2) := dq_54 (dq_suf 8 dt38cX11_makes_3 rfl rfl) rfl
theorem dX11_makes_58 : decode cX11_makes 58 = .ok (.iload 6, 2) := dq_21 (dq_suf 10 dt38cX11_makes_3 rfl rfl) rfl
theorem dX11_makes_60 : decode cX11_makes 60 = .ok (.ifCond .eq 13, 3) := dq_153 (dq_suf 12 dt38cX11_makes_3 rfl rfl) (by decide +kernel)
theorem dX11_makes_63 : decode cX11_makes 63 = .ok (.aload_n 0, 1) := dq_42 (dq_suf 15 dt38cX11_makes_3 rfl rfl)
theorem dX11_makes_64 : decode cX11_makes 64 = .ok (.getfield 48, 3) := dq_180 (dq_suf 0 dt38cX11_makes_4 rfl rfl) rfl
theorem dX11_makes_67 : decode cX11_makes 67 = .ok (.iload 5, 2) := dq_21 (dq_suf 3 dt38cX11_makes_4 rfl rfl) rfl
theorem dX11_makes_69 : decode cX11_makes 69 = .ok (.iaload, 1) := dq_46 (dq_suf 5 dt38cX11_makes_4 rfl rfl)
theorem dX11_makes_70 : decode cX11_makes 70 = .ok (.goto 10, 3) := dq_167 (dq_suf 6 dt38cX11_makes_4 rfl rfl) (by decide +kernel)
theorem dX11_makes_73 : decode cX11_makes 73 = .ok (.aload_n 0, 1) := dq_42 (dq_suf 9 dt38cX11_makes_4 rfl rfl)
theorem dX11_makes_74 : decode cX11_makes 74 = .ok (.getfield 51, 3) := dq_180 (dq_suf 10 dt38cX11_makes_4 rfl rfl) rfl
theorem dX11_makes_77 : decode cX11_makes 77 = .ok (.iload 5, 2) := dq_21 (dq_suf 13 dt38cX11_makes_4 rfl rfl) rfl
theorem dX11_makes_79 : decode cX11_makes 79 = .ok (.iaload, 1) := dq_46 (dq_suf 15 dt38cX11_makes_4 rfl rfl)
theorem dX11_makes_80 : decode cX11_makes 80 = .ok (.iconst (-1), 1) := dq_2 (dq_suf 0 dt38cX11_makes_5 rfl rfl)
theorem dX11_makes_81 : decode cX11_makes 81 = .ok (.if_icmp .eq 14, 3) := dq_159 (dq_suf 1 dt38cX11_makes_5 rfl rfl) (by decide +kernel)
theorem dX11_makes_84 : decode cX11_makes 84 = .ok (.aload_n 0, 1) := dq_42 (dq_suf 4 dt38cX11_makes_5 rfl rfl)
theorem dX11_makes_85 : decode cX11_makes 85 = .ok (.iload 5, 2) := dq_21 (dq_suf 5 dt38cX11_makes_5 rfl rfl) rfl
theorem dX11_makes_87 : decode cX11_makes 87 = .ok (.iload 6, 2) := dq_21 (dq_suf 7 dt38cX11_makes_5 rfl rfl) rfl
theorem dX11_makes_89 : decode cX11_makes 89 = .ok (.invokevirtual 238, 3) := dq_182 (dq_suf 9 dt38cX11_makes_5 rfl rfl) rfl
theorem dX11_makes_92 : decode cX11_makes 92 = .ok (.goto 11, 3) := dq_167 (dq_suf 12 dt38cX11_makes_5 rfl rfl) (by decide +kernel)
theorem dX11_makes_95 : decode cX11_makes 95 = .ok (.aload_n 0, 1) := dq_42 (dq_suf 15 dt38cX11_makes_5 rfl rfl)
theorem dX11_makes_96 : decode cX11_makes 96 = .ok (.iload 5, 2) := dq_21 (dq_suf 0 dt38cX11_makes_6 rfl rfl) rfl
theorem dX11_makes_98 : decode cX11_makes 98 = .ok (.iload 6, 2) := dq_21 (dq_suf 2 dt38cX11_makes_6 rfl rfl) rfl
theorem dX11_makes_100 : decode cX11_makes 100 = .ok (.invokevirtual 249, 3) := dq_182 (dq_suf 4 dt38cX11_makes_6 rfl rfl) rfl
theorem dX11_makes_103 : decode cX11_makes 103 = .ok (.istore 8, 2) := dq_54 (dq_suf 7 dt38cX11_makes_6 rfl rfl) rfl
theorem dX11_makes_105 : decode cX11_makes 105 = .ok (.iload 8, 2) := dq_21 (dq_suf 9 dt38cX11_makes_6 rfl rfl) rfl
theorem dX11_makes_107 : decode cX11_makes 107 = .ok (.iconst (-1), 1) := dq_2 (dq_suf 11 dt38cX11_makes_6 rfl rfl)
theorem dX11_makes_108 : decode cX11_makes 108 = .ok (.if_icmp .eq 48, 3) := dq_159 (dq_suf 12 dt38cX11_makes_6 rfl rfl) (by decide +kernel)
theorem dX11_makes_111 : decode cX11_makes 111 = .ok (.aload_n 0, 1) := dq_42 (dq_suf 15 dt38cX11_makes_6 rfl rfl)
theorem dX11_makes_112 : decode cX11_makes 112 = .ok (.getfield 231, 3) := dq_180 (dq_suf 0 dt38cX11_makes_7 rfl rfl) rfl
theorem dX11_makes_115 : decode cX11_makes 115 = .ok (.iload 7, 2) := dq_21 (dq_suf 3 dt38cX11_makes_7 rfl rfl) rfl
theorem dX11_makes_117 : decode cX11_makes 117 = .ok (.if_icmp .ne 39, 3) := dq_160 (dq_suf 5 dt38cX11_makes_7 rfl rfl) (by decide +kernel)
theorem dX11_makes_120 : decode cX11_makes 120 = .ok (.aload_n 0, 1) := dq_42 (dq_suf 8 dt38cX11_makes_7 rfl rfl)
theorem dX11_makes_121 : decode cX11_makes 121 = .ok (.dup, 1) := dq_89 (dq_suf 9 dt38cX11_makes_7 rfl rfl)
theorem dX11_makes_122 : decode cX11_makes 122 = .ok (.getfield 231, 3) := dq_180 (dq_suf 10 dt38cX11_makes_7 rfl rfl) rfl
theorem dX11_makes_125 : decode cX11_makes 125 = .ok (.iconst 1, 1) := dq_4 (dq_suf 13 dt38cX11_makes_7 rfl rfl)
theorem dX11_makes_126 : decode cX11_makes 126 = .ok (.isub, 1) := dq_100 (dq_suf 14 dt38cX11_makes_7 rfl rfl)
theorem dX11_makes_127 : decode cX11_makes 127 = .ok (.putfield 231, 3) := dq_181 (dq_suf 15 dt38cX11_makes_7 rfl rfl) rfl
theorem dX11_makes_130 : decode cX11_makes 130 = .ok (.iload 6, 2) := dq_21 (dq_suf 2 dt38cX11_makes_8 rfl rfl) rfl
theorem dX11_makes_132 : decode cX11_makes 132 = .ok (.ifCond .eq 15, 3) := dq_153 (dq_suf 4 dt38cX11_makes_8 rfl rfl) (by decide +kernel)
theorem dX11_makes_135 : decode cX11_makes 135 = .ok (.aload_n 0, 1) := dq_42 (dq_suf 7 dt38cX11_makes_8 rfl rfl)
theorem dX11_makes_136 : decode cX11_makes 136 = .ok (.getfield 48, 3) := dq_180 (dq_suf 8 dt38cX11_makes_8 rfl rfl) rfl
theorem dX11_makes_139 : decode cX11_makes 139 = .ok (.iload 5, 2) := dq_21 (dq_suf 11 dt38cX11_makes_8 rfl rfl) rfl
theorem dX11_makes_141 : decode cX11_makes 141 = .ok (.iload 8, 2) := dq_21 (dq_suf 13 dt38cX11_makes_8 rfl rfl) rfl
theorem dX11_makes_143 : decode cX11_makes 143 = .ok (.iastore, 1) := dq_79 (dq_suf 15 dt38cX11_makes_8 rfl rfl)
theorem dX11_makes_144 : decode cX11_makes 144 = .ok (.goto 12, 3) := dq_167 (dq_suf 0 dt38cX11_makes_9 rfl rfl) (by decide +kernel)
theorem dX11_makes_147 : decode cX11_makes 147 = .ok (.aload_n 0, 1) := dq_42 (dq_suf 3 dt38cX11_makes_9 rfl rfl)
theorem dX11_makes_148 : decode cX11_makes 148 = .ok (.getfield 51, 3) := dq_180 (dq_suf 4 dt38cX11_makes_9 rfl rfl) rfl
theorem dX11_makes_151 : decode cX11_makes 151 = .ok (.iload 5, 2) := dq_21 (dq_suf 7 dt38cX11_makes_9 rfl rfl) rfl
theorem dX11_makes_153 : decode cX11_makes 153 = .ok (.iload 8, 2) := dq_21 (dq_suf 9 dt38cX11_makes_9 rfl rfl) rfl
theorem dX11_makes_155 : decode cX11_makes 155 = .ok (.iastore, 1) := dq_79 (dq_suf 11 dt38cX11_makes_9 rfl rfl)
theorem dX11_makes_156 : decode cX11_makes 156 = .ok (.goto (-144), 3) := dq_167 (dq_suf 12 dt38cX11_makes_9 rfl rfl) (by decide +kernel)
theorem dX11_makes_159 : decode cX11_makes 159 = .ok (.aload_n 0, 1) := dq_42 (dq_suf 15 dt38cX11_makes_9 rfl rfl)
theorem dX11_makes_160 : decode cX11_makes 160 = .ok (.iload_n 1, 1) := dq_27 (dq_suf 0 dt38cX11_makes_10 rfl rfl)
theorem dX11_makes_161 : decode cX11_makes 161 = .ok (.iload_n 2, 1) := dq_28 (dq_suf 1 dt38cX11_makes_10 rfl rfl)
theorem dX11_makes_162 : decode cX11_makes 162 = .ok (.invokevirtual 238, 3) := dq_182 (dq_suf 2 dt38cX11_makes_10 rfl rfl) rfl
theorem dX11_makes_165 : decode cX11_makes 165 = .ok (.ireturn, 1) := dq_172 (dq_suf 5 dt38cX11_makes_10 rfl rfl)
noncomputable def ds38cX11_read_14 : List UInt8 := 0 :: 33 :: 27 :: 21 :: 7 :: 79 :: 21 :: 6 :: 172 :: []
noncomputable def ds38cX11_read_13 : List UInt8 := 181 :: 0 :: 255 :: 16 :: 254 :: 172 :: 42 :: 180 :: 0 :: 30 :: 27 :: 21 :: 6 :: 79 :: 42 :: 180 :: ds38cX11_read_14
noncomputable def ds38cX11_read_12 : List UInt8 := 7 :: 42 :: 180 :: 0 :: 168 :: 153 :: 0 :: 17 :: 42 :: 21 :: 5 :: 181 :: 0 :: 26 :: 42 :: 7 :: ds38cX11_read_13
noncomputable def ds38cX11_read_11 : List UInt8 := 21 :: 4 :: 4 :: 182 :: 1 :: 2 :: 54 :: 6 :: 42 :: 21 :: 4 :: 3 :: 182 :: 1 :: 2 :: 54 :: ds38cX11_read_12
noncomputable def ds38cX11_read_10 : List UInt8 := 6 :: 16 :: 254 :: 172 :: 42 :: 180 :: 0 :: 26 :: 54 :: 5 :: 42 :: 3 :: 181 :: 0 :: 168 :: 42 :: ds38cX11_read_11
noncomputable def ds38cX11_read_9 : List UInt8 := 167 :: 0 :: 7 :: 42 :: 180 :: 0 :: 184 :: 181 :: 0 :: 36 :: 42 :: 180 :: 0 :: 181 :: 153 :: 0 :: ds38cX11_read_10
noncomputable def ds38cX11_read_8 : List UInt8 := 42 :: 180 :: 0 :: 181 :: 181 :: 0 :: 255 :: 42 :: 42 :: 180 :: 0 :: 181 :: 154 :: 0 :: 7 :: 2 :: ds38cX11_read_9
noncomputable def ds38cX11_read_7 : List UInt8 := 2 :: 160 :: 0 :: 7 :: 29 :: 153 :: 0 :: 10 :: 42 :: 4 :: 182 :: 0 :: 207 :: 54 :: 5 :: 42 :: ds38cX11_read_8
noncomputable def ds38cX11_read_6 : List UInt8 := 182 :: 0 :: 252 :: 54 :: 4 :: 42 :: 180 :: 0 :: 181 :: 154 :: 0 :: 22 :: 42 :: 182 :: 0 :: 210 :: ds38cX11_read_7
noncomputable def ds38cX11_read_5 : List UInt8 := 0 :: 181 :: 42 :: 28 :: 154 :: 0 :: 7 :: 4 :: 167 :: 0 :: 4 :: 3 :: 181 :: 0 :: 187 :: 42 :: ds38cX11_read_6
noncomputable def ds38cX11_read_4 : List UInt8 := 181 :: 0 :: 175 :: 42 :: 3 :: 181 :: 0 :: 172 :: 42 :: 3 :: 181 :: 0 :: 204 :: 42 :: 3 :: 181 :: ds38cX11_read_5
noncomputable def ds38cX11_read_3 : List UInt8 := 164 :: 0 :: 7 :: 4 :: 167 :: 0 :: 4 :: 3 :: 62 :: 42 :: 3 :: 181 :: 0 :: 154 :: 42 :: 3 :: ds38cX11_read_4
noncomputable def ds38cX11_read_2 : List UInt8 := 167 :: 0 :: 6 :: 17 :: 1 :: 144 :: 181 :: 0 :: 178 :: 42 :: 180 :: 0 :: 154 :: 17 :: 1 :: 144 :: ds38cX11_read_3
noncomputable def ds38cX11_read_1 : List UInt8 := 172 :: 42 :: 42 :: 180 :: 0 :: 154 :: 17 :: 1 :: 144 :: 162 :: 0 :: 10 :: 42 :: 180 :: 0 :: 154 :: ds38cX11_read_2
noncomputable def ds38cX11_read_0 : List UInt8 := 42 :: 3 :: 181 :: 0 :: 151 :: 27 :: 3 :: 16 :: 7 :: 184 :: 0 :: 161 :: 154 :: 0 :: 5 :: 2 :: ds38cX11_read_1
theorem dt38cX11_read_0 : cX11_read.data.toList.drop 0 = ds38cX11_read_0 := by decide +kernel
theorem dt38cX11_read_1 : cX11_read.data.toList.drop 16 = ds38cX11_read_1 := dq_suf 16 dt38cX11_read_0 rfl rfl
theorem dt38cX11_read_2 : cX11_read.data.toList.drop 32 = ds38cX11_read_2 := dq_suf 16 dt38cX11_read_1 rfl rfl
theorem dt38cX11_read_3 : cX11_read.data.toList.drop 48 = ds38cX11_read_3 := dq_suf 16 dt38cX11_read_2 rfl rfl
theorem dt38cX11_read_4 : cX11_read.data.toList.drop 64 = ds38cX11_read_4 := dq_suf 16 dt38cX11_read_3 rfl rfl
theorem dt38cX11_read_5 : cX11_read.data.toList.drop 80 = ds38cX11_read_5 := dq_suf 16 dt38cX11_read_4 rfl rfl
theorem dt38cX11_read_6 : cX11_read.data.toList.drop 96 = ds38cX11_read_6 := dq_suf 16 dt38cX11_read_5 rfl rfl
theorem dt38cX11_read_7 : cX11_read.data.toList.drop 112 = ds38cX11_read_7 := dq_suf 16 dt38cX11_read_6 rfl rfl
theorem dt38cX11_read_8 : cX11_read.data.toList.drop 128 = ds38cX11_read_8 := dq_suf 16 dt38cX11_read_7 rfl rfl
theorem dt38cX11_read_9 : cX11_read.data.toList.drop 144 = ds38cX11_read_9 := dq_suf 16 dt38cX11_read_8 rfl rfl
theorem dt38cX11_read_10 : cX11_read.data.toList.drop 160 = ds38cX11_read_10 := dq_suf 16 dt38cX11_read_9 rfl rfl
theorem dt38cX11_read_11 : cX11_read.data.toList.drop 176 = ds38cX11_read_11 := dq_suf 16 dt38cX11_read_10 rfl rfl
theorem dt38cX11_read_12 : cX11_read.data.toList.drop 192 = ds38cX11_read_12 := dq_suf 16 dt38cX11_read_11 rfl rfl
theorem dt38cX11_read_13 : cX11_read.data.toList.drop 208 = ds38cX11_read_13 := dq_suf 16 dt38cX11_read_12 rfl rfl
theorem dt38cX11_read_14 : cX11_read.data.toList.drop 224 = ds38cX11_read_14 := dq_suf 16 dt38cX11_read_13 rfl rfl
theorem dX11_read_0 : decode cX11_read 0 = .ok (.aload_n 0, 1) := dq_42 (dq_suf 0 dt38cX11_read_0 rfl rfl)
theorem dX11_read_1 : decode cX11_read 1 = .ok (.iconst 0, 1) := dq_3 (dq_suf 1 dt38cX11_read_0 rfl rfl)
theorem dX11_read_2 : decode cX11_read 2 = .ok (.putfield 151, 3) := dq_181 (dq_suf 2 dt38cX11_read_0 rfl rfl) rfl
theorem dX11_read_5 : decode cX11_read 5 = .ok (.iload_n 1, 1) := dq_27 (dq_suf 5 dt38cX11_read_0 rfl rfl)
theorem dX11_read_6 : decode cX11_read 6 = .ok (.iconst 0, 1) := dq_3 (dq_suf 6 dt38cX11_read_0 rfl rfl)
theorem dX11_read_7 : decode cX11_read 7 = .ok (.bipush 7, 2) := dq_16 (dq_suf 7 dt38cX11_read_0 rfl rfl) (by decide +kernel)
theorem dX11_read_9 : decode cX11_read 9 = .ok (.invokestatic 161, 3) := dq_184 (dq_suf 9 dt38cX11_read_0 rfl rfl) rfl
theorem dX11_read_12 : decode cX11_read 12 = .ok (.ifCond .ne 5, 3) := dq_154 (dq_suf 12 dt38cX11_read_0 rfl rfl) (by decide +kernel)
theorem dX11_read_15 : decode cX11_read 15 = .ok (.iconst (-1), 1) := dq_2 (dq_suf 15 dt38cX11_read_0 rfl rfl)
theorem dX11_read_16 : decode cX11_read 16 = .ok (.ireturn, 1) := dq_172 (dq_suf 0 dt38cX11_read_1 rfl rfl)
theorem dX11_read_17 : decode cX11_read 17 = .ok (.aload_n 0, 1) := dq_42 (dq_suf 1 dt38cX11_read_1 rfl rfl)
theorem dX11_read_18 : decode cX11_read 18 = .ok (.aload_n 0, 1) := dq_42 (dq_suf 2 dt38cX11_read_1 rfl rfl)
theorem dX11_read_19 : decode cX11_read 19 = .ok (.getfield 154, 3) := dq_180 (dq_suf 3 dt38cX11_read_1 rfl rfl) rfl
theorem dX11_read_22 : decode cX11_read 22 = .ok (.sipush 400, 3) := dq_17 (dq_suf 6 dt38cX11_read_1 rfl rfl) (by decide +kernel)
theorem dX11_read_25 : decode cX11_read 25 = .ok (.if_icmp .ge 10, 3) := dq_162 (dq_suf 9 dt38cX11_read_1 rfl rfl) (by decide +kernel)
theorem dX11_read_28 : decode cX11_read 28 = .ok (.aload_n 0, 1) := dq_42 (dq_suf 12 dt38cX11_read_1 rfl rfl)
theorem dX11_read_29 : decode cX11_read 29 = .ok (.getfield 154, 3) := dq_180 (dq_suf 13 dt38cX11_read_1 rfl rfl) rfl
theorem dX11_read_32 : decode cX11_read 32 = .ok (.goto 6, 3) := dq_167 (dq_suf 0 dt38cX11_read_2 rfl rfl) (by decide +kernel)
theorem dX11_read_35 : decode cX11_read 35 = .ok (.sipush 400, 3) := dq_17 (dq_suf 3 dt38cX11_read_2 rfl rfl) (by decide +kernel)
theorem dX11_read_38 : decode cX11_read 38 = .ok (.putfield 178, 3) := dq_181 (dq_suf 6 dt38cX11_read_2 rfl rfl) rfl
theorem dX11_read_41 : decode cX11_read 41 = .ok (.aload_n 0, 1) := dq_42 (dq_suf 9 dt38cX11_read_2 rfl rfl)
theorem dX11_read_42 : decode cX11_read 42 = .ok (.getfield 154, 3) := dq_180 (dq_suf 10 dt38cX11_read_2 rfl rfl) rfl
theorem dX11_read_45 : decode cX11_read 45 = .ok (.sipush 400, 3) := dq_17 (dq_suf 13 dt38cX11_read_2 rfl rfl) (by decide +kernel)
theorem dX11_read_48 : decode cX11_read 48 = .ok (.if_icmp .le 7, 3) := dq_164 (dq_suf 0 dt38cX11_read_3 rfl rfl) (by decide +kernel)
theorem dX11_read_51 : decode cX11_read 51 = .ok (.iconst 1, 1) := dq_4 (dq_suf 3 dt38cX11_read_3 rfl rfl)
theorem dX11_read_52 : decode cX11_read 52 = .ok (.goto 4, 3) := dq_167 (dq_suf 4 dt38cX11_read_3 rfl rfl) (by decide +kernel)
theorem dX11_read_55 : decode cX11_read 55 = .ok (.iconst 0, 1) := dq_3 (dq_suf 7 dt38cX11_read_3 rfl rfl)
theorem dX11_read_56 : decode cX11_read 56 = .ok (.istore_n 3, 1) := dq_62 (dq_suf 8 dt38cX11_read_3 rfl rfl)
theorem dX11_read_57 : decode cX11_read 57 = .ok (.aload_n 0, 1) := dq_42 (dq_suf 9 dt38cX11_read_3 rfl rfl)
theorem dX11_read_58 : decode cX11_read 58 = .ok (.iconst 0, 1) := dq_3 (dq_suf 10 dt38cX11_read_3 rfl rfl)
theorem dX11_read_59 : decode cX11_read 59 = .ok (.putfield 154, 3) := dq_181 (dq_suf 11 dt38cX11_read_3 rfl rfl) rfl
theorem dX11_read_62 : decode cX11_read 62 = .ok (.aload_n 0, 1) := dq_42 (dq_suf 14 dt38cX11_read_3 rfl rfl)
theorem dX11_read_63 : decode cX11_read 63 = .ok (.iconst 0, 1) := dq_3 (dq_suf 15 dt38cX11_read_3 rfl rfl)
theorem dX11_read_64 : decode cX11_read 64 = .ok (.putfield 175, 3) := dq_181 (dq_suf 0 dt38cX11_read_4 rfl rfl) rfl
theorem dX11_read_67 : decode cX11_read 67 = .ok (.aload_n 0, 1) := dq_42 (dq_suf 3 dt38cX11_read_4 rfl rfl)
theorem dX11_read_68 : decode cX11_read 68 = .ok (.iconst 0, 1) := dq_3 (dq_suf 4 dt38cX11_read_4 rfl rfl)
theorem dX11_read_69 : decode cX11_read 69 = .ok (.putfield 172, 3) := dq_181 (dq_suf 5 dt38cX11_read_4 rfl rfl) rfl
theorem dX11_read_72 : decode cX11_read 72 = .ok (.aload_n 0, 1) := dq_42 (dq_suf 8 dt38cX11_read_4 rfl rfl)
theorem dX11_read_73 : decode cX11_read 73 = .ok (.iconst 0, 1) := dq_3 (dq_suf 9 dt38cX11_read_4 rfl rfl)
theorem dX11_read_74 : decode cX11_read 74 = .ok (.putfield 204, 3) := dq_181 (dq_suf 10 dt38cX11_read_4 rfl rfl) rfl
theorem dX11_read_77 : decode cX11_read 77 = .ok (.aload_n 0, 1) := dq_42 (dq_suf 13 dt38cX11_read_4 rfl rfl)
theorem dX11_read_78 : decode cX11_read 78 = .ok (.iconst 0, 1) := dq_3 (dq_suf 14 dt38cX11_read_4 rfl rfl)
theorem dX11_read_79 : decode cX11_read 79 = .ok (.putfield 181, 3) := dq_181 (dq_suf 15 dt38cX11_read_4 rfl rfl) rfl
theorem dX11_read_82 : decode cX11_read 82 = .ok (.aload_n 0, 1) := dq_42 (dq_suf 2 dt38cX11_read_5 rfl rfl)
theorem dX11_read_83 : decode cX11_read 83 = .ok (.iload_n 2, 1) := dq_28 (dq_suf 3 dt38cX11_read_5 rfl rfl)
theorem dX11_read_84 : decode cX11_read 84 = .ok (.ifCond .ne 7, 3) := dq_154 (dq_suf 4 dt38cX11_read_5 rfl rfl) (by decide +kernel)
theorem dX11_read_87 : decode cX11_read 87 = .ok (.iconst 1, 1) := dq_4 (dq_suf 7 dt38cX11_read_5 rfl rfl)
theorem dX11_read_88 : decode cX11_read 88 = .ok (.goto 4, 3) := dq_167 (dq_suf 8 dt38cX11_read_5 rfl rfl) (by decide +kernel)
theorem dX11_read_91 : decode cX11_read 91 = .ok (.iconst 0, 1) := dq_3 (dq_suf 11 dt38cX11_read_5 rfl rfl)
theorem dX11_read_92 : decode cX11_read 92 = .ok (.putfield 187, 3) := dq_181 (dq_suf 12 dt38cX11_read_5 rfl rfl) rfl
theorem dX11_read_95 : decode cX11_read 95 = .ok (.aload_n 0, 1) := dq_42 (dq_suf 15 dt38cX11_read_5 rfl rfl)
theorem dX11_read_96 : decode cX11_read 96 = .ok (.invokevirtual 252, 3) := dq_182 (dq_suf 0 dt38cX11_read_6 rfl rfl) rfl
theorem dX11_read_99 : decode cX11_read 99 = .ok (.istore 4, 2) := dq_54 (dq_suf 3 dt38cX11_read_6 rfl rfl) rfl
theorem dX11_read_101 : decode cX11_read 101 = .ok (.aload_n 0, 1) := dq_42 (dq_suf 5 dt38cX11_read_6 rfl rfl)
theorem dX11_read_102 : decode cX11_read 102 = .ok (.getfield 181, 3) := dq_180 (dq_suf 6 dt38cX11_read_6 rfl rfl) rfl
theorem dX11_read_105 : decode cX11_read 105 = .ok (.ifCond .ne 22, 3) := dq_154 (dq_suf 9 dt38cX11_read_6 rfl rfl) (by decide +kernel)
theorem dX11_read_108 : decode cX11_read 108 = .ok (.aload_n 0, 1) := dq_42 (dq_suf 12 dt38cX11_read_6 rfl rfl)
theorem dX11_read_109 : decode cX11_read 109 = .ok (.invokevirtual 210, 3) := dq_182 (dq_suf 13 dt38cX11_read_6 rfl rfl) rfl
theorem dX11_read_112 : decode cX11_read 112 = .ok (.iconst (-1), 1) := dq_2 (dq_suf 0 dt38cX11_read_7 rfl rfl)
theorem dX11_read_113 : decode cX11_read 113 = .ok (.if_icmp .ne 7, 3) := dq_160 (dq_suf 1 dt38cX11_read_7 rfl rfl) (by decide +kernel)
theorem dX11_read_116 : decode cX11_read 116 = .ok (.iload_n 3, 1) := dq_29 (dq_suf 4 dt38cX11_read_7 rfl rfl)
theorem dX11_read_117 : decode cX11_read 117 = .ok (.ifCond .eq 10, 3) := dq_153 (dq_suf 5 dt38cX11_read_7 rfl rfl) (by decide +kernel)
theorem dX11_read_120 : decode cX11_read 120 = .ok (.aload_n 0, 1) := dq_42 (dq_suf 8 dt38cX11_read_7 rfl rfl)
theorem dX11_read_121 : decode cX11_read 121 = .ok (.iconst 1, 1) := dq_4 (dq_suf 9 dt38cX11_read_7 rfl rfl)
theorem dX11_read_122 : decode cX11_read 122 = .ok (.invokevirtual 207, 3) := dq_182 (dq_suf 10 dt38cX11_read_7 rfl rfl) rfl
theorem dX11_read_125 : decode cX11_read 125 = .ok (.istore 5, 2) := dq_54 (dq_suf 13 dt38cX11_read_7 rfl rfl) rfl
theorem dX11_read_127 : decode cX11_read 127 = .ok (.aload_n 0, 1) := dq_42 (dq_suf 15 dt38cX11_read_7 rfl rfl)
theorem dX11_read_128 : decode cX11_read 128 = .ok (.aload_n 0, 1) := dq_42 (dq_suf 0 dt38cX11_read_8 rfl rfl)
theorem dX11_read_129 : decode cX11_read 129 = .ok (.getfield 181, 3) := dq_180 (dq_suf 1 dt38cX11_read_8 rfl rfl) rfl
theorem dX11_read_132 : decode cX11_read 132 = .ok (.putfield 255, 3) := dq_181 (dq_suf 4 dt38cX11_read_8 rfl rfl) rfl
theorem dX11_read_135 : decode cX11_read 135 = .ok (.aload_n 0, 1) := dq_42 (dq_suf 7 dt38cX11_read_8 rfl rfl)
theorem dX11_read_136 : decode cX11_read 136 = .ok (.aload_n 0, 1) := dq_42 (dq_suf 8 dt38cX11_read_8 rfl rfl)
theorem dX11_read_137 : decode cX11_read 137 = .ok (.getfield 181, 3) := dq_180 (dq_suf 9 dt38cX11_read_8 rfl rfl) rfl
theorem dX11_read_140 : decode cX11_read 140 = .ok (.ifCond .ne 7, 3) := dq_154 (dq_suf 12 dt38cX11_read_8 rfl rfl) (by decide +kernel)
theorem dX11_read_143 : decode cX11_read 143 = .ok (.iconst (-1), 1) := dq_2 (dq_suf 15 dt38cX11_read_8 rfl rfl)
theorem dX11_read_144 : decode cX11_read 144 = .ok (.goto 7, 3) := dq_167 (dq_suf 0 dt38cX11_read_9 rfl rfl) (by decide +kernel)
theorem dX11_read_147 : decode cX11_read 147 = .ok (.aload_n 0, 1) := dq_42 (dq_suf 3 dt38cX11_read_9 rfl rfl)
theorem dX11_read_148 : decode cX11_read 148 = .ok (.getfield 184, 3) := dq_180 (dq_suf 4 dt38cX11_read_9 rfl rfl) rfl
theorem dX11_read_151 : decode cX11_read 151 = .ok (.putfield 36, 3) := dq_181 (dq_suf 7 dt38cX11_read_9 rfl rfl) rfl
theorem dX11_read_154 : decode cX11_read 154 = .ok (.aload_n 0, 1) := dq_42 (dq_suf 10 dt38cX11_read_9 rfl rfl)
theorem dX11_read_155 : decode cX11_read 155 = .ok (.getfield 181, 3) := dq_180 (dq_suf 11 dt38cX11_read_9 rfl rfl) rfl
theorem dX11_read_158 : decode cX11_read 158 = .ok (.ifCond .eq 6, 3) := dq_153 (dq_suf 14 dt38cX11_read_9 rfl rfl) (by decide +kernel)
theorem dX11_read_161 : decode cX11_read 161 = .ok (.bipush (-2), 2) := dq_16 (dq_suf 1 dt38cX11_read_10 rfl rfl) (by decide +kernel)
theorem dX11_read_163 : decode cX11_read 163 = .ok (.ireturn, 1) := dq_172 (dq_suf 3 dt38cX11_read_10 rfl rfl)
theorem dX11_read_164 : decode cX11_read 164 = .ok (.aload_n 0, 1) := dq_42 (dq_suf 4 dt38cX11_read_10 rfl rfl)
theorem dX11_read_165 : decode cX11_read 165 = .ok (.getfield 26, 3) := dq_180 (dq_suf 5 dt38cX11_read_10 rfl rfl) rfl
theorem dX11_read_168 : decode cX11_read 168 = .ok (.istore 5, 2) := dq_54 (dq_suf 8 dt38cX11_read_10 rfl rfl) rfl
theorem dX11_read_170 : decode cX11_read 170 = .ok (.aload_n 0, 1) := dq_42 (dq_suf 10 dt38cX11_read_10 rfl rfl)
theorem dX11_read_171 : decode cX11_read 171 = .ok (.iconst 0, 1) := dq_3 (dq_suf 11 dt38cX11_read_10 rfl rfl)
theorem dX11_read_172 : decode cX11_read 172 = .ok (.putfield 168, 3) := dq_181 (dq_suf 12 dt38cX11_read_10 rfl rfl) rfl
theorem dX11_read_175 : decode cX11_read 175 = .ok (.aload_n 0, 1) := dq_42 (dq_suf 15 dt38cX11_read_10 rfl rfl)
theorem dX11_read_176 : decode cX11_read 176 = .ok (.iload 4, 2) := dq_21 (dq_suf 0 dt38cX11_read_11 rfl rfl) rfl
theorem dX11_read_178 : decode cX11_read 178 = .ok (.iconst 1, 1) := dq_4 (dq_suf 2 dt38cX11_read_11 rfl rfl)
theorem dX11_read_179 : decode cX11_read 179 = .ok (.invokevirtual 258, 3) := dq_182 (dq_suf 3 dt38cX11_read_11 rfl rfl) rfl
theorem dX11_read_182 : decode cX11_read 182 = .ok (.istore 6, 2) := dq_54 (dq_suf 6 dt38cX11_read_11 rfl rfl) rfl
theorem dX11_read_184 : decode cX11_read 184 = .ok (.aload_n 0, 1) := dq_42 (dq_suf 8 dt38cX11_read_11 rfl rfl)
theorem dX11_read_185 : decode cX11_read 185 = .ok (.iload 4, 2) := dq_21 (dq_suf 9 dt38cX11_read_11 rfl rfl) rfl
theorem dX11_read_187 : decode cX11_read 187 = .ok (.iconst 0, 1) := dq_3 (dq_suf 11 dt38cX11_read_11 rfl rfl)
theorem dX11_read_188 : decode cX11_read 188 = .ok (.invokevirtual 258, 3) := dq_182 (dq_suf 12 dt38cX11_read_11 rfl rfl) rfl
theorem dX11_read_191 : decode cX11_read 191 = .ok (.istore 7, 2) := dq_54 (dq_suf 15 dt38cX11_read_11 rfl rfl) rfl
theorem dX11_read_193 : decode cX11_read 193 = .ok (.aload_n 0, 1) := dq_42 (dq_suf 1 dt38cX11_read_12 rfl rfl)
theorem dX11_read_194 : decode cX11_read 194 = .ok (.getfield 168, 3) := dq_180 (dq_suf 2 dt38cX11_read_12 rfl rfl) rfl
theorem dX11_read_197 : decode cX11_read 197 = .ok (.ifCond .eq 17, 3) := dq_153 (dq_suf 5 dt38cX11_read_12 rfl rfl) (by decide +kernel)
theorem dX11_read_200 : decode cX11_read 200 = .ok (.aload_n 0, 1) := dq_42 (dq_suf 8 dt38cX11_read_12 rfl rfl)
theorem dX11_read_201 : decode cX11_read 201 = .ok (.iload 5, 2) := dq_21 (dq_suf 9 dt38cX11_read_12 rfl rfl) rfl
theorem dX11_read_203 : decode cX11_read 203 = .ok (.putfield 26, 3) := dq_181 (dq_suf 11 dt38cX11_read_12 rfl rfl) rfl
theorem dX11_read_206 : decode cX11_read 206 = .ok (.aload_n 0, 1) := dq_42 (dq_suf 14 dt38cX11_read_12 rfl rfl)
theorem dX11_read_207 : decode cX11_read 207 = .ok (.iconst 4, 1) := dq_7 (dq_suf 15 dt38cX11_read_12 rfl rfl)
theorem dX11_read_208 : decode cX11_read 208 = .ok (.putfield 255, 3) := dq_181 (dq_suf 0 dt38cX11_read_13 rfl rfl) rfl
theorem dX11_read_211 : decode cX11_read 211 = .ok (.bipush (-2), 2) := dq_16 (dq_suf 3 dt38cX11_read_13 rfl rfl) (by decide +kernel)
theorem dX11_read_213 : decode cX11_read 213 = .ok (.ireturn, 1) := dq_172 (dq_suf 5 dt38cX11_read_13 rfl rfl)
theorem dX11_read_214 : decode cX11_read 214 = .ok (.aload_n 0, 1) := dq_42 (dq_suf 6 dt38cX11_read_13 rfl rfl)
theorem dX11_read_215 : decode cX11_read 215 = .ok (.getfield 30, 3) := dq_180 (dq_suf 7 dt38cX11_read_13 rfl rfl) rfl
theorem dX11_read_218 : decode cX11_read 218 = .ok (.iload_n 1, 1) := dq_27 (dq_suf 10 dt38cX11_read_13 rfl rfl)
theorem dX11_read_219 : decode cX11_read 219 = .ok (.iload 6, 2) := dq_21 (dq_suf 11 dt38cX11_read_13 rfl rfl) rfl
theorem dX11_read_221 : decode cX11_read 221 = .ok (.iastore, 1) := dq_79 (dq_suf 13 dt38cX11_read_13 rfl rfl)
theorem dX11_read_222 : decode cX11_read 222 = .ok (.aload_n 0, 1) := dq_42 (dq_suf 14 dt38cX11_read_13 rfl rfl)
theorem dX11_read_223 : decode cX11_read 223 = .ok (.getfield 33, 3) := dq_180 (dq_suf 15 dt38cX11_read_13 rfl rfl) rfl
theorem dX11_read_226 : decode cX11_read 226 = .ok (.iload_n 1, 1) := dq_27 (dq_suf 2 dt38cX11_read_14 rfl rfl)
theorem dX11_read_227 : decode cX11_read 227 = .ok (.iload 7, 2) := dq_21 (dq_suf 3 dt38cX11_read_14 rfl rfl) rfl
theorem dX11_read_229 : decode cX11_read 229 = .ok (.iastore, 1) := dq_79 (dq_suf 5 dt38cX11_read_14 rfl rfl)
theorem dX11_read_230 : decode cX11_read 230 = .ok (.iload 6, 2) := dq_21 (dq_suf 6 dt38cX11_read_14 rfl rfl) rfl
theorem dX11_read_232 : decode cX11_read 232 = .ok (.ireturn, 1) := dq_172 (dq_suf 8 dt38cX11_read_14 rfl rfl)
noncomputable def ds38cX11_fault_1 : List UInt8 := 27 :: 4 :: 160 :: 0 :: 10 :: 42 :: 180 :: 0 :: 36 :: 167 :: 0 :: 4 :: 2 :: 172 :: []
noncomputable def ds38cX11_fault_0 : List UInt8 := 42 :: 3 :: 181 :: 0 :: 151 :: 27 :: 154 :: 0 :: 10 :: 42 :: 180 :: 0 :: 255 :: 167 :: 0 :: 16 :: ds38cX11_fault_1
theorem dt38cX11_fault_0 : cX11_fault.data.toList.drop 0 = ds38cX11_fault_0 := by decide +kernel
theorem dt38cX11_fault_1 : cX11_fault.data.toList.drop 16 = ds38cX11_fault_1 := dq_suf 16 dt38cX11_fault_0 rfl rfl
theorem dX11_fault_0 : decode cX11_fault 0 = .ok (.aload_n 0, 1) := dq_42 (dq_suf 0 dt38cX11_fault_0 rfl rfl)
theorem dX11_fault_1 : decode cX11_fault 1 = .ok (.iconst 0, 1) := dq_3 (dq_suf 1 dt38cX11_fault_0 rfl rfl)
theorem dX11_fault_2 : decode cX11_fault 2 = .ok (.putfield 151, 3) := dq_181 (dq_suf 2 dt38cX11_fault_0 rfl rfl) rfl
theorem dX11_fault_5 : decode cX11_fault 5 = .ok (.iload_n 1, 1) := dq_27 (dq_suf 5 dt38cX11_fault_0 rfl rfl)
theorem dX11_fault_6 : decode cX11_fault 6 = .ok (.ifCond .ne 10, 3) := dq_154 (dq_suf 6 dt38cX11_fault_0 rfl rfl) (by decide +kernel)
theorem dX11_fault_9 : decode cX11_fault 9 = .ok (.aload_n 0, 1) := dq_42 (dq_suf 9 dt38cX11_fault_0 rfl rfl)
theorem dX11_fault_10 : decode cX11_fault 10 = .ok (.getfield 255, 3) := dq_180 (dq_suf 10 dt38cX11_fault_0 rfl rfl) rfl
theorem dX11_fault_13 : decode cX11_fault 13 = .ok (.goto 16, 3) := dq_167 (dq_suf 13 dt38cX11_fault_0 rfl rfl) (by decide +kernel)
theorem dX11_fault_16 : decode cX11_fault 16 = .ok (.iload_n 1, 1) := dq_27 (dq_suf 0 dt38cX11_fault_1 rfl rfl)
theorem dX11_fault_17 : decode cX11_fault 17 = .ok (.iconst 1, 1) := dq_4 (dq_suf 1 dt38cX11_fault_1 rfl rfl)
theorem dX11_fault_18 : decode cX11_fault 18 = .ok (.if_icmp .ne 10, 3) := dq_160 (dq_suf 2 dt38cX11_fault_1 rfl rfl) (by decide +kernel)
theorem dX11_fault_21 : decode cX11_fault 21 = .ok (.aload_n 0, 1) := dq_42 (dq_suf 5 dt38cX11_fault_1 rfl rfl)
theorem dX11_fault_22 : decode cX11_fault 22 = .ok (.getfield 36, 3) := dq_180 (dq_suf 6 dt38cX11_fault_1 rfl rfl) rfl
theorem dX11_fault_25 : decode cX11_fault 25 = .ok (.goto 4, 3) := dq_167 (dq_suf 9 dt38cX11_fault_1 rfl rfl) (by decide +kernel)
theorem dX11_fault_28 : decode cX11_fault 28 = .ok (.iconst (-1), 1) := dq_2 (dq_suf 12 dt38cX11_fault_1 rfl rfl)
theorem dX11_fault_29 : decode cX11_fault 29 = .ok (.ireturn, 1) := dq_172 (dq_suf 13 dt38cX11_fault_1 rfl rfl)
noncomputable def ds38cX11_turnedOf_10 : List UInt8 := 7 :: 28 :: 2 :: 182 :: 0 :: 242 :: 172 :: 42 :: 16 :: 6 :: 28 :: 2 :: 182 :: 0 :: 242 :: 172 :: []
noncomputable def ds38cX11_turnedOf_9 : List UInt8 := 28 :: 29 :: 182 :: 0 :: 242 :: 172 :: 42 :: 7 :: 28 :: 29 :: 182 :: 0 :: 242 :: 172 :: 42 :: 16 :: ds38cX11_turnedOf_10
noncomputable def ds38cX11_turnedOf_8 : List UInt8 := 172 :: 42 :: 5 :: 42 :: 180 :: 0 :: 20 :: 27 :: 46 :: 2 :: 182 :: 0 :: 242 :: 172 :: 42 :: 8 :: ds38cX11_turnedOf_9
noncomputable def ds38cX11_turnedOf_7 : List UInt8 := 4 :: 172 :: 3 :: 172 :: 42 :: 6 :: 42 :: 180 :: 0 :: 20 :: 27 :: 46 :: 2 :: 182 :: 0 :: 242 :: ds38cX11_turnedOf_8
noncomputable def ds38cX11_turnedOf_6 : List UInt8 := 0 :: 0 :: 0 :: 61 :: 0 :: 0 :: 0 :: 74 :: 0 :: 0 :: 0 :: 82 :: 0 :: 0 :: 0 :: 90 :: ds38cX11_turnedOf_7
noncomputable def ds38cX11_turnedOf_5 : List UInt8 := 0 :: 0 :: 0 :: 6 :: 0 :: 0 :: 0 :: 44 :: 0 :: 0 :: 0 :: 46 :: 0 :: 0 :: 0 :: 48 :: ds38cX11_turnedOf_6
noncomputable def ds38cX11_turnedOf_4 : List UInt8 := 0 :: 16 :: 27 :: 46 :: 170 :: 0 :: 0 :: 0 :: 0 :: 0 :: 0 :: 99 :: 0 :: 0 :: 0 :: 0 :: ds38cX11_turnedOf_5
noncomputable def ds38cX11_turnedOf_3 : List UInt8 := 0 :: 63 :: 42 :: 180 :: 0 :: 23 :: 27 :: 46 :: 46 :: 167 :: 0 :: 4 :: 2 :: 62 :: 42 :: 180 :: ds38cX11_turnedOf_4
noncomputable def ds38cX11_turnedOf_2 : List UInt8 := 7 :: 159 :: 0 :: 13 :: 42 :: 180 :: 0 :: 16 :: 27 :: 46 :: 8 :: 160 :: 0 :: 17 :: 42 :: 180 :: ds38cX11_turnedOf_3
noncomputable def ds38cX11_turnedOf_1 : List UInt8 := 0 :: 20 :: 27 :: 46 :: 46 :: 167 :: 0 :: 4 :: 2 :: 61 :: 42 :: 180 :: 0 :: 16 :: 27 :: 46 :: ds38cX11_turnedOf_2
noncomputable def ds38cX11_turnedOf_0 : List UInt8 := 42 :: 180 :: 0 :: 16 :: 27 :: 46 :: 6 :: 164 :: 0 :: 17 :: 42 :: 180 :: 0 :: 63 :: 42 :: 180 :: ds38cX11_turnedOf_1
theorem dt38cX11_turnedOf_0 : cX11_turnedOf.data.toList.drop 0 = ds38cX11_turnedOf_0 := by decide +kernel
theorem dt38cX11_turnedOf_1 : cX11_turnedOf.data.toList.drop 16 = ds38cX11_turnedOf_1 := dq_suf 16 dt38cX11_turnedOf_0 rfl rfl
theorem dt38cX11_turnedOf_2 : cX11_turnedOf.data.toList.drop 32 = ds38cX11_turnedOf_2 := dq_suf 16 dt38cX11_turnedOf_1 rfl rfl
theorem dt38cX11_turnedOf_3 : cX11_turnedOf.data.toList.drop 48 = ds38cX11_turnedOf_3 := dq_suf 16 dt38cX11_turnedOf_2 rfl rfl
theorem dt38cX11_turnedOf_4 : cX11_turnedOf.data.toList.drop 64 = ds38cX11_turnedOf_4 := dq_suf 16 dt38cX11_turnedOf_3 rfl rfl
theorem dt38cX11_turnedOf_5 : cX11_turnedOf.data.toList.drop 80 = ds38cX11_turnedOf_5 := dq_suf 16 dt38cX11_turnedOf_4 rfl rfl
theorem dt38cX11_turnedOf_6 : cX11_turnedOf.data.toList.drop 96 = ds38cX11_turnedOf_6 := dq_suf 16 dt38cX11_turnedOf_5 rfl rfl
theorem dt38cX11_turnedOf_7 : cX11_turnedOf.data.toList.drop 112 = ds38cX11_turnedOf_7 := dq_suf 16 dt38cX11_turnedOf_6 rfl rfl
theorem dt38cX11_turnedOf_8 : cX11_turnedOf.data.toList.drop 128 = ds38cX11_turnedOf_8 := dq_suf 16 dt38cX11_turnedOf_7 rfl rfl
theorem dt38cX11_turnedOf_9 : cX11_turnedOf.data.toList.drop 144 = ds38cX11_turnedOf_9 := dq_suf 16 dt38cX11_turnedOf_8 rfl rfl
theorem dt38cX11_turnedOf_10 : cX11_turnedOf.data.toList.drop 160 = ds38cX11_turnedOf_10 := dq_suf 16 dt38cX11_turnedOf_9 rfl rfl
theorem dX11_turnedOf_0 : decode cX11_turnedOf 0 = .ok (.aload_n 0, 1) := dq_42 (dq_suf 0 dt38cX11_turnedOf_0 rfl rfl)
theorem dX11_turnedOf_1 : decode cX11_turnedOf 1 = .ok (.getfield 16, 3) := dq_180 (dq_suf 1 dt38cX11_turnedOf_0 rfl rfl) rfl
theorem dX11_turnedOf_4 : decode cX11_turnedOf 4 = .ok (.iload_n 1, 1) := dq_27 (dq_suf 4 dt38cX11_turnedOf_0 rfl rfl)
theorem dX11_turnedOf_5 : decode cX11_turnedOf 5 = .ok (.iaload, 1) := dq_46 (dq_suf 5 dt38cX11_turnedOf_0 rfl rfl)
theorem dX11_turnedOf_6 : decode cX11_turnedOf 6 = .ok (.iconst 3, 1) := dq_6 (dq_suf 6 dt38cX11_turnedOf_0 rfl rfl)
theorem dX11_turnedOf_7 : decode cX11_turnedOf 7 = .ok (.if_icmp .le 17, 3) := dq_164 (dq_suf 7 dt38cX11_turnedOf_0 rfl rfl) (by decide +kernel)
theorem dX11_turnedOf_10 : decode cX11_turnedOf 10 = .ok (.aload_n 0, 1) := dq_42 (dq_suf 10 dt38cX11_turnedOf_0 rfl rfl)
theorem dX11_turnedOf_11 : decode cX11_turnedOf 11 = .ok (.getfield 63, 3) := dq_180 (dq_suf 11 dt38cX11_turnedOf_0 rfl rfl) rfl
theorem dX11_turnedOf_14 : decode cX11_turnedOf 14 = .ok (.aload_n 0, 1) := dq_42 (dq_suf 14 dt38cX11_turnedOf_0 rfl rfl)
theorem dX11_turnedOf_15 : decode cX11_turnedOf 15 = .ok (.getfield 20, 3) := dq_180 (dq_suf 15 dt38cX11_turnedOf_0 rfl rfl) rfl
theorem dX11_turnedOf_18 : decode cX11_turnedOf 18 = .ok (.iload_n 1, 1) := dq_27 (dq_suf 2 dt38cX11_turnedOf_1 rfl rfl)
theorem dX11_turnedOf_19 : decode cX11_turnedOf 19 = .ok (.iaload, 1) := dq_46 (dq_suf 3 dt38cX11_turnedOf_1 rfl rfl)
theorem dX11_turnedOf_20 : decode cX11_turnedOf 20 = .ok (.iaload, 1) := dq_46 (dq_suf 4 dt38cX11_turnedOf_1 rfl rfl)
theorem dX11_turnedOf_21 : decode cX11_turnedOf 21 = .ok (.goto 4, 3) := dq_167 (dq_suf 5 dt38cX11_turnedOf_1 rfl rfl) (by decide +kernel)
theorem dX11_turnedOf_24 : decode cX11_turnedOf 24 = .ok (.iconst (-1), 1) := dq_2 (dq_suf 8 dt38cX11_turnedOf_1 rfl rfl)
theorem dX11_turnedOf_25 : decode cX11_turnedOf 25 = .ok (.istore_n 2, 1) := dq_61 (dq_suf 9 dt38cX11_turnedOf_1 rfl rfl)
theorem dX11_turnedOf_26 : decode cX11_turnedOf 26 = .ok (.aload_n 0, 1) := dq_42 (dq_suf 10 dt38cX11_turnedOf_1 rfl rfl)
theorem dX11_turnedOf_27 : decode cX11_turnedOf 27 = .ok (.getfield 16, 3) := dq_180 (dq_suf 11 dt38cX11_turnedOf_1 rfl rfl) rfl
theorem dX11_turnedOf_30 : decode cX11_turnedOf 30 = .ok (.iload_n 1, 1) := dq_27 (dq_suf 14 dt38cX11_turnedOf_1 rfl rfl)
theorem dX11_turnedOf_31 : decode cX11_turnedOf 31 = .ok (.iaload, 1) := dq_46 (dq_suf 15 dt38cX11_turnedOf_1 rfl rfl)
theorem dX11_turnedOf_32 : decode cX11_turnedOf 32 = .ok (.iconst 4, 1) := dq_7 (dq_suf 0 dt38cX11_turnedOf_2 rfl rfl)
theorem dX11_turnedOf_33 : decode cX11_turnedOf 33 = .ok (.if_icmp .eq 13, 3) := dq_159 (dq_suf 1 dt38cX11_turnedOf_2 rfl rfl) (by decide +kernel)
theorem dX11_turnedOf_36 : decode cX11_turnedOf 36 = .ok (.aload_n 0, 1) := dq_42 (dq_suf 4 dt38cX11_turnedOf_2 rfl rfl)
theorem dX11_turnedOf_37 : decode cX11_turnedOf 37 = .ok (.getfield 16, 3) := dq_180 (dq_suf 5 dt38cX11_turnedOf_2 rfl rfl) rfl
theorem dX11_turnedOf_40 : decode cX11_turnedOf 40 = .ok (.iload_n 1, 1) := dq_27 (dq_suf 8 dt38cX11_turnedOf_2 rfl rfl)
theorem dX11_turnedOf_41 : decode cX11_turnedOf 41 = .ok (.iaload, 1) := dq_46 (dq_suf 9 dt38cX11_turnedOf_2 rfl rfl)
theorem dX11_turnedOf_42 : decode cX11_turnedOf 42 = .ok (.iconst 5, 1) := dq_8 (dq_suf 10 dt38cX11_turnedOf_2 rfl rfl)
theorem dX11_turnedOf_43 : decode cX11_turnedOf 43 = .ok (.if_icmp .ne 17, 3) := dq_160 (dq_suf 11 dt38cX11_turnedOf_2 rfl rfl) (by decide +kernel)
theorem dX11_turnedOf_46 : decode cX11_turnedOf 46 = .ok (.aload_n 0, 1) := dq_42 (dq_suf 14 dt38cX11_turnedOf_2 rfl rfl)
theorem dX11_turnedOf_47 : decode cX11_turnedOf 47 = .ok (.getfield 63, 3) := dq_180 (dq_suf 15 dt38cX11_turnedOf_2 rfl rfl) rfl
theorem dX11_turnedOf_50 : decode cX11_turnedOf 50 = .ok (.aload_n 0, 1) := dq_42 (dq_suf 2 dt38cX11_turnedOf_3 rfl rfl)
theorem dX11_turnedOf_51 : decode cX11_turnedOf 51 = .ok (.getfield 23, 3) := dq_180 (dq_suf 3 dt38cX11_turnedOf_3 rfl rfl) rfl
theorem dX11_turnedOf_54 : decode cX11_turnedOf 54 = .ok (.iload_n 1, 1) := dq_27 (dq_suf 6 dt38cX11_turnedOf_3 rfl rfl)
theorem dX11_turnedOf_55 : decode cX11_turnedOf 55 = .ok (.iaload, 1) := dq_46 (dq_suf 7 dt38cX11_turnedOf_3 rfl rfl)
theorem dX11_turnedOf_56 : decode cX11_turnedOf 56 = .ok (.iaload, 1) := dq_46 (dq_suf 8 dt38cX11_turnedOf_3 rfl rfl)
theorem dX11_turnedOf_57 : decode cX11_turnedOf 57 = .ok (.goto 4, 3) := dq_167 (dq_suf 9 dt38cX11_turnedOf_3 rfl rfl) (by decide +kernel)
theorem dX11_turnedOf_60 : decode cX11_turnedOf 60 = .ok (.iconst (-1), 1) := dq_2 (dq_suf 12 dt38cX11_turnedOf_3 rfl rfl)
theorem dX11_turnedOf_61 : decode cX11_turnedOf 61 = .ok (.istore_n 3, 1) := dq_62 (dq_suf 13 dt38cX11_turnedOf_3 rfl rfl)
theorem dX11_turnedOf_62 : decode cX11_turnedOf 62 = .ok (.aload_n 0, 1) := dq_42 (dq_suf 14 dt38cX11_turnedOf_3 rfl rfl)
theorem dX11_turnedOf_63 : decode cX11_turnedOf 63 = .ok (.getfield 16, 3) := dq_180 (dq_suf 15 dt38cX11_turnedOf_3 rfl rfl) rfl
theorem dX11_turnedOf_66 : decode cX11_turnedOf 66 = .ok (.iload_n 1, 1) := dq_27 (dq_suf 2 dt38cX11_turnedOf_4 rfl rfl)
theorem dX11_turnedOf_67 : decode cX11_turnedOf 67 = .ok (.iaload, 1) := dq_46 (dq_suf 3 dt38cX11_turnedOf_4 rfl rfl)
theorem dX11_turnedOf_68 : decode cX11_turnedOf 68 = .ok (.tableswitch 99 0 6 #[44, 46, 48, 61, 74, 82, 90], 44) := by decide +kernel
theorem dX11_turnedOf_112 : decode cX11_turnedOf 112 = .ok (.iconst 1, 1) := dq_4 (dq_suf 0 dt38cX11_turnedOf_7 rfl rfl)
theorem dX11_turnedOf_113 : decode cX11_turnedOf 113 = .ok (.ireturn, 1) := dq_172 (dq_suf 1 dt38cX11_turnedOf_7 rfl rfl)
theorem dX11_turnedOf_114 : decode cX11_turnedOf 114 = .ok (.iconst 0, 1) := dq_3 (dq_suf 2 dt38cX11_turnedOf_7 rfl rfl)
theorem dX11_turnedOf_115 : decode cX11_turnedOf 115 = .ok (.ireturn, 1) := dq_172 (dq_suf 3 dt38cX11_turnedOf_7 rfl rfl)
theorem dX11_turnedOf_116 : decode cX11_turnedOf 116 = .ok (.aload_n 0, 1) := dq_42 (dq_suf 4 dt38cX11_turnedOf_7 rfl rfl)
theorem dX11_turnedOf_117 : decode cX11_turnedOf 117 = .ok (.iconst 3, 1) := dq_6 (dq_suf 5 dt38cX11_turnedOf_7 rfl rfl)
theorem dX11_turnedOf_118 : decode cX11_turnedOf 118 = .ok (.aload_n 0, 1) := dq_42 (dq_suf 6 dt38cX11_turnedOf_7 rfl rfl)
theorem dX11_turnedOf_119 : decode cX11_turnedOf 119 = .ok (.getfield 20, 3) := dq_180 (dq_suf 7 dt38cX11_turnedOf_7 rfl rfl) rfl
theorem dX11_turnedOf_122 : decode cX11_turnedOf 122 = .ok (.iload_n 1, 1) := dq_27 (dq_suf 10 dt38cX11_turnedOf_7 rfl rfl)
theorem dX11_turnedOf_123 : decode cX11_turnedOf 123 = .ok (.iaload, 1) := dq_46 (dq_suf 11 dt38cX11_turnedOf_7 rfl rfl)
theorem dX11_turnedOf_124 : decode cX11_turnedOf 124 = .ok (.iconst (-1), 1) := dq_2 (dq_suf 12 dt38cX11_turnedOf_7 rfl rfl)
theorem dX11_turnedOf_125 : decode cX11_turnedOf 125 = .ok (.invokevirtual 242, 3) := dq_182 (dq_suf 13 dt38cX11_turnedOf_7 rfl rfl) rfl
theorem dX11_turnedOf_128 : decode cX11_turnedOf 128 = .ok (.ireturn, 1) := dq_172 (dq_suf 0 dt38cX11_turnedOf_8 rfl rfl)
theorem dX11_turnedOf_129 : decode cX11_turnedOf 129 = .ok (.aload_n 0, 1) := dq_42 (dq_suf 1 dt38cX11_turnedOf_8 rfl rfl)
theorem dX11_turnedOf_130 : decode cX11_turnedOf 130 = .ok (.iconst 2, 1) := dq_5 (dq_suf 2 dt38cX11_turnedOf_8 rfl rfl)
theorem dX11_turnedOf_131 : decode cX11_turnedOf 131 = .ok (.aload_n 0, 1) := dq_42 (dq_suf 3 dt38cX11_turnedOf_8 rfl rfl)
theorem dX11_turnedOf_132 : decode cX11_turnedOf 132 = .ok (.getfield 20, 3) := dq_180 (dq_suf 4 dt38cX11_turnedOf_8 rfl rfl) rfl
theorem dX11_turnedOf_135 : decode cX11_turnedOf 135 = .ok (.iload_n 1, 1) := dq_27 (dq_suf 7 dt38cX11_turnedOf_8 rfl rfl)
theorem dX11_turnedOf_136 : decode cX11_turnedOf 136 = .ok (.iaload, 1) := dq_46 (dq_suf 8 dt38cX11_turnedOf_8 rfl rfl)
theorem dX11_turnedOf_137 : decode cX11_turnedOf 137 = .ok (.iconst (-1), 1) := dq_2 (dq_suf 9 dt38cX11_turnedOf_8 rfl rfl)
theorem dX11_turnedOf_138 : decode cX11_turnedOf 138 = .ok (.invokevirtual 242, 3) := dq_182 (dq_suf 10 dt38cX11_turnedOf_8 rfl rfl) rfl
theorem dX11_turnedOf_141 : decode cX11_turnedOf 141 = .ok (.ireturn, 1) := dq_172 (dq_suf 13 dt38cX11_turnedOf_8 rfl rfl)
theorem dX11_turnedOf_142 : decode cX11_turnedOf 142 = .ok (.aload_n 0, 1) := dq_42 (dq_suf 14 dt38cX11_turnedOf_8 rfl rfl)
theorem dX11_turnedOf_143 : decode cX11_turnedOf 143 = .ok (.iconst 5, 1) := dq_8 (dq_suf 15 dt38cX11_turnedOf_8 rfl rfl)
theorem dX11_turnedOf_144 : decode cX11_turnedOf 144 = .ok (.iload_n 2, 1) := dq_28 (dq_suf 0 dt38cX11_turnedOf_9 rfl rfl)
theorem dX11_turnedOf_145 : decode cX11_turnedOf 145 = .ok (.iload_n 3, 1) := dq_29 (dq_suf 1 dt38cX11_turnedOf_9 rfl rfl)
theorem dX11_turnedOf_146 : decode cX11_turnedOf 146 = .ok (.invokevirtual 242, 3) := dq_182 (dq_suf 2 dt38cX11_turnedOf_9 rfl rfl) rfl
theorem dX11_turnedOf_149 : decode cX11_turnedOf 149 = .ok (.ireturn, 1) := dq_172 (dq_suf 5 dt38cX11_turnedOf_9 rfl rfl)
theorem dX11_turnedOf_150 : decode cX11_turnedOf 150 = .ok (.aload_n 0, 1) := dq_42 (dq_suf 6 dt38cX11_turnedOf_9 rfl rfl)
theorem dX11_turnedOf_151 : decode cX11_turnedOf 151 = .ok (.iconst 4, 1) := dq_7 (dq_suf 7 dt38cX11_turnedOf_9 rfl rfl)
theorem dX11_turnedOf_152 : decode cX11_turnedOf 152 = .ok (.iload_n 2, 1) := dq_28 (dq_suf 8 dt38cX11_turnedOf_9 rfl rfl)
theorem dX11_turnedOf_153 : decode cX11_turnedOf 153 = .ok (.iload_n 3, 1) := dq_29 (dq_suf 9 dt38cX11_turnedOf_9 rfl rfl)
theorem dX11_turnedOf_154 : decode cX11_turnedOf 154 = .ok (.invokevirtual 242, 3) := dq_182 (dq_suf 10 dt38cX11_turnedOf_9 rfl rfl) rfl
theorem dX11_turnedOf_157 : decode cX11_turnedOf 157 = .ok (.ireturn, 1) := dq_172 (dq_suf 13 dt38cX11_turnedOf_9 rfl rfl)
theorem dX11_turnedOf_158 : decode cX11_turnedOf 158 = .ok (.aload_n 0, 1) := dq_42 (dq_suf 14 dt38cX11_turnedOf_9 rfl rfl)
theorem dX11_turnedOf_159 : decode cX11_turnedOf 159 = .ok (.bipush 7, 2) := dq_16 (dq_suf 15 dt38cX11_turnedOf_9 rfl rfl) (by decide +kernel)
theorem dX11_turnedOf_161 : decode cX11_turnedOf 161 = .ok (.iload_n 2, 1) := dq_28 (dq_suf 1 dt38cX11_turnedOf_10 rfl rfl)
theorem dX11_turnedOf_162 : decode cX11_turnedOf 162 = .ok (.iconst (-1), 1) := dq_2 (dq_suf 2 dt38cX11_turnedOf_10 rfl rfl)
theorem dX11_turnedOf_163 : decode cX11_turnedOf 163 = .ok (.invokevirtual 242, 3) := dq_182 (dq_suf 3 dt38cX11_turnedOf_10 rfl rfl) rfl
theorem dX11_turnedOf_166 : decode cX11_turnedOf 166 = .ok (.ireturn, 1) := dq_172 (dq_suf 6 dt38cX11_turnedOf_10 rfl rfl)
theorem dX11_turnedOf_167 : decode cX11_turnedOf 167 = .ok (.aload_n 0, 1) := dq_42 (dq_suf 7 dt38cX11_turnedOf_10 rfl rfl)
theorem dX11_turnedOf_168 : decode cX11_turnedOf 168 = .ok (.bipush 6, 2) := dq_16 (dq_suf 8 dt38cX11_turnedOf_10 rfl rfl) (by decide +kernel)
theorem dX11_turnedOf_170 : decode cX11_turnedOf 170 = .ok (.iload_n 2, 1) := dq_28 (dq_suf 10 dt38cX11_turnedOf_10 rfl rfl)
theorem dX11_turnedOf_171 : decode cX11_turnedOf 171 = .ok (.iconst (-1), 1) := dq_2 (dq_suf 11 dt38cX11_turnedOf_10 rfl rfl)
theorem dX11_turnedOf_172 : decode cX11_turnedOf 172 = .ok (.invokevirtual 242, 3) := dq_182 (dq_suf 12 dt38cX11_turnedOf_10 rfl rfl) rfl
theorem dX11_turnedOf_175 : decode cX11_turnedOf 175 = .ok (.ireturn, 1) := dq_172 (dq_suf 15 dt38cX11_turnedOf_10 rfl rfl)
noncomputable def ds38cX11_turn_9 : List UInt8 := 79 :: 132 :: 2 :: 255 :: 167 :: 255 :: 117 :: 42 :: 180 :: 0 :: 63 :: 27 :: 46 :: 172 :: []
noncomputable def ds38cX11_turn_8 : List UInt8 := 132 :: 2 :: 1 :: 167 :: 0 :: 17 :: 42 :: 180 :: 0 :: 63 :: 29 :: 42 :: 29 :: 182 :: 1 :: 5 :: ds38cX11_turn_9
noncomputable def ds38cX11_turn_7 : List UInt8 := 2 :: 160 :: 0 :: 21 :: 42 :: 180 :: 0 :: 60 :: 28 :: 42 :: 180 :: 0 :: 23 :: 29 :: 46 :: 79 :: ds38cX11_turn_8
noncomputable def ds38cX11_turn_6 : List UInt8 := 46 :: 8 :: 160 :: 0 :: 36 :: 42 :: 180 :: 0 :: 63 :: 42 :: 180 :: 0 :: 23 :: 29 :: 46 :: 46 :: ds38cX11_turn_7
noncomputable def ds38cX11_turn_5 : List UInt8 := 70 :: 42 :: 180 :: 0 :: 16 :: 29 :: 46 :: 7 :: 159 :: 0 :: 13 :: 42 :: 180 :: 0 :: 16 :: 29 :: ds38cX11_turn_6
noncomputable def ds38cX11_turn_4 : List UInt8 := 180 :: 0 :: 60 :: 28 :: 42 :: 180 :: 0 :: 20 :: 29 :: 46 :: 79 :: 132 :: 2 :: 1 :: 167 :: 0 :: ds38cX11_turn_5
noncomputable def ds38cX11_turn_3 : List UInt8 := 42 :: 180 :: 0 :: 63 :: 42 :: 180 :: 0 :: 20 :: 29 :: 46 :: 46 :: 2 :: 160 :: 0 :: 21 :: 42 :: ds38cX11_turn_4
noncomputable def ds38cX11_turn_2 : List UInt8 := 132 :: 2 :: 255 :: 167 :: 0 :: 113 :: 42 :: 180 :: 0 :: 16 :: 29 :: 46 :: 6 :: 164 :: 0 :: 36 :: ds38cX11_turn_3
noncomputable def ds38cX11_turn_1 : List UInt8 := 60 :: 28 :: 4 :: 100 :: 46 :: 62 :: 42 :: 180 :: 0 :: 63 :: 29 :: 46 :: 2 :: 159 :: 0 :: 9 :: ds38cX11_turn_2
noncomputable def ds38cX11_turn_0 : List UInt8 := 42 :: 180 :: 0 :: 60 :: 3 :: 27 :: 79 :: 4 :: 61 :: 28 :: 158 :: 0 :: 141 :: 42 :: 180 :: 0 :: ds38cX11_turn_1
theorem dt38cX11_turn_0 : cX11_turn.data.toList.drop 0 = ds38cX11_turn_0 := by decide +kernel
theorem dt38cX11_turn_1 : cX11_turn.data.toList.drop 16 = ds38cX11_turn_1 := dq_suf 16 dt38cX11_turn_0 rfl rfl
theorem dt38cX11_turn_2 : cX11_turn.data.toList.drop 32 = ds38cX11_turn_2 := dq_suf 16 dt38cX11_turn_1 rfl rfl
theorem dt38cX11_turn_3 : cX11_turn.data.toList.drop 48 = ds38cX11_turn_3 := dq_suf 16 dt38cX11_turn_2 rfl rfl
theorem dt38cX11_turn_4 : cX11_turn.data.toList.drop 64 = ds38cX11_turn_4 := dq_suf 16 dt38cX11_turn_3 rfl rfl
theorem dt38cX11_turn_5 : cX11_turn.data.toList.drop 80 = ds38cX11_turn_5 := dq_suf 16 dt38cX11_turn_4 rfl rfl
theorem dX11_turn_0 : decode cX11_turn 0 = .ok (.aload_n 0, 1) := dq_42 (dq_suf 0 dt38cX11_turn_0 rfl rfl)
theorem dX11_turn_1 : decode cX11_turn 1 = .ok (.getfield 60, 3) := dq_180 (dq_suf 1 dt38cX11_turn_0 rfl rfl) rfl
theorem dX11_turn_4 : decode cX11_turn 4 = .ok (.iconst 0, 1) := dq_3 (dq_suf 4 dt38cX11_turn_0 rfl rfl)
theorem dX11_turn_5 : decode cX11_turn 5 = .ok (.iload_n 1, 1) := dq_27 (dq_suf 5 dt38cX11_turn_0 rfl rfl)
theorem dX11_turn_6 : decode cX11_turn 6 = .ok (.iastore, 1) := dq_79 (dq_suf 6 dt38cX11_turn_0 rfl rfl)
theorem dX11_turn_7 : decode cX11_turn 7 = .ok (.iconst 1, 1) := dq_4 (dq_suf 7 dt38cX11_turn_0 rfl rfl)
theorem dX11_turn_8 : decode cX11_turn 8 = .ok (.istore_n 2, 1) := dq_61 (dq_suf 8 dt38cX11_turn_0 rfl rfl)
theorem dX11_turn_9 : decode cX11_turn 9 = .ok (.iload_n 2, 1) := dq_28 (dq_suf 9 dt38cX11_turn_0 rfl rfl)
theorem dX11_turn_10 : decode cX11_turn 10 = .ok (.ifCond .le 141, 3) := dq_158 (dq_suf 10 dt38cX11_turn_0 rfl rfl) (by decide +kernel)
theorem dX11_turn_13 : decode cX11_turn 13 = .ok (.aload_n 0, 1) := dq_42 (dq_suf 13 dt38cX11_turn_0 rfl rfl)
theorem dX11_turn_14 : decode cX11_turn 14 = .ok (.getfield 60, 3) := dq_180 (dq_suf 14 dt38cX11_turn_0 rfl rfl) rfl
theorem dX11_turn_17 : decode cX11_turn 17 = .ok (.iload_n 2, 1) := dq_28 (dq_suf 1 dt38cX11_turn_1 rfl rfl)
theorem dX11_turn_18 : decode cX11_turn 18 = .ok (.iconst 1, 1) := dq_4 (dq_suf 2 dt38cX11_turn_1 rfl rfl)
theorem dX11_turn_19 : decode cX11_turn 19 = .ok (.isub, 1) := dq_100 (dq_suf 3 dt38cX11_turn_1 rfl rfl)
theorem dX11_turn_20 : decode cX11_turn 20 = .ok (.iaload, 1) := dq_46 (dq_suf 4 dt38cX11_turn_1 rfl rfl)
theorem dX11_turn_21 : decode cX11_turn 21 = .ok (.istore_n 3, 1) := dq_62 (dq_suf 5 dt38cX11_turn_1 rfl rfl)
theorem dX11_turn_22 : decode cX11_turn 22 = .ok (.aload_n 0, 1) := dq_42 (dq_suf 6 dt38cX11_turn_1 rfl rfl)
theorem dX11_turn_23 : decode cX11_turn 23 = .ok (.getfield 63, 3) := dq_180 (dq_suf 7 dt38cX11_turn_1 rfl rfl) rfl
theorem dX11_turn_26 : decode cX11_turn 26 = .ok (.iload_n 3, 1) := dq_29 (dq_suf 10 dt38cX11_turn_1 rfl rfl)
theorem dX11_turn_27 : decode cX11_turn 27 = .ok (.iaload, 1) := dq_46 (dq_suf 11 dt38cX11_turn_1 rfl rfl)
theorem dX11_turn_28 : decode cX11_turn 28 = .ok (.iconst (-1), 1) := dq_2 (dq_suf 12 dt38cX11_turn_1 rfl rfl)
theorem dX11_turn_29 : decode cX11_turn 29 = .ok (.if_icmp .eq 9, 3) := dq_159 (dq_suf 13 dt38cX11_turn_1 rfl rfl) (by decide +kernel)
theorem dX11_turn_32 : decode cX11_turn 32 = .ok (.iinc 2 (-1), 3) := dq_132 (dq_suf 0 dt38cX11_turn_2 rfl rfl) rfl (by decide +kernel)
theorem dX11_turn_35 : decode cX11_turn 35 = .ok (.goto 113, 3) := dq_167 (dq_suf 3 dt38cX11_turn_2 rfl rfl) (by decide +kernel)
theorem dX11_turn_38 : decode cX11_turn 38 = .ok (.aload_n 0, 1) := dq_42 (dq_suf 6 dt38cX11_turn_2 rfl rfl)
theorem dX11_turn_39 : decode cX11_turn 39 = .ok (.getfield 16, 3) := dq_180 (dq_suf 7 dt38cX11_turn_2 rfl rfl) rfl
theorem dX11_turn_42 : decode cX11_turn 42 = .ok (.iload_n 3, 1) := dq_29 (dq_suf 10 dt38cX11_turn_2 rfl rfl)
theorem dX11_turn_43 : decode cX11_turn 43 = .ok (.iaload, 1) := dq_46 (dq_suf 11 dt38cX11_turn_2 rfl rfl)
theorem dX11_turn_44 : decode cX11_turn 44 = .ok (.iconst 3, 1) := dq_6 (dq_suf 12 dt38cX11_turn_2 rfl rfl)
theorem dX11_turn_45 : decode cX11_turn 45 = .ok (.if_icmp .le 36, 3) := dq_164 (dq_suf 13 dt38cX11_turn_2 rfl rfl) (by decide +kernel)
theorem dX11_turn_48 : decode cX11_turn 48 = .ok (.aload_n 0, 1) := dq_42 (dq_suf 0 dt38cX11_turn_3 rfl rfl)
theorem dX11_turn_49 : decode cX11_turn 49 = .ok (.getfield 63, 3) := dq_180 (dq_suf 1 dt38cX11_turn_3 rfl rfl) rfl
theorem dX11_turn_52 : decode cX11_turn 52 = .ok (.aload_n 0, 1) := dq_42 (dq_suf 4 dt38cX11_turn_3 rfl rfl)
theorem dX11_turn_53 : decode cX11_turn 53 = .ok (.getfield 20, 3) := dq_180 (dq_suf 5 dt38cX11_turn_3 rfl rfl) rfl
theorem dX11_turn_56 : decode cX11_turn 56 = .ok (.iload_n 3, 1) := dq_29 (dq_suf 8 dt38cX11_turn_3 rfl rfl)
theorem dX11_turn_57 : decode cX11_turn 57 = .ok (.iaload, 1) := dq_46 (dq_suf 9 dt38cX11_turn_3 rfl rfl)
theorem dX11_turn_58 : decode cX11_turn 58 = .ok (.iaload, 1) := dq_46 (dq_suf 10 dt38cX11_turn_3 rfl rfl)
theorem dX11_turn_59 : decode cX11_turn 59 = .ok (.iconst (-1), 1) := dq_2 (dq_suf 11 dt38cX11_turn_3 rfl rfl)
theorem dX11_turn_60 : decode cX11_turn 60 = .ok (.if_icmp .ne 21, 3) := dq_160 (dq_suf 12 dt38cX11_turn_3 rfl rfl) (by decide +kernel)
theorem dX11_turn_63 : decode cX11_turn 63 = .ok (.aload_n 0, 1) := dq_42 (dq_suf 15 dt38cX11_turn_3 rfl rfl)
theorem dX11_turn_64 : decode cX11_turn 64 = .ok (.getfield 60, 3) := dq_180 (dq_suf 0 dt38cX11_turn_4 rfl rfl) rfl
theorem dX11_turn_67 : decode cX11_turn 67 = .ok (.iload_n 2, 1) := dq_28 (dq_suf 3 dt38cX11_turn_4 rfl rfl)
theorem dX11_turn_68 : decode cX11_turn 68 = .ok (.aload_n 0, 1) := dq_42 (dq_suf 4 dt38cX11_turn_4 rfl rfl)
theorem dX11_turn_69 : decode cX11_turn 69 = .ok (.getfield 20, 3) := dq_180 (dq_suf 5 dt38cX11_turn_4 rfl rfl) rfl
theorem dX11_turn_72 : decode cX11_turn 72 = .ok (.iload_n 3, 1) := dq_29 (dq_suf 8 dt38cX11_turn_4 rfl rfl)
theorem dX11_turn_73 : decode cX11_turn 73 = .ok (.iaload, 1) := dq_46 (dq_suf 9 dt38cX11_turn_4 rfl rfl)
theorem dX11_turn_74 : decode cX11_turn 74 = .ok (.iastore, 1) := dq_79 (dq_suf 10 dt38cX11_turn_4 rfl rfl)
theorem dX11_turn_75 : decode cX11_turn 75 = .ok (.iinc 2 1, 3) := dq_132 (dq_suf 11 dt38cX11_turn_4 rfl rfl) rfl (by decide +kernel)
theorem dX11_turn_78 : decode cX11_turn 78 = .ok (.goto 70, 3) := dq_167 (dq_suf 14 dt38cX11_turn_4 rfl rfl) (by decide +kernel)
theorem dX11_turn_81 : decode cX11_turn 81 = .ok (.aload_n 0, 1) := dq_42 (dq_suf 1 dt38cX11_turn_5 rfl rfl)
theorem dX11_turn_82 : decode cX11_turn 82 = .ok (.getfield 16, 3) := dq_180 (dq_suf 2 dt38cX11_turn_5 rfl rfl) rfl
theorem dX11_turn_85 : decode cX11_turn 85 = .ok (.iload_n 3, 1) := dq_29 (dq_suf 5 dt38cX11_turn_5 rfl rfl)
theorem dX11_turn_86 : decode cX11_turn 86 = .ok (.iaload, 1) := dq_46 (dq_suf 6 dt38cX11_turn_5 rfl rfl)
theorem dX11_turn_87 : decode cX11_turn 87 = .ok (.iconst 4, 1) := dq_7 (dq_suf 7 dt38cX11_turn_5 rfl rfl)
theorem dX11_turn_88 : decode cX11_turn 88 = .ok (.if_icmp .eq 13, 3) := dq_159 (dq_suf 8 dt38cX11_turn_5 rfl rfl) (by decide +kernel)
theorem dX11_turn_91 : decode cX11_turn 91 = .ok (.aload_n 0, 1) := dq_42 (dq_suf 11 dt38cX11_turn_5 rfl rfl)
theorem dX11_turn_92 : decode cX11_turn 92 = .ok (.getfield 16, 3) := dq_180 (dq_suf 12 dt38cX11_turn_5 rfl rfl) rfl
